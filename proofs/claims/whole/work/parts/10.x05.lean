noncomputable section
/-! VineRows.copy -/
abbrev rm_X5_copy : Room := { frames := 1, cells := 0, slots := 0, locals := 38 }
def B_X5_copy_103 (p1 : Int32) (p2 : Int32) (p3 : Int32) (p4 : Int32) (p5 : Int32) (σ : zSt) : Option (Int32 × zSt) := zbd (M_X5_faulted (3 : Int32) σ) (fun x20 σ19 => some (x20, σ19))
def B_X5_copy_55 (p1 : Int32) (p2 : Int32) (p3 : Int32) (p4 : Int32) (p5 : Int32) (σ : zSt) : Option (Int32 × zSt) := zbd (M_X5_faulted (1 : Int32) σ) (fun x22 σ21 => some (x22, σ21))
def M_X5_copy (p1 : Int32) (p2 : Int32) (p3 : Int32) (p4 : Int32) (p5 : Int32) (σ : zSt) : Option (Int32 × zSt) := znm (zsu σ 0 (upd (σ 0) 7 (0 : Int32))) (fun σ1 => zbd (M_X5_isSheet p1 σ1) (fun x3 σ2 => (if x3 = 0 then some ((-1 : Int32), σ2) else zbd (M_X5_isSheet p3 σ2) (fun x5 σ4 => (if x5 = 0 then some ((-1 : Int32), σ4) else zgr p1 4 2 (fun q6 => zgr p3 4 2 (fun q7 => znm (σ4 q6 1) (fun x8 => (if x8 = (-1 : Int32) then B_X5_copy_55 p1 p2 p3 p4 p5 σ4 else znm (σ4 q7 1) (fun x9 => (if x9 = (-1 : Int32) then B_X5_copy_55 p1 p2 p3 p4 p5 σ4 else znm (σ4 q6 1) (fun x10 => znm (σ4 q7 1) (fun x11 => (if x10 = x11 then zbd (M_X2_has q6 p2 p5 σ4) (fun x13 σ12 => (if x13 = 0 then B_X5_copy_103 p1 p2 p3 p4 p5 σ12 else zbd (M_X2_has q7 p4 p5 σ12) (fun x15 σ14 => (if x15 = 0 then B_X5_copy_103 p1 p2 p3 p4 p5 σ14 else zcp σ14 (q6 + 4) (q7 + 4) 60 60 p2 p4 p5 (fun σ16 => some (p5, σ16)))))) else zbd (M_X5_faulted (2 : Int32) σ4) (fun x18 σ17 => some (x18, σ17))))))))))))))))
set_option maxRecDepth 20000 in
theorem tB_X5_copy_103 {p : Program} {l : Launch} {e : Env} {s : State} {m : MethodId} {args : Array Value} {below : List Frame} {meth : Method} {c : Code} {D : va_G} {a : Nat → Nat} {cI cO cA : ClassId} {o : Int32 × zSt} (C : zC p s m args meth c D (ztys cI cO cA) 51 a cX5_copy 8 RX5 (some .int)) {p1 : Int32} {p2 : Int32} {p3 : Int32} {p4 : Int32} {p5 : Int32}  (σ : zSt) (h : B_X5_copy_103 p1 p2 p3 p4 p5   σ = some o) : zV p l e rm_X5_copy s m args below meth c D 51 a (fX a cI cO cA) 8 (zQi below args s D 51 a (fX a cI cO cA) o) σ 103 [some (.ref (a 0)), none, none, none, none, none, none, none] [] := by
  unfold B_X5_copy_103 at h
  refine r_aload_n (x := (a 0)) C dX5_copy_103 rfl ?_
  refine r_iconst (v := 3) C dX5_copy_104 (by decide) ?_
  refine r_callVi C [.int (3 : Int32)] [] (b := 0) (by decide) fX_0 rfl rfl zc_X5_61 zB_X5_faulted ⟨rfl, rfl, by decide, by decide⟩ (fun out h => c_X5_faulted C.2.2.2.2.2.2.2.1  h) rfl rfl (Nat.le_of_ble_eq_true rfl) dX5_copy_105 h (fun x20 σ19 h => ?_)
  exact r_iret C dX5_copy_108 h
set_option maxRecDepth 20000 in
theorem tB_X5_copy_55 {p : Program} {l : Launch} {e : Env} {s : State} {m : MethodId} {args : Array Value} {below : List Frame} {meth : Method} {c : Code} {D : va_G} {a : Nat → Nat} {cI cO cA : ClassId} {o : Int32 × zSt} (C : zC p s m args meth c D (ztys cI cO cA) 51 a cX5_copy 8 RX5 (some .int)) {p1 : Int32} {p2 : Int32} {p3 : Int32} {p4 : Int32} {p5 : Int32}  (σ : zSt) (h : B_X5_copy_55 p1 p2 p3 p4 p5   σ = some o) : zV p l e rm_X5_copy s m args below meth c D 51 a (fX a cI cO cA) 8 (zQi below args s D 51 a (fX a cI cO cA) o) σ 55 [some (.ref (a 0)), none, none, none, none, none, none, none] [] := by
  unfold B_X5_copy_55 at h
  refine r_aload_n (x := (a 0)) C dX5_copy_55 rfl ?_
  refine r_iconst (v := 1) C dX5_copy_56 (by decide) ?_
  refine r_callVi C [.int (1 : Int32)] [] (b := 0) (by decide) fX_0 rfl rfl zc_X5_61 zB_X5_faulted ⟨rfl, rfl, by decide, by decide⟩ (fun out h => c_X5_faulted C.2.2.2.2.2.2.2.1  h) rfl rfl (Nat.le_of_ble_eq_true rfl) dX5_copy_57 h (fun x22 σ21 h => ?_)
  exact r_iret C dX5_copy_60 h
set_option maxRecDepth 20000 in
theorem c_X5_copy {l : Launch} {D : va_G} {a : Nat → Nat} {cI cO cA : ClassId} (hinj : ∀ i j, i < 51 → j < 51 → a i = a j → i = j) {p1 : Int32} {p2 : Int32} {p3 : Int32} {p4 : Int32} {p5 : Int32} {σ : zSt} {o : Int32 × zSt} (h : M_X5_copy p1 p2 p3 p4 p5 σ = some o) : zMi l D (ztys cI cO cA) 51 a (fX a cI cO cA) yX5_copy cX5_copy 8 (some .int) rm_X5_copy [.ref (a 0), .int p1, .int p2, .int p3, .int p4, .int p5] σ o := by
  unfold M_X5_copy at h
  refine zmeti (own := RX5) [some (.ref (a 0)), some (.int p1), some (.int p2), some (.int p3), some (.int p4), some (.int p5), none, none] (by decide) rfl hinj (Nat.le_of_ble_eq_true rfl) rfl (fun p e s m args below meth c C => ?_)
  refine r_aload_n (x := (a 0)) C dX5_copy_0 rfl ?_
  refine r_iconst (v := 0) C dX5_copy_1 (by decide) ?_
  refine pf_X5_42 C dX5_copy_2 h (fun σ1 h => ?_)
  refine r_iload_n (x := p1) C dX5_copy_5 rfl ?_
  refine r_callSi C [.int p1] [] zc_X5_46 zB_X5_isSheet ⟨rfl, rfl, by decide, by decide⟩ (fun out h => c_X5_isSheet C.2.2.2.2.2.2.2.1  h) rfl rfl (Nat.le_of_ble_eq_true rfl) dX5_copy_6 h (fun x3 σ2 h => ?_)
  refine r_if_eq (tgt := 19) C dX5_copy_9 (by decide) h (fun h => ?_) (fun h => ?_)
  · refine r_iconst (v := -1) C dX5_copy_19 (by decide) ?_
    exact r_iret C dX5_copy_20 h
  · refine r_iload_n (x := p3) C dX5_copy_12 rfl ?_
    refine r_callSi C [.int p3] [] zc_X5_46 zB_X5_isSheet ⟨rfl, rfl, by decide, by decide⟩ (fun out h => c_X5_isSheet C.2.2.2.2.2.2.2.1  h) rfl rfl (Nat.le_of_ble_eq_true rfl) dX5_copy_13 h (fun x5 σ4 h => ?_)
    refine r_if_ne (tgt := 21) C dX5_copy_16 (by decide) h (fun h => ?_) (fun h => ?_)
    · refine r_aload_n (x := (a 0)) C dX5_copy_21 rfl ?_
      refine gf_X5_37 C dX5_copy_22 ?_
      refine r_iload_n (x := p1) C dX5_copy_25 rfl ?_
      refine r_aald (t0 := 1) C 1 aX_sheets rfl rfl dX5_copy_26 h (fun q6 hq6 lq6 h => ?_)
      refine r_astore (lv' := [some (.ref (a 0)), some (.int p1), some (.int p2), some (.int p3), some (.int p4), some (.int p5), some (.ref (a q6)), none]) C dX5_copy_27 (by decide) rfl rfl ?_
      refine r_aload_n (x := (a 0)) C dX5_copy_29 rfl ?_
      refine gf_X5_37 C dX5_copy_30 ?_
      refine r_iload_n (x := p3) C dX5_copy_33 rfl ?_
      refine r_aald (t0 := 1) C 1 aX_sheets rfl rfl dX5_copy_34 h (fun q7 hq7 lq7 h => ?_)
      refine r_astore (lv' := [some (.ref (a 0)), some (.int p1), some (.int p2), some (.int p3), some (.int p4), some (.int p5), some (.ref (a q6)), some (.ref (a q7))]) C dX5_copy_35 (by decide) rfl rfl ?_
      refine r_aload (x := (a q6)) C dX5_copy_37 rfl ?_
      refine gf_X5_199 C ⟨hq6, lq6⟩ dX5_copy_39 h (fun x8 h => ?_)
      refine r_iconst (v := -1) C dX5_copy_42 (by decide) ?_
      refine r_icmp_eq (tgt := 55) C dX5_copy_43 (by decide) h (fun h => ?_) (fun h => ?_)
      · exact r_le (lv' := [some (.ref (a 0)), none, none, none, none, none, none, none]) ⟨rfl, trivial⟩ (tB_X5_copy_55 C σ4 h)
      · refine r_aload (x := (a q7)) C dX5_copy_46 rfl ?_
        refine gf_X5_199 C ⟨hq7, lq7⟩ dX5_copy_48 h (fun x9 h => ?_)
        refine r_iconst (v := -1) C dX5_copy_51 (by decide) ?_
        refine r_icmp_ne (tgt := 61) C dX5_copy_52 (by decide) h (fun h => ?_) (fun h => ?_)
        · refine r_aload (x := (a q6)) C dX5_copy_61 rfl ?_
          refine gf_X5_199 C ⟨hq6, lq6⟩ dX5_copy_63 h (fun x10 h => ?_)
          refine r_aload (x := (a q7)) C dX5_copy_66 rfl ?_
          refine gf_X5_199 C ⟨hq7, lq7⟩ dX5_copy_68 h (fun x11 h => ?_)
          refine r_icmp_eq (tgt := 80) C dX5_copy_71 (by decide) h (fun h => ?_) (fun h => ?_)
          · refine r_aload (x := (a q6)) C dX5_copy_80 rfl ?_
            refine r_iload_n (x := p2) C dX5_copy_82 rfl ?_
            refine r_iload (x := p5) C dX5_copy_83 rfl ?_
            refine r_callVi C [.int p2, .int p5] [] (b := q6) (by omega) (fX_sheet ⟨hq6, lq6⟩) rfl rfl zc_X5_57 zB_X2_has ⟨rfl, rfl, by decide, by decide⟩ (fun out h => c_X2_has C.2.2.2.2.2.2.2.1 ⟨hq6, lq6⟩ h) rfl rfl (Nat.le_of_ble_eq_true rfl) dX5_copy_85 h (fun x13 σ12 h => ?_)
            refine r_if_eq (tgt := 103) C dX5_copy_88 (by decide) h (fun h => ?_) (fun h => ?_)
            · exact r_le (lv' := [some (.ref (a 0)), none, none, none, none, none, none, none]) ⟨rfl, trivial⟩ (tB_X5_copy_103 C σ12 h)
            · refine r_aload (x := (a q7)) C dX5_copy_91 rfl ?_
              refine r_iload (x := p4) C dX5_copy_93 rfl ?_
              refine r_iload (x := p5) C dX5_copy_95 rfl ?_
              refine r_callVi C [.int p4, .int p5] [] (b := q7) (by omega) (fX_sheet ⟨hq7, lq7⟩) rfl rfl zc_X5_57 zB_X2_has ⟨rfl, rfl, by decide, by decide⟩ (fun out h => c_X2_has C.2.2.2.2.2.2.2.1 ⟨hq7, lq7⟩ h) rfl rfl (Nat.le_of_ble_eq_true rfl) dX5_copy_97 h (fun x15 σ14 h => ?_)
              refine r_if_ne (tgt := 109) C dX5_copy_100 (by decide) h (fun h => ?_) (fun h => ?_)
              · refine r_aload (x := (a q6)) C dX5_copy_109 rfl ?_
                refine gf_X5_202 C ⟨hq6, lq6⟩ dX5_copy_111 ?_
                refine r_iload_n (x := p2) C dX5_copy_114 rfl ?_
                refine r_aload (x := (a q7)) C dX5_copy_115 rfl ?_
                refine gf_X5_202 C ⟨hq7, lq7⟩ dX5_copy_117 ?_
                refine r_iload (x := p4) C dX5_copy_120 rfl ?_
                refine r_iload (x := p5) C dX5_copy_122 rfl ?_
                refine r_copy (t0 := 0) C (q6 + 4) (q7 + 4) (aX_cells ⟨hq6, lq6⟩) (aX_cells ⟨hq7, lq7⟩) rfl ⟨zw305, zw98, zw99, zw100⟩ (by decide) (Nat.le_of_ble_eq_true (by decide +kernel)) dX5_copy_124 h (fun σ16 h => ?_)
                refine r_iload (x := p5) C dX5_copy_127 rfl ?_
                exact r_iret C dX5_copy_129 h
              · exact r_le (lv' := [some (.ref (a 0)), none, none, none, none, none, none, none]) ⟨rfl, trivial⟩ (tB_X5_copy_103 C σ14 h)
          · refine r_aload_n (x := (a 0)) C dX5_copy_74 rfl ?_
            refine r_iconst (v := 2) C dX5_copy_75 (by decide) ?_
            refine r_callVi C [.int (2 : Int32)] [] (b := 0) (by decide) fX_0 rfl rfl zc_X5_61 zB_X5_faulted ⟨rfl, rfl, by decide, by decide⟩ (fun out h => c_X5_faulted C.2.2.2.2.2.2.2.1  h) rfl rfl (Nat.le_of_ble_eq_true rfl) dX5_copy_76 h (fun x18 σ17 h => ?_)
            exact r_iret C dX5_copy_79 h
        · exact r_le (lv' := [some (.ref (a 0)), none, none, none, none, none, none, none]) ⟨rfl, trivial⟩ (tB_X5_copy_55 C σ4 h)
    · refine r_iconst (v := -1) C dX5_copy_19 (by decide) ?_
      exact r_iret C dX5_copy_20 h
/-! VineRows.leave -/
abbrev rm_X5_leave : Room := { frames := 0, cells := 0, slots := 0, locals := 0 }
def M_X5_leave (p1 : Int32) (σ : zSt) : Option (zSt) := znm (σ 0 6) (fun x1 => znm (zsu σ 0 (upd (σ 0) 6 (((31 : Int32) * x1) + p1))) (fun σ2 => some σ2))
set_option maxRecDepth 20000 in
theorem c_X5_leave {l : Launch} {D : va_G} {a : Nat → Nat} {cI cO cA : ClassId} (hinj : ∀ i j, i < 51 → j < 51 → a i = a j → i = j) {p1 : Int32} {σ : zSt} {o : zSt} (h : M_X5_leave p1 σ = some o) : zMv l D (ztys cI cO cA) 51 a (fX a cI cO cA) yX5_leave cX5_leave 2 none rm_X5_leave [.ref (a 0), .int p1] σ o := by
  unfold M_X5_leave at h
  refine zmetv (own := RX5) [some (.ref (a 0)), some (.int p1)] (by decide) rfl hinj (Nat.le_of_ble_eq_true rfl) rfl (fun p e s m args below meth c C => ?_)
  refine r_aload_n (x := (a 0)) C dX5_leave_0 rfl ?_
  refine r_bipush (v := 31) C dX5_leave_1 (by decide) ?_
  refine r_aload_n (x := (a 0)) C dX5_leave_3 rfl ?_
  refine gf_X5_227 C dX5_leave_4 h (fun x1 h => ?_)
  refine r_imul C dX5_leave_7 ?_
  refine r_iload_n (x := p1) C dX5_leave_8 rfl ?_
  refine r_iadd C dX5_leave_9 ?_
  refine pf_X5_227 C dX5_leave_10 h (fun σ2 h => ?_)
  exact r_vret C dX5_leave_13 h
/-! VineRows.tellPlain -/
abbrev rm_X5_tellPlain : Room := { frames := 1, cells := 0, slots := 0, locals := 21 }
def M_X5_tellPlain (p1 : Int32) (σ : zSt) : Option (Int32 × zSt) := zbv (M_X5_leave (1 : Int32) σ) (fun σ1 => zga (σ1 (10 + 2)) p1 8 (fun x2 => some (x2, σ1)))
set_option maxRecDepth 20000 in
theorem c_X5_tellPlain {l : Launch} {D : va_G} {a : Nat → Nat} {cI cO cA : ClassId} (hinj : ∀ i j, i < 51 → j < 51 → a i = a j → i = j) {p1 : Int32} {σ : zSt} {o : Int32 × zSt} (h : M_X5_tellPlain p1 σ = some o) : zMi l D (ztys cI cO cA) 51 a (fX a cI cO cA) yX5_tellPlain cX5_tellPlain 2 (some .int) rm_X5_tellPlain [.ref (a 0), .int p1] σ o := by
  unfold M_X5_tellPlain at h
  refine zmeti (own := RX5) [some (.ref (a 0)), some (.int p1)] (by decide) rfl hinj (Nat.le_of_ble_eq_true rfl) rfl (fun p e s m args below meth c C => ?_)
  refine r_aload_n (x := (a 0)) C dX5_tellPlain_0 rfl ?_
  refine r_iconst (v := 1) C dX5_tellPlain_1 (by decide) ?_
  refine r_callVv C [.int (1 : Int32)] [] (b := 0) (by decide) fX_0 rfl rfl zc_X5_223 zB_X5_leave ⟨rfl, rfl, by decide, by decide⟩ (fun out h => c_X5_leave C.2.2.2.2.2.2.2.1  h) rfl rfl (Nat.le_of_ble_eq_true rfl) dX5_tellPlain_2 h (fun σ1 h => ?_)
  refine r_aload_n (x := (a 0)) C dX5_tellPlain_5 rfl ?_
  refine gf_X5_14 C dX5_tellPlain_6 ?_
  refine gf_X5_90 C (Or.inl rfl) dX5_tellPlain_9 ?_
  refine r_iload_n (x := p1) C dX5_tellPlain_12 rfl ?_
  refine r_iald (t0 := 0) C (10 + 2) (aX_v2 (Or.inl rfl)) rfl dX5_tellPlain_13 h (fun x2 h => ?_)
  exact r_iret C dX5_tellPlain_14 h
/-! VineRows.tellBroad -/
abbrev rm_X5_tellBroad : Room := { frames := 2, cells := 0, slots := 0, locals := 42 }
def M_X5_tellBroad (p1 : Int32) (σ : zSt) : Option (Int32 × zSt) := zbv (M_X5_leave (2 : Int32) σ) (fun σ1 => zbd (M_X5_tellPlain p1 σ1) (fun x3 σ2 => some ((x3 + (100 : Int32)), σ2)))
set_option maxRecDepth 20000 in
theorem c_X5_tellBroad {l : Launch} {D : va_G} {a : Nat → Nat} {cI cO cA : ClassId} (hinj : ∀ i j, i < 51 → j < 51 → a i = a j → i = j) {p1 : Int32} {σ : zSt} {o : Int32 × zSt} (h : M_X5_tellBroad p1 σ = some o) : zMi l D (ztys cI cO cA) 51 a (fX a cI cO cA) yX5_tellBroad cX5_tellBroad 2 (some .int) rm_X5_tellBroad [.ref (a 0), .int p1] σ o := by
  unfold M_X5_tellBroad at h
  refine zmeti (own := RX5) [some (.ref (a 0)), some (.int p1)] (by decide) rfl hinj (Nat.le_of_ble_eq_true rfl) rfl (fun p e s m args below meth c C => ?_)
  refine r_aload_n (x := (a 0)) C dX5_tellBroad_0 rfl ?_
  refine r_iconst (v := 2) C dX5_tellBroad_1 (by decide) ?_
  refine r_callVv C [.int (2 : Int32)] [] (b := 0) (by decide) fX_0 rfl rfl zc_X5_223 zB_X5_leave ⟨rfl, rfl, by decide, by decide⟩ (fun out h => c_X5_leave C.2.2.2.2.2.2.2.1  h) rfl rfl (Nat.le_of_ble_eq_true rfl) dX5_tellBroad_2 h (fun σ1 h => ?_)
  refine r_aload_n (x := (a 0)) C dX5_tellBroad_5 rfl ?_
  refine r_iload_n (x := p1) C dX5_tellBroad_6 rfl ?_
  refine r_callVi C [.int p1] [] (b := 0) (by decide) fX_0 rfl rfl zc_X5_220 zB_X5_tellPlain ⟨rfl, rfl, by decide, by decide⟩ (fun out h => c_X5_tellPlain C.2.2.2.2.2.2.2.1  h) rfl rfl (Nat.le_of_ble_eq_true rfl) dX5_tellBroad_7 h (fun x3 σ2 h => ?_)
  refine r_bipush (v := 100) C dX5_tellBroad_10 (by decide) ?_
  refine r_iadd C dX5_tellBroad_12 ?_
  exact r_iret C dX5_tellBroad_13 h
/-! VineRows.tellDouble -/
abbrev rm_X5_tellDouble : Room := { frames := 3, cells := 0, slots := 0, locals := 63 }
def M_X5_tellDouble (p1 : Int32) (σ : zSt) : Option (Int32 × zSt) := zbv (M_X5_leave (3 : Int32) σ) (fun σ1 => zbd (M_X5_tellBroad p1 σ1) (fun x3 σ2 => zbd (M_X5_tellPlain p1 σ2) (fun x5 σ4 => some ((x3 + x5), σ4))))
set_option maxRecDepth 20000 in
theorem c_X5_tellDouble {l : Launch} {D : va_G} {a : Nat → Nat} {cI cO cA : ClassId} (hinj : ∀ i j, i < 51 → j < 51 → a i = a j → i = j) {p1 : Int32} {σ : zSt} {o : Int32 × zSt} (h : M_X5_tellDouble p1 σ = some o) : zMi l D (ztys cI cO cA) 51 a (fX a cI cO cA) yX5_tellDouble cX5_tellDouble 3 (some .int) rm_X5_tellDouble [.ref (a 0), .int p1] σ o := by
  unfold M_X5_tellDouble at h
  refine zmeti (own := RX5) [some (.ref (a 0)), some (.int p1), none] (by decide) rfl hinj (Nat.le_of_ble_eq_true rfl) rfl (fun p e s m args below meth c C => ?_)
  refine r_aload_n (x := (a 0)) C dX5_tellDouble_0 rfl ?_
  refine r_iconst (v := 3) C dX5_tellDouble_1 (by decide) ?_
  refine r_callVv C [.int (3 : Int32)] [] (b := 0) (by decide) fX_0 rfl rfl zc_X5_223 zB_X5_leave ⟨rfl, rfl, by decide, by decide⟩ (fun out h => c_X5_leave C.2.2.2.2.2.2.2.1  h) rfl rfl (Nat.le_of_ble_eq_true rfl) dX5_tellDouble_2 h (fun σ1 h => ?_)
  refine r_aload_n (x := (a 0)) C dX5_tellDouble_5 rfl ?_
  refine r_iload_n (x := p1) C dX5_tellDouble_6 rfl ?_
  refine r_callVi C [.int p1] [] (b := 0) (by decide) fX_0 rfl rfl zc_X5_217 zB_X5_tellBroad ⟨rfl, rfl, by decide, by decide⟩ (fun out h => c_X5_tellBroad C.2.2.2.2.2.2.2.1  h) rfl rfl (Nat.le_of_ble_eq_true rfl) dX5_tellDouble_7 h (fun x3 σ2 h => ?_)
  refine r_istore_n (lv' := [some (.ref (a 0)), some (.int p1), some (.int x3)]) C dX5_tellDouble_10 (by decide) rfl rfl ?_
  refine r_iload_n (x := x3) C dX5_tellDouble_11 rfl ?_
  refine r_aload_n (x := (a 0)) C dX5_tellDouble_12 rfl ?_
  refine r_iload_n (x := p1) C dX5_tellDouble_13 rfl ?_
  refine r_callVi C [.int p1] [.int x3] (b := 0) (by decide) fX_0 rfl rfl zc_X5_220 zB_X5_tellPlain ⟨rfl, rfl, by decide, by decide⟩ (fun out h => c_X5_tellPlain C.2.2.2.2.2.2.2.1  h) rfl rfl (Nat.le_of_ble_eq_true rfl) dX5_tellDouble_14 h (fun x5 σ4 h => ?_)
  refine r_iadd C dX5_tellDouble_17 ?_
  exact r_iret C dX5_tellDouble_18 h
/-! VineRows.tell -/
abbrev rm_X5_tell : Room := { frames := 4, cells := 0, slots := 0, locals := 85 }
def M_X5_tell (p1 : Int32) (σ : zSt) : Option (Int32 × zSt) := zbd (M_X4_isPost 10 p1 σ) (fun x2 σ1 => (if x2 = 0 then some ((-1 : Int32), σ1) else zga (σ1 (10 + 1)) p1 8 (fun x3 => (if x3 = (1 : Int32) then zbd (M_X5_tellBroad p1 σ1) (fun x5 σ4 => some (x5, σ4)) else (if x3 = (2 : Int32) then zbd (M_X5_tellDouble p1 σ1) (fun x7 σ6 => some (x7, σ6)) else (zbd (M_X5_tellPlain p1 σ1) (fun x9 σ8 => some (x9, σ8))))))))
set_option maxRecDepth 20000 in
theorem c_X5_tell {l : Launch} {D : va_G} {a : Nat → Nat} {cI cO cA : ClassId} (hinj : ∀ i j, i < 51 → j < 51 → a i = a j → i = j) {p1 : Int32} {σ : zSt} {o : Int32 × zSt} (h : M_X5_tell p1 σ = some o) : zMi l D (ztys cI cO cA) 51 a (fX a cI cO cA) yX5_tell cX5_tell 2 (some .int) rm_X5_tell [.ref (a 0), .int p1] σ o := by
  unfold M_X5_tell at h
  refine zmeti (own := RX5) [some (.ref (a 0)), some (.int p1)] (by decide) rfl hinj (Nat.le_of_ble_eq_true rfl) rfl (fun p e s m args below meth c C => ?_)
  refine r_aload_n (x := (a 0)) C dX5_tell_0 rfl ?_
  refine gf_X5_14 C dX5_tell_1 ?_
  refine r_iload_n (x := p1) C dX5_tell_4 rfl ?_
  refine r_callVi C [.int p1] [] (b := 10) (by decide) (fX_vine (Or.inl rfl)) rfl rfl zc_X5_83 zB_X4_isPost ⟨rfl, rfl, by decide, by decide⟩ (fun out h => c_X4_isPost C.2.2.2.2.2.2.2.1 (Or.inl rfl) h) rfl rfl (Nat.le_of_ble_eq_true rfl) dX5_tell_5 h (fun x2 σ1 h => ?_)
  refine r_if_ne (tgt := 13) C dX5_tell_8 (by decide) h (fun h => ?_) (fun h => ?_)
  · refine r_aload_n (x := (a 0)) C dX5_tell_13 rfl ?_
    refine gf_X5_14 C dX5_tell_14 ?_
    refine gf_X5_86 C (Or.inl rfl) dX5_tell_17 ?_
    refine r_iload_n (x := p1) C dX5_tell_20 rfl ?_
    refine r_iald (t0 := 0) C (10 + 1) (aX_v1 (Or.inl rfl)) rfl dX5_tell_21 h (fun x3 h => ?_)
    by_cases hx0 : x3 = (1 : Int32)
    · rw [if_pos hx0] at h
      refine r_lookup (tgt := 54) (off := 32) C dX5_tell_22 (by decide) (by rw [hx0]; decide) (by decide) ?_
      refine r_aload_n (x := (a 0)) C dX5_tell_54 rfl ?_
      refine r_iload_n (x := p1) C dX5_tell_55 rfl ?_
      refine r_callVi C [.int p1] [] (b := 0) (by decide) fX_0 rfl rfl zc_X5_217 zB_X5_tellBroad ⟨rfl, rfl, by decide, by decide⟩ (fun out h => c_X5_tellBroad C.2.2.2.2.2.2.2.1  h) rfl rfl (Nat.le_of_ble_eq_true rfl) dX5_tell_56 h (fun x5 σ4 h => ?_)
      exact r_iret C dX5_tell_59 h
    · rw [if_neg hx0] at h
      by_cases hx1 : x3 = (2 : Int32)
      · rw [if_pos hx1] at h
        refine r_lookup (tgt := 48) (off := 26) C dX5_tell_22 (by decide) (by rw [hx1]; decide) (by decide) ?_
        refine r_aload_n (x := (a 0)) C dX5_tell_48 rfl ?_
        refine r_iload_n (x := p1) C dX5_tell_49 rfl ?_
        refine r_callVi C [.int p1] [] (b := 0) (by decide) fX_0 rfl rfl zc_X5_214 zB_X5_tellDouble ⟨rfl, rfl, by decide, by decide⟩ (fun out h => c_X5_tellDouble C.2.2.2.2.2.2.2.1  h) rfl rfl (Nat.le_of_ble_eq_true rfl) dX5_tell_50 h (fun x7 σ6 h => ?_)
        exact r_iret C dX5_tell_53 h
      · rw [if_neg hx1] at h
        refine r_lookup (tgt := 60) (off := 38) C dX5_tell_22 (by decide) (by rw [lv_osw hx0 (by decide)]; rw [lv_osw hx1 (by decide)]; rfl) (by decide) ?_
        refine r_aload_n (x := (a 0)) C dX5_tell_60 rfl ?_
        refine r_iload_n (x := p1) C dX5_tell_61 rfl ?_
        refine r_callVi C [.int p1] [] (b := 0) (by decide) fX_0 rfl rfl zc_X5_220 zB_X5_tellPlain ⟨rfl, rfl, by decide, by decide⟩ (fun out h => c_X5_tellPlain C.2.2.2.2.2.2.2.1  h) rfl rfl (Nat.le_of_ble_eq_true rfl) dX5_tell_62 h (fun x9 σ8 h => ?_)
        exact r_iret C dX5_tell_65 h
  · refine r_iconst (v := -1) C dX5_tell_11 (by decide) ?_
    exact r_iret C dX5_tell_12 h
/-! VineRows.knock -/
abbrev rm_X5_knock : Room := { frames := 1, cells := 0, slots := 0, locals := 21 }
def M_X5_knock (p1 : Int32) (σ : zSt) : Option (Int32 × zSt) := zbd (M_X4_isPost 10 p1 σ) (fun x2 σ1 => (if x2 = 0 then some ((-1 : Int32), σ1) else zga (σ1 (10 + 1)) p1 8 (fun x3 => (if x3 = (2 : Int32) then zbv (M_X5_leave (5 : Int32) σ1) (fun σ8 => some ((80 : Int32), σ8)) else zbv (M_X5_leave (4 : Int32) σ1) (fun σ4 => zga (σ4 (10 + 3)) p1 8 (fun x5 => zbd (M_J6_bitCount_0f7a4 x5 σ4) (fun x7 σ6 => some (x7, σ6))))))))
set_option maxRecDepth 20000 in
theorem c_X5_knock {l : Launch} {D : va_G} {a : Nat → Nat} {cI cO cA : ClassId} (hinj : ∀ i j, i < 51 → j < 51 → a i = a j → i = j) {p1 : Int32} {σ : zSt} {o : Int32 × zSt} (h : M_X5_knock p1 σ = some o) : zMi l D (ztys cI cO cA) 51 a (fX a cI cO cA) yX5_knock cX5_knock 2 (some .int) rm_X5_knock [.ref (a 0), .int p1] σ o := by
  unfold M_X5_knock at h
  refine zmeti (own := RX5) [some (.ref (a 0)), some (.int p1)] (by decide) rfl hinj (Nat.le_of_ble_eq_true rfl) rfl (fun p e s m args below meth c C => ?_)
  refine r_aload_n (x := (a 0)) C dX5_knock_0 rfl ?_
  refine gf_X5_14 C dX5_knock_1 ?_
  refine r_iload_n (x := p1) C dX5_knock_4 rfl ?_
  refine r_callVi C [.int p1] [] (b := 10) (by decide) (fX_vine (Or.inl rfl)) rfl rfl zc_X5_83 zB_X4_isPost ⟨rfl, rfl, by decide, by decide⟩ (fun out h => c_X4_isPost C.2.2.2.2.2.2.2.1 (Or.inl rfl) h) rfl rfl (Nat.le_of_ble_eq_true rfl) dX5_knock_5 h (fun x2 σ1 h => ?_)
  refine r_if_ne (tgt := 13) C dX5_knock_8 (by decide) h (fun h => ?_) (fun h => ?_)
  · refine r_aload_n (x := (a 0)) C dX5_knock_13 rfl ?_
    refine gf_X5_14 C dX5_knock_14 ?_
    refine gf_X5_86 C (Or.inl rfl) dX5_knock_17 ?_
    refine r_iload_n (x := p1) C dX5_knock_20 rfl ?_
    refine r_iald (t0 := 0) C (10 + 1) (aX_v1 (Or.inl rfl)) rfl dX5_knock_21 h (fun x3 h => ?_)
    refine r_iconst (v := 2) C dX5_knock_22 (by decide) ?_
    refine r_icmp_ne (tgt := 34) C dX5_knock_23 (by decide) h (fun h => ?_) (fun h => ?_)
    · refine r_aload_n (x := (a 0)) C dX5_knock_34 rfl ?_
      refine r_iconst (v := 4) C dX5_knock_35 (by decide) ?_
      refine r_callVv C [.int (4 : Int32)] [] (b := 0) (by decide) fX_0 rfl rfl zc_X5_223 zB_X5_leave ⟨rfl, rfl, by decide, by decide⟩ (fun out h => c_X5_leave C.2.2.2.2.2.2.2.1  h) rfl rfl (Nat.le_of_ble_eq_true rfl) dX5_knock_36 h (fun σ4 h => ?_)
      refine r_aload_n (x := (a 0)) C dX5_knock_39 rfl ?_
      refine gf_X5_14 C dX5_knock_40 ?_
      refine gf_X5_96 C (Or.inl rfl) dX5_knock_43 ?_
      refine r_iload_n (x := p1) C dX5_knock_46 rfl ?_
      refine r_iald (t0 := 0) C (10 + 3) (aX_v3 (Or.inl rfl)) rfl dX5_knock_47 h (fun x5 h => ?_)
      refine r_callSi C [.int x5] [] zc_X5_99 zB_J6_bitCount_0f7a4 ⟨rfl, rfl, by decide, by decide⟩ (fun out h => c_J6_bitCount_0f7a4 C.2.2.2.2.2.2.2.1  h) rfl rfl (Nat.le_of_ble_eq_true rfl) dX5_knock_48 h (fun x7 σ6 h => ?_)
      exact r_iret C dX5_knock_51 h
    · refine r_aload_n (x := (a 0)) C dX5_knock_26 rfl ?_
      refine r_iconst (v := 5) C dX5_knock_27 (by decide) ?_
      refine r_callVv C [.int (5 : Int32)] [] (b := 0) (by decide) fX_0 rfl rfl zc_X5_223 zB_X5_leave ⟨rfl, rfl, by decide, by decide⟩ (fun out h => c_X5_leave C.2.2.2.2.2.2.2.1  h) rfl rfl (Nat.le_of_ble_eq_true rfl) dX5_knock_28 h (fun σ8 h => ?_)
      refine r_bipush (v := 80) C dX5_knock_31 (by decide) ?_
      exact r_iret C dX5_knock_33 h
  · refine r_iconst (v := -1) C dX5_knock_11 (by decide) ?_
    exact r_iret C dX5_knock_12 h
/-! VineRows.as -/
abbrev rm_X5_as : Room := { frames := 1, cells := 0, slots := 0, locals := 21 }
def M_X5_as (p1 : Int32) (p2 : Int32) (σ : zSt) : Option (Int32 × zSt) := znm (zsu σ 0 (upd (σ 0) 7 (0 : Int32))) (fun σ1 => zbd (M_X4_isPost 10 p1 σ1) (fun x3 σ2 => (if x3 = 0 then some ((-1 : Int32), σ2) else (if p2 < 0 then some ((-2 : Int32), σ2) else (if p2 ≤ (2 : Int32) then zga (σ2 (10 + 1)) p1 8 (fun x4 => (if p2 ≤ x4 then some ((1 : Int32), σ2) else zbd (M_X5_faulted (2 : Int32) σ2) (fun x6 σ5 => some (x6, σ5)))) else some ((-2 : Int32), σ2))))))
set_option maxRecDepth 20000 in
theorem c_X5_as {l : Launch} {D : va_G} {a : Nat → Nat} {cI cO cA : ClassId} (hinj : ∀ i j, i < 51 → j < 51 → a i = a j → i = j) {p1 : Int32} {p2 : Int32} {σ : zSt} {o : Int32 × zSt} (h : M_X5_as p1 p2 σ = some o) : zMi l D (ztys cI cO cA) 51 a (fX a cI cO cA) yX5_as cX5_as 3 (some .int) rm_X5_as [.ref (a 0), .int p1, .int p2] σ o := by
  unfold M_X5_as at h
  refine zmeti (own := RX5) [some (.ref (a 0)), some (.int p1), some (.int p2)] (by decide) rfl hinj (Nat.le_of_ble_eq_true rfl) rfl (fun p e s m args below meth c C => ?_)
  refine r_aload_n (x := (a 0)) C dX5_as_0 rfl ?_
  refine r_iconst (v := 0) C dX5_as_1 (by decide) ?_
  refine pf_X5_42 C dX5_as_2 h (fun σ1 h => ?_)
  refine r_aload_n (x := (a 0)) C dX5_as_5 rfl ?_
  refine gf_X5_14 C dX5_as_6 ?_
  refine r_iload_n (x := p1) C dX5_as_9 rfl ?_
  refine r_callVi C [.int p1] [] (b := 10) (by decide) (fX_vine (Or.inl rfl)) rfl rfl zc_X5_83 zB_X4_isPost ⟨rfl, rfl, by decide, by decide⟩ (fun out h => c_X4_isPost C.2.2.2.2.2.2.2.1 (Or.inl rfl) h) rfl rfl (Nat.le_of_ble_eq_true rfl) dX5_as_10 h (fun x3 σ2 h => ?_)
  refine r_if_ne (tgt := 18) C dX5_as_13 (by decide) h (fun h => ?_) (fun h => ?_)
  · refine r_iload_n (x := p2) C dX5_as_18 rfl ?_
    refine r_if_lt (tgt := 27) C dX5_as_19 (by decide) h (fun h => ?_) (fun h => ?_)
    · refine r_bipush (v := -2) C dX5_as_27 (by decide) ?_
      exact r_iret C dX5_as_29 h
    · refine r_iload_n (x := p2) C dX5_as_22 rfl ?_
      refine r_iconst (v := 2) C dX5_as_23 (by decide) ?_
      refine r_icmp_le (tgt := 30) C dX5_as_24 (by decide) h (fun h => ?_) (fun h => ?_)
      · refine r_aload_n (x := (a 0)) C dX5_as_30 rfl ?_
        refine gf_X5_14 C dX5_as_31 ?_
        refine gf_X5_86 C (Or.inl rfl) dX5_as_34 ?_
        refine r_iload_n (x := p1) C dX5_as_37 rfl ?_
        refine r_iald (t0 := 0) C (10 + 1) (aX_v1 (Or.inl rfl)) rfl dX5_as_38 h (fun x4 h => ?_)
        refine r_iload_n (x := p2) C dX5_as_39 rfl ?_
        refine r_icmp_ge (tgt := 51) C dX5_as_40 (by decide) h (fun h => ?_) (fun h => ?_)
        · refine r_iconst (v := 1) C dX5_as_51 (by decide) ?_
          exact r_iret C dX5_as_52 h
        · refine r_aload_n (x := (a 0)) C dX5_as_43 rfl ?_
          refine r_iconst (v := 2) C dX5_as_44 (by decide) ?_
          refine r_callVi C [.int (2 : Int32)] [] (b := 0) (by decide) fX_0 rfl rfl zc_X5_61 zB_X5_faulted ⟨rfl, rfl, by decide, by decide⟩ (fun out h => c_X5_faulted C.2.2.2.2.2.2.2.1  h) rfl rfl (Nat.le_of_ble_eq_true rfl) dX5_as_45 h (fun x6 σ5 h => ?_)
          refine r_goto (tgt := 52) C dX5_as_48 (by decide) ?_
          exact r_iret C dX5_as_52 h
      · refine r_bipush (v := -2) C dX5_as_27 (by decide) ?_
        exact r_iret C dX5_as_29 h
  · refine r_iconst (v := -1) C dX5_as_16 (by decide) ?_
    exact r_iret C dX5_as_17 h
/-! VineRows.trace -/
abbrev rm_X5_trace : Room := { frames := 0, cells := 0, slots := 0, locals := 0 }
def M_X5_trace (σ : zSt) : Option (Int32 × zSt) := znm (σ 0 6) (fun x1 => some (x1, σ))
set_option maxRecDepth 20000 in
theorem c_X5_trace {l : Launch} {D : va_G} {a : Nat → Nat} {cI cO cA : ClassId} (hinj : ∀ i j, i < 51 → j < 51 → a i = a j → i = j) {σ : zSt} {o : Int32 × zSt} (h : M_X5_trace  σ = some o) : zMi l D (ztys cI cO cA) 51 a (fX a cI cO cA) yX5_trace cX5_trace 1 (some .int) rm_X5_trace [.ref (a 0)] σ o := by
  unfold M_X5_trace at h
  refine zmeti (own := RX5) [some (.ref (a 0))] (by decide) rfl hinj (Nat.le_of_ble_eq_true rfl) rfl (fun p e s m args below meth c C => ?_)
  refine r_aload_n (x := (a 0)) C dX5_trace_0 rfl ?_
  refine gf_X5_227 C dX5_trace_1 h (fun x1 h => ?_)
  exact r_iret C dX5_trace_4 h
/-! VineRows.fault -/
abbrev rm_X5_fault : Room := { frames := 0, cells := 0, slots := 0, locals := 0 }
def M_X5_fault (σ : zSt) : Option (Int32 × zSt) := znm (σ 0 7) (fun x1 => some (x1, σ))
set_option maxRecDepth 20000 in
theorem c_X5_fault {l : Launch} {D : va_G} {a : Nat → Nat} {cI cO cA : ClassId} (hinj : ∀ i j, i < 51 → j < 51 → a i = a j → i = j) {σ : zSt} {o : Int32 × zSt} (h : M_X5_fault  σ = some o) : zMi l D (ztys cI cO cA) 51 a (fX a cI cO cA) yX5_fault cX5_fault 1 (some .int) rm_X5_fault [.ref (a 0)] σ o := by
  unfold M_X5_fault at h
  refine zmeti (own := RX5) [some (.ref (a 0))] (by decide) rfl hinj (Nat.le_of_ble_eq_true rfl) rfl (fun p e s m args below meth c C => ?_)
  refine r_aload_n (x := (a 0)) C dX5_fault_0 rfl ?_
  refine gf_X5_42 C dX5_fault_1 h (fun x1 h => ?_)
  exact r_iret C dX5_fault_4 h
/-! VineRows.many -/
abbrev rm_X5_many : Room := { frames := 3, cells := 0, slots := 0, locals := 63 }
def M_X5_many (p1 : Int32) (σ : zSt) : Option (Int32 × zSt) := (if p1 = (0 : Int32) then znm (σ 10 0) (fun x1 => some (x1, σ)) else (if p1 = (1 : Int32) then znm (σ 0 5) (fun x2 => some (x2, σ)) else (if p1 = (2 : Int32) then zbd (M_X4_ends 10 σ) (fun x4 σ3 => zbd (M_J6_bitCount_0f7a4 x4 σ3) (fun x6 σ5 => some (x6, σ5))) else (if p1 = (3 : Int32) then znm (σ 47 0) (fun x7 => some (x7, σ)) else (some ((-2 : Int32), σ))))))
set_option maxRecDepth 20000 in
theorem c_X5_many {l : Launch} {D : va_G} {a : Nat → Nat} {cI cO cA : ClassId} (hinj : ∀ i j, i < 51 → j < 51 → a i = a j → i = j) {p1 : Int32} {σ : zSt} {o : Int32 × zSt} (h : M_X5_many p1 σ = some o) : zMi l D (ztys cI cO cA) 51 a (fX a cI cO cA) yX5_many cX5_many 2 (some .int) rm_X5_many [.ref (a 0), .int p1] σ o := by
  unfold M_X5_many at h
  refine zmeti (own := RX5) [some (.ref (a 0)), some (.int p1)] (by decide) rfl hinj (Nat.le_of_ble_eq_true rfl) rfl (fun p e s m args below meth c C => ?_)
  refine r_iload_n (x := p1) C dX5_many_0 rfl ?_
  by_cases hx0 : p1 = (0 : Int32)
  · rw [if_pos hx0] at h
    refine r_tableIn (tgt := 32) (off := 31) C dX5_many_1 (by rw [hx0]; decide) (by rw [hx0]; decide) (by rw [hx0]; decide) (by decide) ?_
    refine r_aload_n (x := (a 0)) C dX5_many_32 rfl ?_
    refine gf_X5_14 C dX5_many_33 ?_
    refine gf_X5_80 C (Or.inl rfl) dX5_many_36 h (fun x1 h => ?_)
    exact r_iret C dX5_many_39 h
  · rw [if_neg hx0] at h
    by_cases hx1 : p1 = (1 : Int32)
    · rw [if_pos hx1] at h
      refine r_tableIn (tgt := 40) (off := 39) C dX5_many_1 (by rw [hx1]; decide) (by rw [hx1]; decide) (by rw [hx1]; decide) (by decide) ?_
      refine r_aload_n (x := (a 0)) C dX5_many_40 rfl ?_
      refine gf_X5_74 C dX5_many_41 h (fun x2 h => ?_)
      exact r_iret C dX5_many_44 h
    · rw [if_neg hx1] at h
      by_cases hx2 : p1 = (2 : Int32)
      · rw [if_pos hx2] at h
        refine r_tableIn (tgt := 45) (off := 44) C dX5_many_1 (by rw [hx2]; decide) (by rw [hx2]; decide) (by rw [hx2]; decide) (by decide) ?_
        refine r_aload_n (x := (a 0)) C dX5_many_45 rfl ?_
        refine gf_X5_14 C dX5_many_46 ?_
        refine r_callVi C [] [] (b := 10) (by decide) (fX_vine (Or.inl rfl)) rfl rfl zc_X5_152 zB_X4_ends ⟨rfl, rfl, by decide, by decide⟩ (fun out h => c_X4_ends C.2.2.2.2.2.2.2.1 (Or.inl rfl) h) rfl rfl (Nat.le_of_ble_eq_true rfl) dX5_many_49 h (fun x4 σ3 h => ?_)
        refine r_callSi C [.int x4] [] zc_X5_99 zB_J6_bitCount_0f7a4 ⟨rfl, rfl, by decide, by decide⟩ (fun out h => c_J6_bitCount_0f7a4 C.2.2.2.2.2.2.2.1  h) rfl rfl (Nat.le_of_ble_eq_true rfl) dX5_many_52 h (fun x6 σ5 h => ?_)
        exact r_iret C dX5_many_55 h
      · rw [if_neg hx2] at h
        by_cases hx3 : p1 = (3 : Int32)
        · rw [if_pos hx3] at h
          refine r_tableIn (tgt := 56) (off := 55) C dX5_many_1 (by rw [hx3]; decide) (by rw [hx3]; decide) (by rw [hx3]; decide) (by decide) ?_
          refine r_aload_n (x := (a 0)) C dX5_many_56 rfl ?_
          refine gf_X5_31 C dX5_many_57 ?_
          refine gf_X5_77 C dX5_many_60 h (fun x7 h => ?_)
          exact r_iret C dX5_many_63 h
        · rw [if_neg hx3] at h
          have hy0 := zne (n := 0) hx0 (by decide)
          have hy1 := zne (n := 1) hx1 (by decide)
          have hy2 := zne (n := 2) hx2 (by decide)
          have hy3 := zne (n := 3) hx3 (by decide)
          refine r_tableOut (tgt := 64) C dX5_many_1 (by omega) (by decide) ?_
          refine r_bipush (v := -2) C dX5_many_64 (by decide) ?_
          exact r_iret C dX5_many_66 h
end
