noncomputable section
/-! VineRowsModel.fails -/
abbrev rm_X6_fails : Room := { frames := 0, cells := 0, slots := 0, locals := 0 }
def M_X6_fails (p1 : Int32) (σ : zSt) : Option (Int32 × zSt) := znm (zsu σ 0 (upd (σ 0) 0 p1)) (fun σ1 => some (((-10 : Int32) - p1), σ1))
set_option maxRecDepth 20000 in
theorem c_X6_fails {l : Launch} {D : va_G} {a : Nat → Nat} {cI cO cA : ClassId} (hinj : ∀ i j, i < 21 → j < 21 → a i = a j → i = j) {p1 : Int32} {σ : zSt} {o : Int32 × zSt} (h : M_X6_fails p1 σ = some o) : zMi l D (ztys cI cO cA) 21 a (fM a cI) yX6_fails cX6_fails 2 (some .int) rm_X6_fails [.ref (a 0), .int p1] σ o := by
  unfold M_X6_fails at h
  refine zmeti (own := RX6) [some (.ref (a 0)), some (.int p1)] (by decide) rfl hinj (Nat.le_of_ble_eq_true rfl) rfl (fun p e s m args below meth c C => ?_)
  refine r_aload_n (x := (a 0)) C dX6_fails_0 rfl ?_
  refine r_iload_n (x := p1) C dX6_fails_1 rfl ?_
  refine pf_X6_70 C dX6_fails_2 h (fun σ1 h => ?_)
  refine r_bipush (v := -10) C dX6_fails_5 (by decide) ?_
  refine r_iload_n (x := p1) C dX6_fails_7 rfl ?_
  refine r_isub C dX6_fails_8 ?_
  exact r_iret C dX6_fails_9 h
/-! VineRowsModel.lost -/
abbrev rm_X6_lost : Room := { frames := 0, cells := 0, slots := 0, locals := 0 }
def M_X6_lost (p1 : Int32) (σ : zSt) : Option (Int64 × zSt) := znm (zsu σ 0 (upd (σ 0) 0 p1)) (fun σ1 => some ((-9223372036854775808 : Int64), σ1))
set_option maxRecDepth 20000 in
theorem c_X6_lost {l : Launch} {D : va_G} {a : Nat → Nat} {cI cO cA : ClassId} (hinj : ∀ i j, i < 21 → j < 21 → a i = a j → i = j) {p1 : Int32} {σ : zSt} {o : Int64 × zSt} (h : M_X6_lost p1 σ = some o) : zMl l D (ztys cI cO cA) 21 a (fM a cI) yX6_lost cX6_lost 2 (some .long) rm_X6_lost [.ref (a 0), .int p1] σ o := by
  unfold M_X6_lost at h
  refine zmetl (own := RX6) [some (.ref (a 0)), some (.int p1)] (by decide) rfl hinj (Nat.le_of_ble_eq_true rfl) rfl (fun p e s m args below meth c C => ?_)
  refine r_aload_n (x := (a 0)) C dX6_lost_0 rfl ?_
  refine r_iload_n (x := p1) C dX6_lost_1 rfl ?_
  refine pf_X6_70 C dX6_lost_2 h (fun σ1 h => ?_)
  refine r_ldc2 C zw328 dX6_lost_5 ?_
  exact r_lret C dX6_lost_8 h
/-! VineRowsModel.within -/
abbrev rm_X6_within : Room := { frames := 0, cells := 0, slots := 0, locals := 0 }
def M_X6_within (p1 : Int32) (p2 : Int32) (p3 : Int32) (σ : zSt) : Option (Int32 × zSt) := (if p1 < p2 then zgz (0 : Int32) σ else (if p3 < p1 then zgz (0 : Int32) σ else zgz (1 : Int32) σ))
set_option maxRecDepth 20000 in
theorem c_X6_within {l : Launch} {D : va_G} {a : Nat → Nat} {cI cO cA : ClassId} (hinj : ∀ i j, i < 21 → j < 21 → a i = a j → i = j) {p1 : Int32} {p2 : Int32} {p3 : Int32} {σ : zSt} {o : Int32 × zSt} (h : M_X6_within p1 p2 p3 σ = some o) : zMi l D (ztys cI cO cA) 21 a (fM a cI) yX6_within cX6_within 3 (some .boolean) rm_X6_within [.int p1, .int p2, .int p3] σ o := by
  unfold M_X6_within at h
  refine zmeti (own := RX6) [some (.int p1), some (.int p2), some (.int p3)] (by decide) rfl hinj (Nat.le_of_ble_eq_true rfl) rfl (fun p e s m args below meth c C => ?_)
  refine r_iload_n (x := p1) C dX6_within_0 rfl ?_
  refine r_iload_n (x := p2) C dX6_within_1 rfl ?_
  refine r_icmp_lt (tgt := 14) C dX6_within_2 (by decide) h (fun h => ?_) (fun h => ?_)
  · refine r_iconst (v := 0) C dX6_within_14 (by decide) ?_
    exact r_zret C dX6_within_15 h
  · refine r_iload_n (x := p1) C dX6_within_5 rfl ?_
    refine r_iload_n (x := p3) C dX6_within_6 rfl ?_
    refine r_icmp_gt (tgt := 14) C dX6_within_7 (by decide) h (fun h => ?_) (fun h => ?_)
    · refine r_iconst (v := 0) C dX6_within_14 (by decide) ?_
      exact r_zret C dX6_within_15 h
    · refine r_iconst (v := 1) C dX6_within_10 (by decide) ?_
      refine r_goto (tgt := 15) C dX6_within_11 (by decide) ?_
      exact r_zret C dX6_within_15 h
/-! VineRowsModel.isSheet -/
abbrev rm_X6_isSheet : Room := { frames := 1, cells := 0, slots := 0, locals := 22 }
def M_X6_isSheet (p1 : Int32) (σ : zSt) : Option (Int32 × zSt) := zbd (M_X6_within p1 (0 : Int32) (3 : Int32) σ) (fun x2 σ1 => zgz x2 σ1)
set_option maxRecDepth 20000 in
theorem c_X6_isSheet {l : Launch} {D : va_G} {a : Nat → Nat} {cI cO cA : ClassId} (hinj : ∀ i j, i < 21 → j < 21 → a i = a j → i = j) {p1 : Int32} {σ : zSt} {o : Int32 × zSt} (h : M_X6_isSheet p1 σ = some o) : zMi l D (ztys cI cO cA) 21 a (fM a cI) yX6_isSheet cX6_isSheet 1 (some .boolean) rm_X6_isSheet [.int p1] σ o := by
  unfold M_X6_isSheet at h
  refine zmeti (own := RX6) [some (.int p1)] (by decide) rfl hinj (Nat.le_of_ble_eq_true rfl) rfl (fun p e s m args below meth c C => ?_)
  refine r_iload_n (x := p1) C dX6_isSheet_0 rfl ?_
  refine r_iconst (v := 0) C dX6_isSheet_1 (by decide) ?_
  refine r_iconst (v := 3) C dX6_isSheet_2 (by decide) ?_
  refine r_callSi C [.int p1, .int (0 : Int32), .int (3 : Int32)] [] zc_X6_76 zB_X6_within ⟨rfl, rfl, by decide, by decide⟩ (fun out h => c_X6_within C.2.2.2.2.2.2.2.1  h) rfl rfl (Nat.le_of_ble_eq_true rfl) dX6_isSheet_3 h (fun x2 σ1 h => ?_)
  exact r_zret C dX6_isSheet_6 h
/-! VineRowsModel.isSort -/
abbrev rm_X6_isSort : Room := { frames := 1, cells := 0, slots := 0, locals := 22 }
def M_X6_isSort (p1 : Int32) (σ : zSt) : Option (Int32 × zSt) := zbd (M_X6_within p1 (0 : Int32) (2 : Int32) σ) (fun x2 σ1 => zgz x2 σ1)
set_option maxRecDepth 20000 in
theorem c_X6_isSort {l : Launch} {D : va_G} {a : Nat → Nat} {cI cO cA : ClassId} (hinj : ∀ i j, i < 21 → j < 21 → a i = a j → i = j) {p1 : Int32} {σ : zSt} {o : Int32 × zSt} (h : M_X6_isSort p1 σ = some o) : zMi l D (ztys cI cO cA) 21 a (fM a cI) yX6_isSort cX6_isSort 1 (some .boolean) rm_X6_isSort [.int p1] σ o := by
  unfold M_X6_isSort at h
  refine zmeti (own := RX6) [some (.int p1)] (by decide) rfl hinj (Nat.le_of_ble_eq_true rfl) rfl (fun p e s m args below meth c C => ?_)
  refine r_iload_n (x := p1) C dX6_isSort_0 rfl ?_
  refine r_iconst (v := 0) C dX6_isSort_1 (by decide) ?_
  refine r_iconst (v := 2) C dX6_isSort_2 (by decide) ?_
  refine r_callSi C [.int p1, .int (0 : Int32), .int (2 : Int32)] [] zc_X6_76 zB_X6_within ⟨rfl, rfl, by decide, by decide⟩ (fun out h => c_X6_within C.2.2.2.2.2.2.2.1  h) rfl rfl (Nat.le_of_ble_eq_true rfl) dX6_isSort_3 h (fun x2 σ1 h => ?_)
  exact r_zret C dX6_isSort_6 h
/-! VineRowsModel.against -/
abbrev rm_X6_against : Room := { frames := 0, cells := 0, slots := 0, locals := 0 }
def B_X6_against_70 (p1 : Int32) (p2 : Int32) (p3 : Int32) (p4 : Int32) (σ : zSt) : Option (Int32 × zSt) := some ((3 : Int32), σ)
def B_X6_against_23 (p1 : Int32) (p2 : Int32) (p3 : Int32) (p4 : Int32) (σ : zSt) : Option (Int32 × zSt) := zga (σ 1) p1 4 (fun x3 => (if x3 = (-9 : Int32) then some ((1 : Int32), σ) else (if 0 ≤ p4 then (if p3 < 0 then B_X6_against_70 p1 p2 p3 p4 σ else zga (σ 2) p1 4 (fun x4 => (if x4 < p3 then B_X6_against_70 p1 p2 p3 p4 σ else zga (σ 2) p1 4 (fun x5 => (if p4 ≤ (x5 - p3) then some ((0 : Int32), σ) else B_X6_against_70 p1 p2 p3 p4 σ))))) else some ((4 : Int32), σ))))
def M_X6_against (p1 : Int32) (p2 : Int32) (p3 : Int32) (p4 : Int32) (σ : zSt) : Option (Int32 × zSt) := zga (σ 1) p1 4 (fun x1 => (if x1 = (-9 : Int32) then B_X6_against_23 p1 p2 p3 p4 σ else zga (σ 1) p1 4 (fun x2 => (if x2 = p2 then B_X6_against_23 p1 p2 p3 p4 σ else some ((2 : Int32), σ)))))
set_option maxRecDepth 20000 in
theorem tB_X6_against_70 {p : Program} {l : Launch} {e : Env} {s : State} {m : MethodId} {args : Array Value} {below : List Frame} {meth : Method} {c : Code} {D : va_G} {a : Nat → Nat} {cI cO cA : ClassId} {o : Int32 × zSt} (C : zC p s m args meth c D (ztys cI cO cA) 21 a cX6_against 5 RX6 (some .int)) {p1 : Int32} {p2 : Int32} {p3 : Int32} {p4 : Int32}  (σ : zSt) (h : B_X6_against_70 p1 p2 p3 p4   σ = some o) : zV p l e rm_X6_against s m args below meth c D 21 a (fM a cI) 5 (zQi below args s D 21 a (fM a cI) o) σ 70 [none, none, none, none, none] [] := by
  unfold B_X6_against_70 at h
  refine r_iconst (v := 3) C dX6_against_70 (by decide) ?_
  refine r_goto (tgt := 75) C dX6_against_71 (by decide) ?_
  exact r_iret C dX6_against_75 h
set_option maxRecDepth 20000 in
theorem tB_X6_against_23 {p : Program} {l : Launch} {e : Env} {s : State} {m : MethodId} {args : Array Value} {below : List Frame} {meth : Method} {c : Code} {D : va_G} {a : Nat → Nat} {cI cO cA : ClassId} {o : Int32 × zSt} (C : zC p s m args meth c D (ztys cI cO cA) 21 a cX6_against 5 RX6 (some .int)) {p1 : Int32} {p2 : Int32} {p3 : Int32} {p4 : Int32}  (σ : zSt) (h : B_X6_against_23 p1 p2 p3 p4   σ = some o) : zV p l e rm_X6_against s m args below meth c D 21 a (fM a cI) 5 (zQi below args s D 21 a (fM a cI) o) σ 23 [some (.ref (a 0)), some (.int p1), none, some (.int p3), some (.int p4)] [] := by
  unfold B_X6_against_23 at h
  refine r_aload_n (x := (a 0)) C dX6_against_23 rfl ?_
  refine gf_X6_9 C dX6_against_24 ?_
  refine r_iload_n (x := p1) C dX6_against_27 rfl ?_
  refine r_iald (t0 := 0) C 1 aM_1 rfl dX6_against_28 h (fun x3 h => ?_)
  refine r_bipush (v := -9) C dX6_against_29 (by decide) ?_
  refine r_icmp_ne (tgt := 36) C dX6_against_31 (by decide) h (fun h => ?_) (fun h => ?_)
  · refine r_iload (x := p4) C dX6_against_36 rfl ?_
    refine r_if_ge (tgt := 43) C dX6_against_38 (by decide) h (fun h => ?_) (fun h => ?_)
    · refine r_iload_n (x := p3) C dX6_against_43 rfl ?_
      refine r_if_lt (tgt := 70) C dX6_against_44 (by decide) h (fun h => ?_) (fun h => ?_)
      · exact r_le (lv' := [none, none, none, none, none]) trivial (tB_X6_against_70 C σ h)
      · refine r_iload_n (x := p3) C dX6_against_47 rfl ?_
        refine r_aload_n (x := (a 0)) C dX6_against_48 rfl ?_
        refine gf_X6_13 C dX6_against_49 ?_
        refine r_iload_n (x := p1) C dX6_against_52 rfl ?_
        refine r_iald (t0 := 0) C 2 aM_2 rfl dX6_against_53 h (fun x4 h => ?_)
        refine r_icmp_gt (tgt := 70) C dX6_against_54 (by decide) h (fun h => ?_) (fun h => ?_)
        · exact r_le (lv' := [none, none, none, none, none]) trivial (tB_X6_against_70 C σ h)
        · refine r_iload (x := p4) C dX6_against_57 rfl ?_
          refine r_aload_n (x := (a 0)) C dX6_against_59 rfl ?_
          refine gf_X6_13 C dX6_against_60 ?_
          refine r_iload_n (x := p1) C dX6_against_63 rfl ?_
          refine r_iald (t0 := 0) C 2 aM_2 rfl dX6_against_64 h (fun x5 h => ?_)
          refine r_iload_n (x := p3) C dX6_against_65 rfl ?_
          refine r_isub C dX6_against_66 ?_
          refine r_icmp_le (tgt := 74) C dX6_against_67 (by decide) h (fun h => ?_) (fun h => ?_)
          · refine r_iconst (v := 0) C dX6_against_74 (by decide) ?_
            exact r_iret C dX6_against_75 h
          · exact r_le (lv' := [none, none, none, none, none]) trivial (tB_X6_against_70 C σ h)
    · refine r_iconst (v := 4) C dX6_against_41 (by decide) ?_
      exact r_iret C dX6_against_42 h
  · refine r_iconst (v := 1) C dX6_against_34 (by decide) ?_
    exact r_iret C dX6_against_35 h
set_option maxRecDepth 20000 in
theorem c_X6_against {l : Launch} {D : va_G} {a : Nat → Nat} {cI cO cA : ClassId} (hinj : ∀ i j, i < 21 → j < 21 → a i = a j → i = j) {p1 : Int32} {p2 : Int32} {p3 : Int32} {p4 : Int32} {σ : zSt} {o : Int32 × zSt} (h : M_X6_against p1 p2 p3 p4 σ = some o) : zMi l D (ztys cI cO cA) 21 a (fM a cI) yX6_against cX6_against 5 (some .int) rm_X6_against [.ref (a 0), .int p1, .int p2, .int p3, .int p4] σ o := by
  unfold M_X6_against at h
  refine zmeti (own := RX6) [some (.ref (a 0)), some (.int p1), some (.int p2), some (.int p3), some (.int p4)] (by decide) rfl hinj (Nat.le_of_ble_eq_true rfl) rfl (fun p e s m args below meth c C => ?_)
  refine r_aload_n (x := (a 0)) C dX6_against_0 rfl ?_
  refine gf_X6_9 C dX6_against_1 ?_
  refine r_iload_n (x := p1) C dX6_against_4 rfl ?_
  refine r_iald (t0 := 0) C 1 aM_1 rfl dX6_against_5 h (fun x1 h => ?_)
  refine r_bipush (v := -9) C dX6_against_6 (by decide) ?_
  refine r_icmp_eq (tgt := 23) C dX6_against_8 (by decide) h (fun h => ?_) (fun h => ?_)
  · exact r_le (lv' := [some (.ref (a 0)), some (.int p1), none, some (.int p3), some (.int p4)]) ⟨rfl, rfl, rfl, rfl, trivial⟩ (tB_X6_against_23 C σ h)
  · refine r_aload_n (x := (a 0)) C dX6_against_11 rfl ?_
    refine gf_X6_9 C dX6_against_12 ?_
    refine r_iload_n (x := p1) C dX6_against_15 rfl ?_
    refine r_iald (t0 := 0) C 1 aM_1 rfl dX6_against_16 h (fun x2 h => ?_)
    refine r_iload_n (x := p2) C dX6_against_17 rfl ?_
    refine r_icmp_eq (tgt := 23) C dX6_against_18 (by decide) h (fun h => ?_) (fun h => ?_)
    · exact r_le (lv' := [some (.ref (a 0)), some (.int p1), none, some (.int p3), some (.int p4)]) ⟨rfl, rfl, rfl, rfl, trivial⟩ (tB_X6_against_23 C σ h)
    · refine r_iconst (v := 2) C dX6_against_21 (by decide) ?_
      exact r_iret C dX6_against_22 h
/-! VineRowsModel.isPost -/
abbrev rm_X6_isPost : Room := { frames := 0, cells := 0, slots := 0, locals := 0 }
def M_X6_isPost (p1 : Int32) (σ : zSt) : Option (Int32 × zSt) := (if p1 < 0 then zgz (0 : Int32) σ else znm (σ 0 5) (fun x1 => (if x1 ≤ p1 then zgz (0 : Int32) σ else zgz (1 : Int32) σ)))
set_option maxRecDepth 20000 in
theorem c_X6_isPost {l : Launch} {D : va_G} {a : Nat → Nat} {cI cO cA : ClassId} (hinj : ∀ i j, i < 21 → j < 21 → a i = a j → i = j) {p1 : Int32} {σ : zSt} {o : Int32 × zSt} (h : M_X6_isPost p1 σ = some o) : zMi l D (ztys cI cO cA) 21 a (fM a cI) yX6_isPost cX6_isPost 2 (some .boolean) rm_X6_isPost [.ref (a 0), .int p1] σ o := by
  unfold M_X6_isPost at h
  refine zmeti (own := RX6) [some (.ref (a 0)), some (.int p1)] (by decide) rfl hinj (Nat.le_of_ble_eq_true rfl) rfl (fun p e s m args below meth c C => ?_)
  refine r_iload_n (x := p1) C dX6_isPost_0 rfl ?_
  refine r_if_lt (tgt := 16) C dX6_isPost_1 (by decide) h (fun h => ?_) (fun h => ?_)
  · refine r_iconst (v := 0) C dX6_isPost_16 (by decide) ?_
    exact r_zret C dX6_isPost_17 h
  · refine r_iload_n (x := p1) C dX6_isPost_4 rfl ?_
    refine r_aload_n (x := (a 0)) C dX6_isPost_5 rfl ?_
    refine gf_X6_80 C dX6_isPost_6 h (fun x1 h => ?_)
    refine r_icmp_ge (tgt := 16) C dX6_isPost_9 (by decide) h (fun h => ?_) (fun h => ?_)
    · refine r_iconst (v := 0) C dX6_isPost_16 (by decide) ?_
      exact r_zret C dX6_isPost_17 h
    · refine r_iconst (v := 1) C dX6_isPost_12 (by decide) ?_
      refine r_goto (tgt := 17) C dX6_isPost_13 (by decide) ?_
      exact r_zret C dX6_isPost_17 h
/-! VineRowsModel.areTwo -/
abbrev rm_X6_areTwo : Room := { frames := 1, cells := 0, slots := 0, locals := 21 }
def M_X6_areTwo (p1 : Int32) (p2 : Int32) (σ : zSt) : Option (Int32 × zSt) := zbd (M_X6_isPost p1 σ) (fun x2 σ1 => (if x2 = 0 then zgz (0 : Int32) σ1 else zbd (M_X6_isPost p2 σ1) (fun x4 σ3 => (if x4 = 0 then zgz (0 : Int32) σ3 else (if p1 = p2 then zgz (0 : Int32) σ3 else zgz (1 : Int32) σ3)))))
set_option maxRecDepth 20000 in
theorem c_X6_areTwo {l : Launch} {D : va_G} {a : Nat → Nat} {cI cO cA : ClassId} (hinj : ∀ i j, i < 21 → j < 21 → a i = a j → i = j) {p1 : Int32} {p2 : Int32} {σ : zSt} {o : Int32 × zSt} (h : M_X6_areTwo p1 p2 σ = some o) : zMi l D (ztys cI cO cA) 21 a (fM a cI) yX6_areTwo cX6_areTwo 3 (some .boolean) rm_X6_areTwo [.ref (a 0), .int p1, .int p2] σ o := by
  unfold M_X6_areTwo at h
  refine zmeti (own := RX6) [some (.ref (a 0)), some (.int p1), some (.int p2)] (by decide) rfl hinj (Nat.le_of_ble_eq_true rfl) rfl (fun p e s m args below meth c C => ?_)
  refine r_aload_n (x := (a 0)) C dX6_areTwo_0 rfl ?_
  refine r_iload_n (x := p1) C dX6_areTwo_1 rfl ?_
  refine r_callVi C [.int p1] [] (b := 0) (by decide) fM_0 rfl rfl zc_X6_83 zB_X6_isPost ⟨rfl, rfl, by decide, by decide⟩ (fun out h => c_X6_isPost C.2.2.2.2.2.2.2.1  h) rfl rfl (Nat.le_of_ble_eq_true rfl) dX6_areTwo_2 h (fun x2 σ1 h => ?_)
  refine r_if_eq (tgt := 25) C dX6_areTwo_5 (by decide) h (fun h => ?_) (fun h => ?_)
  · refine r_iconst (v := 0) C dX6_areTwo_25 (by decide) ?_
    exact r_zret C dX6_areTwo_26 h
  · refine r_aload_n (x := (a 0)) C dX6_areTwo_8 rfl ?_
    refine r_iload_n (x := p2) C dX6_areTwo_9 rfl ?_
    refine r_callVi C [.int p2] [] (b := 0) (by decide) fM_0 rfl rfl zc_X6_83 zB_X6_isPost ⟨rfl, rfl, by decide, by decide⟩ (fun out h => c_X6_isPost C.2.2.2.2.2.2.2.1  h) rfl rfl (Nat.le_of_ble_eq_true rfl) dX6_areTwo_10 h (fun x4 σ3 h => ?_)
    refine r_if_eq (tgt := 25) C dX6_areTwo_13 (by decide) h (fun h => ?_) (fun h => ?_)
    · refine r_iconst (v := 0) C dX6_areTwo_25 (by decide) ?_
      exact r_zret C dX6_areTwo_26 h
    · refine r_iload_n (x := p1) C dX6_areTwo_16 rfl ?_
      refine r_iload_n (x := p2) C dX6_areTwo_17 rfl ?_
      refine r_icmp_eq (tgt := 25) C dX6_areTwo_18 (by decide) h (fun h => ?_) (fun h => ?_)
      · refine r_iconst (v := 0) C dX6_areTwo_25 (by decide) ?_
        exact r_zret C dX6_areTwo_26 h
      · refine r_iconst (v := 1) C dX6_areTwo_21 (by decide) ?_
        refine r_goto (tgt := 26) C dX6_areTwo_22 (by decide) ?_
        exact r_zret C dX6_areTwo_26 h
/-! VineRowsModel.isOf -/
abbrev rm_X6_isOf : Room := { frames := 0, cells := 0, slots := 0, locals := 0 }
def M_X6_isOf (p1 : Int32) (p2 : Int32) (σ : zSt) : Option (Int32 × zSt) := (if (zbt p1 p2) = (1 : Int32) then zgz (1 : Int32) σ else zgz (0 : Int32) σ)
set_option maxRecDepth 20000 in
theorem c_X6_isOf {l : Launch} {D : va_G} {a : Nat → Nat} {cI cO cA : ClassId} (hinj : ∀ i j, i < 21 → j < 21 → a i = a j → i = j) {p1 : Int32} {p2 : Int32} {σ : zSt} {o : Int32 × zSt} (h : M_X6_isOf p1 p2 σ = some o) : zMi l D (ztys cI cO cA) 21 a (fM a cI) yX6_isOf cX6_isOf 2 (some .boolean) rm_X6_isOf [.int p1, .int p2] σ o := by
  unfold M_X6_isOf at h
  refine zmeti (own := RX6) [some (.int p1), some (.int p2)] (by decide) rfl hinj (Nat.le_of_ble_eq_true rfl) rfl (fun p e s m args below meth c C => ?_)
  refine r_iload_n (x := p1) C dX6_isOf_0 rfl ?_
  refine r_iload_n (x := p2) C dX6_isOf_1 rfl ?_
  refine r_ishr C dX6_isOf_2 ?_
  refine r_iconst (v := 1) C dX6_isOf_3 (by decide) ?_
  refine r_iand C dX6_isOf_4 ?_
  refine r_iconst (v := 1) C dX6_isOf_5 (by decide) ?_
  refine r_icmp_ne (tgt := 13) C dX6_isOf_6 (by decide) h (fun h => ?_) (fun h => ?_)
  · refine r_iconst (v := 0) C dX6_isOf_13 (by decide) ?_
    exact r_zret C dX6_isOf_14 h
  · refine r_iconst (v := 1) C dX6_isOf_9 (by decide) ?_
    refine r_goto (tgt := 14) C dX6_isOf_10 (by decide) ?_
    exact r_zret C dX6_isOf_14 h
/-! VineRowsModel.size -/
abbrev rm_X6_size : Room := { frames := 0, cells := 0, slots := 0, locals := 0 }
def B_X6_size_4 (p1 : Int32) (K4 : (Int32 → Int32 → zSt → Option (Int32 × zSt))) (v1 : Int32) (v2 : Int32) (σ : zSt) : Option (Int32 × zSt) := (if v2 ≤ 0 then some (v1, σ) else znm ((v1 + (v2 &&& (1 : Int32)))) (fun x1 => znm ((v2 >>> ((1 : Int32) &&& 31))) (fun x2 => K4 x1 x2 σ)))
def L_X6_size_4 (p1 : Int32) (v1 : Int32) (v2 : Int32) (σ : zSt) : Option (Int32 × zSt) := zloop (fun (rec : Int32 × Int32 × zSt → Option (Int32 × zSt)) x => B_X6_size_4 p1  (fun v1 v2 σ => rec (v1, v2, σ)) x.1 x.2.1 x.2.2) zFU (v1, v2, σ)
def M_X6_size (p1 : Int32) (σ : zSt) : Option (Int32 × zSt) := L_X6_size_4 p1 (0 : Int32) p1 σ
set_option maxRecDepth 20000 in
theorem tB_X6_size_4 {p : Program} {l : Launch} {e : Env} {s : State} {m : MethodId} {args : Array Value} {below : List Frame} {meth : Method} {c : Code} {D : va_G} {a : Nat → Nat} {cI cO cA : ClassId} {o : Int32 × zSt} (C : zC p s m args meth c D (ztys cI cO cA) 21 a cX6_size 3 RX6 (some .int)) {p1 : Int32} {K4 : (Int32 → Int32 → zSt → Option (Int32 × zSt))} (hK4 : ∀ (v1 : Int32) (v2 : Int32) (σ : zSt), K4 v1 v2 σ = some o → zV p l e rm_X6_size s m args below meth c D 21 a (fM a cI) 3 (zQi below args s D 21 a (fM a cI) o) σ 4 [none, some (.int v1), some (.int v2)] []) (v1 : Int32) (v2 : Int32) (σ : zSt) (h : B_X6_size_4 p1 K4 v1 v2 σ = some o) : zV p l e rm_X6_size s m args below meth c D 21 a (fM a cI) 3 (zQi below args s D 21 a (fM a cI) o) σ 4 [none, some (.int v1), some (.int v2)] [] := by
  unfold B_X6_size_4 at h
  refine r_iload_n (x := v2) C dX6_size_4 rfl ?_
  refine r_if_le (tgt := 21) C dX6_size_5 (by decide) h (fun h => ?_) (fun h => ?_)
  · refine r_iload_n (x := v1) C dX6_size_21 rfl ?_
    exact r_iret C dX6_size_22 h
  · refine r_iload_n (x := v1) C dX6_size_8 rfl ?_
    refine r_iload_n (x := v2) C dX6_size_9 rfl ?_
    refine r_iconst (v := 1) C dX6_size_10 (by decide) ?_
    refine r_iand C dX6_size_11 ?_
    refine r_iadd C dX6_size_12 ?_
    refine r_nm h (fun x1 h => ?_)
    refine r_istore_n (lv' := [none, some (.int x1), some (.int v2)]) C dX6_size_13 (by decide) rfl rfl ?_
    refine r_iload_n (x := v2) C dX6_size_14 rfl ?_
    refine r_iconst (v := 1) C dX6_size_15 (by decide) ?_
    refine r_ishr C dX6_size_16 ?_
    refine r_nm h (fun x2 h => ?_)
    refine r_istore_n (lv' := [none, some (.int x1), some (.int x2)]) C dX6_size_17 (by decide) rfl rfl ?_
    refine r_goto (tgt := 4) C dX6_size_18 (by decide) ?_
    exact r_le (lv' := [none, some (.int x1), some (.int x2)]) ⟨rfl, rfl, trivial⟩ (hK4 x1 x2 σ h)
set_option maxRecDepth 20000 in
theorem tL_X6_size_4 {p : Program} {l : Launch} {e : Env} {s : State} {m : MethodId} {args : Array Value} {below : List Frame} {meth : Method} {c : Code} {D : va_G} {a : Nat → Nat} {cI cO cA : ClassId} {o : Int32 × zSt} (C : zC p s m args meth c D (ztys cI cO cA) 21 a cX6_size 3 RX6 (some .int)) {p1 : Int32}  (v1 : Int32) (v2 : Int32) (σ : zSt) (h : L_X6_size_4 p1  v1 v2 σ = some o) : zV p l e rm_X6_size s m args below meth c D 21 a (fM a cI) 3 (zQi below args s D 21 a (fM a cI) o) σ 4 [none, some (.int v1), some (.int v2)] [] := by
  unfold L_X6_size_4 at h
  refine zloop_ind (G := fun x => zV p l e rm_X6_size s m args below meth c D 21 a (fM a cI) 3 (zQi below args s D 21 a (fM a cI) o) x.2.2 4 [none, some (.int x.1), some (.int x.2.1)] []) ?_ zFU _ h
  intro rec hr x h
  exact tB_X6_size_4 C   (fun v1 v2 σ => hr (v1, v2, σ)) _ _ _ h
set_option maxRecDepth 20000 in
theorem c_X6_size {l : Launch} {D : va_G} {a : Nat → Nat} {cI cO cA : ClassId} (hinj : ∀ i j, i < 21 → j < 21 → a i = a j → i = j) {p1 : Int32} {σ : zSt} {o : Int32 × zSt} (h : M_X6_size p1 σ = some o) : zMi l D (ztys cI cO cA) 21 a (fM a cI) yX6_size cX6_size 3 (some .int) rm_X6_size [.int p1] σ o := by
  unfold M_X6_size at h
  refine zmeti (own := RX6) [some (.int p1), none, none] (by decide) rfl hinj (Nat.le_of_ble_eq_true rfl) rfl (fun p e s m args below meth c C => ?_)
  refine r_iconst (v := 0) C dX6_size_0 (by decide) ?_
  refine r_istore_n (lv' := [some (.int p1), some (.int (0 : Int32)), none]) C dX6_size_1 (by decide) rfl rfl ?_
  refine r_iload_n (x := p1) C dX6_size_2 rfl ?_
  refine r_istore_n (lv' := [some (.int p1), some (.int (0 : Int32)), some (.int p1)]) C dX6_size_3 (by decide) rfl rfl ?_
  exact r_le (lv' := [none, some (.int (0 : Int32)), some (.int p1)]) ⟨rfl, rfl, trivial⟩ (tL_X6_size_4 C (0 : Int32) p1 σ h)
/-! VineRowsModel.leastOf -/
abbrev rm_X6_leastOf : Room := { frames := 1, cells := 0, slots := 0, locals := 21 }
def B_X6_leastOf_2 (p1 : Int32) (K2 : (Int32 → zSt → Option (Int32 × zSt))) (v1 : Int32) (σ : zSt) : Option (Int32 × zSt) := zbd (M_X6_isOf p1 v1 σ) (fun x2 σ1 => (if x2 = 0 then znm (v1 + (1 : Int32)) (fun x3 => K2 x3 σ1) else some (v1, σ1)))
def L_X6_leastOf_2 (p1 : Int32) (v1 : Int32) (σ : zSt) : Option (Int32 × zSt) := zloop (fun (rec : Int32 × zSt → Option (Int32 × zSt)) x => B_X6_leastOf_2 p1  (fun v1 σ => rec (v1, σ)) x.1 x.2) zFU (v1, σ)
def M_X6_leastOf (p1 : Int32) (σ : zSt) : Option (Int32 × zSt) := L_X6_leastOf_2 p1 (0 : Int32) σ
set_option maxRecDepth 20000 in
theorem tB_X6_leastOf_2 {p : Program} {l : Launch} {e : Env} {s : State} {m : MethodId} {args : Array Value} {below : List Frame} {meth : Method} {c : Code} {D : va_G} {a : Nat → Nat} {cI cO cA : ClassId} {o : Int32 × zSt} (C : zC p s m args meth c D (ztys cI cO cA) 21 a cX6_leastOf 2 RX6 (some .int)) {p1 : Int32} {K2 : (Int32 → zSt → Option (Int32 × zSt))} (hK2 : ∀ (v1 : Int32) (σ : zSt), K2 v1 σ = some o → zV p l e rm_X6_leastOf s m args below meth c D 21 a (fM a cI) 2 (zQi below args s D 21 a (fM a cI) o) σ 2 [some (.int p1), some (.int v1)] []) (v1 : Int32) (σ : zSt) (h : B_X6_leastOf_2 p1 K2 v1 σ = some o) : zV p l e rm_X6_leastOf s m args below meth c D 21 a (fM a cI) 2 (zQi below args s D 21 a (fM a cI) o) σ 2 [some (.int p1), some (.int v1)] [] := by
  unfold B_X6_leastOf_2 at h
  refine r_iload_n (x := p1) C dX6_leastOf_2 rfl ?_
  refine r_iload_n (x := v1) C dX6_leastOf_3 rfl ?_
  refine r_callSi C [.int p1, .int v1] [] zc_X6_87 zB_X6_isOf ⟨rfl, rfl, by decide, by decide⟩ (fun out h => c_X6_isOf C.2.2.2.2.2.2.2.1  h) rfl rfl (Nat.le_of_ble_eq_true rfl) dX6_leastOf_4 h (fun x2 σ1 h => ?_)
  refine r_if_ne (tgt := 16) C dX6_leastOf_7 (by decide) h (fun h => ?_) (fun h => ?_)
  · refine r_iload_n (x := v1) C dX6_leastOf_16 rfl ?_
    exact r_iret C dX6_leastOf_17 h
  · refine r_gen h (fun x3 ex3 h => ?_)
    refine r_iinc (x := v1) (v := x3) (lv' := [some (.int p1), some (.int x3)]) C dX6_leastOf_10 rfl (by rw [← ex3]; rfl) (by decide) rfl rfl ?_
    clear ex3
    refine r_goto (tgt := 2) C dX6_leastOf_13 (by decide) ?_
    exact r_le (lv' := [some (.int p1), some (.int x3)]) ⟨rfl, rfl, trivial⟩ (hK2 x3 σ1 h)
set_option maxRecDepth 20000 in
theorem tL_X6_leastOf_2 {p : Program} {l : Launch} {e : Env} {s : State} {m : MethodId} {args : Array Value} {below : List Frame} {meth : Method} {c : Code} {D : va_G} {a : Nat → Nat} {cI cO cA : ClassId} {o : Int32 × zSt} (C : zC p s m args meth c D (ztys cI cO cA) 21 a cX6_leastOf 2 RX6 (some .int)) {p1 : Int32}  (v1 : Int32) (σ : zSt) (h : L_X6_leastOf_2 p1  v1 σ = some o) : zV p l e rm_X6_leastOf s m args below meth c D 21 a (fM a cI) 2 (zQi below args s D 21 a (fM a cI) o) σ 2 [some (.int p1), some (.int v1)] [] := by
  unfold L_X6_leastOf_2 at h
  refine zloop_ind (G := fun x => zV p l e rm_X6_leastOf s m args below meth c D 21 a (fM a cI) 2 (zQi below args s D 21 a (fM a cI) o) x.2 2 [some (.int p1), some (.int x.1)] []) ?_ zFU _ h
  intro rec hr x h
  exact tB_X6_leastOf_2 C   (fun v1 σ => hr (v1, σ)) _ _ h
set_option maxRecDepth 20000 in
theorem c_X6_leastOf {l : Launch} {D : va_G} {a : Nat → Nat} {cI cO cA : ClassId} (hinj : ∀ i j, i < 21 → j < 21 → a i = a j → i = j) {p1 : Int32} {σ : zSt} {o : Int32 × zSt} (h : M_X6_leastOf p1 σ = some o) : zMi l D (ztys cI cO cA) 21 a (fM a cI) yX6_leastOf cX6_leastOf 2 (some .int) rm_X6_leastOf [.int p1] σ o := by
  unfold M_X6_leastOf at h
  refine zmeti (own := RX6) [some (.int p1), none] (by decide) rfl hinj (Nat.le_of_ble_eq_true rfl) rfl (fun p e s m args below meth c C => ?_)
  refine r_iconst (v := 0) C dX6_leastOf_0 (by decide) ?_
  refine r_istore_n (lv' := [some (.int p1), some (.int (0 : Int32))]) C dX6_leastOf_1 (by decide) rfl rfl ?_
  exact r_le (lv' := [some (.int p1), some (.int (0 : Int32))]) ⟨rfl, rfl, trivial⟩ (tL_X6_leastOf_2 C (0 : Int32) σ h)
/-! VineRowsModel.digit -/
abbrev rm_X6_digit : Room := { frames := 1, cells := 0, slots := 0, locals := 22 }
def M_X6_digit (p1 : Int32) (p2 : Int32) (p3 : Int32) (σ : zSt) : Option (Int32 × zSt) := znm (σ 0 10) (fun x1 => (if p1 ≤ x1 then some ((-9 : Int32), σ) else znm (σ 0 10) (fun x2 => zga (σ 3) x2 240 (fun x3 => zbd (M_X6_within x3 ((48 : Int32) + p2) ((48 : Int32) + p3) σ) (fun x5 σ4 => (if x5 = 0 then some ((-9 : Int32), σ4) else znm (σ4 0 10) (fun x6 => znm (zsu σ4 0 (upd (σ4 0) 10 (x6 + (1 : Int32)))) (fun σ7 => znm (σ7 0 10) (fun x8 => zga (σ7 3) (x8 - (1 : Int32)) 240 (fun x9 => some ((x9 - (48 : Int32)), σ7)))))))))))
set_option maxRecDepth 20000 in
theorem c_X6_digit {l : Launch} {D : va_G} {a : Nat → Nat} {cI cO cA : ClassId} (hinj : ∀ i j, i < 21 → j < 21 → a i = a j → i = j) {p1 : Int32} {p2 : Int32} {p3 : Int32} {σ : zSt} {o : Int32 × zSt} (h : M_X6_digit p1 p2 p3 σ = some o) : zMi l D (ztys cI cO cA) 21 a (fM a cI) yX6_digit cX6_digit 4 (some .int) rm_X6_digit [.ref (a 0), .int p1, .int p2, .int p3] σ o := by
  unfold M_X6_digit at h
  refine zmeti (own := RX6) [some (.ref (a 0)), some (.int p1), some (.int p2), some (.int p3)] (by decide) rfl hinj (Nat.le_of_ble_eq_true rfl) rfl (fun p e s m args below meth c C => ?_)
  refine r_aload_n (x := (a 0)) C dX6_digit_0 rfl ?_
  refine gf_X6_91 C dX6_digit_1 h (fun x1 h => ?_)
  refine r_iload_n (x := p1) C dX6_digit_4 rfl ?_
  refine r_icmp_ge (tgt := 31) C dX6_digit_5 (by decide) h (fun h => ?_) (fun h => ?_)
  · refine r_bipush (v := -9) C dX6_digit_31 (by decide) ?_
    exact r_iret C dX6_digit_33 h
  · refine r_aload_n (x := (a 0)) C dX6_digit_8 rfl ?_
    refine gf_X6_16 C dX6_digit_9 ?_
    refine r_aload_n (x := (a 0)) C dX6_digit_12 rfl ?_
    refine gf_X6_91 C dX6_digit_13 h (fun x2 h => ?_)
    refine r_iald (t0 := 0) C 3 aM_3 rfl dX6_digit_16 h (fun x3 h => ?_)
    refine r_bipush (v := 48) C dX6_digit_17 (by decide) ?_
    refine r_iload_n (x := p2) C dX6_digit_19 rfl ?_
    refine r_iadd C dX6_digit_20 ?_
    refine r_bipush (v := 48) C dX6_digit_21 (by decide) ?_
    refine r_iload_n (x := p3) C dX6_digit_23 rfl ?_
    refine r_iadd C dX6_digit_24 ?_
    refine r_callSi C [.int x3, .int ((48 : Int32) + p2), .int ((48 : Int32) + p3)] [] zc_X6_76 zB_X6_within ⟨rfl, rfl, by decide, by decide⟩ (fun out h => c_X6_within C.2.2.2.2.2.2.2.1  h) rfl rfl (Nat.le_of_ble_eq_true rfl) dX6_digit_25 h (fun x5 σ4 h => ?_)
    refine r_if_ne (tgt := 34) C dX6_digit_28 (by decide) h (fun h => ?_) (fun h => ?_)
    · refine r_aload_n (x := (a 0)) C dX6_digit_34 rfl ?_
      refine r_dup C dX6_digit_35 rfl ?_
      refine gf_X6_91 C dX6_digit_36 h (fun x6 h => ?_)
      refine r_iconst (v := 1) C dX6_digit_39 (by decide) ?_
      refine r_iadd C dX6_digit_40 ?_
      refine pf_X6_91 C dX6_digit_41 h (fun σ7 h => ?_)
      refine r_aload_n (x := (a 0)) C dX6_digit_44 rfl ?_
      refine gf_X6_16 C dX6_digit_45 ?_
      refine r_aload_n (x := (a 0)) C dX6_digit_48 rfl ?_
      refine gf_X6_91 C dX6_digit_49 h (fun x8 h => ?_)
      refine r_iconst (v := 1) C dX6_digit_52 (by decide) ?_
      refine r_isub C dX6_digit_53 ?_
      refine r_iald (t0 := 0) C 3 aM_3 rfl dX6_digit_54 h (fun x9 h => ?_)
      refine r_bipush (v := 48) C dX6_digit_55 (by decide) ?_
      refine r_isub C dX6_digit_57 ?_
      exact r_iret C dX6_digit_58 h
    · refine r_bipush (v := -9) C dX6_digit_31 (by decide) ?_
      exact r_iret C dX6_digit_33 h
/-! VineRowsModel.join -/
abbrev rm_X6_join : Room := { frames := 0, cells := 0, slots := 0, locals := 0 }
def M_X6_join (p1 : Int32) (p2 : Int32) (σ : zSt) : Option (zSt) := zga (σ 4) p1 8 (fun x1 => zgs σ 4 p1 8 (x1 ||| (zon p2)) (fun σ2 => zga (σ2 4) p2 8 (fun x3 => zgs σ2 4 p2 8 (x3 ||| (zon p1)) (fun σ4 => some σ4))))
set_option maxRecDepth 20000 in
theorem c_X6_join {l : Launch} {D : va_G} {a : Nat → Nat} {cI cO cA : ClassId} (hinj : ∀ i j, i < 21 → j < 21 → a i = a j → i = j) {p1 : Int32} {p2 : Int32} {σ : zSt} {o : zSt} (h : M_X6_join p1 p2 σ = some o) : zMv l D (ztys cI cO cA) 21 a (fM a cI) yX6_join cX6_join 3 none rm_X6_join [.ref (a 0), .int p1, .int p2] σ o := by
  unfold M_X6_join at h
  refine zmetv (own := RX6) [some (.ref (a 0)), some (.int p1), some (.int p2)] (by decide) rfl hinj (Nat.le_of_ble_eq_true rfl) rfl (fun p e s m args below meth c C => ?_)
  refine r_aload_n (x := (a 0)) C dX6_join_0 rfl ?_
  refine gf_X6_19 C dX6_join_1 ?_
  refine r_iload_n (x := p1) C dX6_join_4 rfl ?_
  refine r_dup2 C dX6_join_5 rfl rfl ?_
  refine r_iald (t0 := 0) C 4 aM_4 rfl dX6_join_6 h (fun x1 h => ?_)
  refine r_iconst (v := 1) C dX6_join_7 (by decide) ?_
  refine r_iload_n (x := p2) C dX6_join_8 rfl ?_
  refine r_ishl C dX6_join_9 ?_
  refine r_ior C dX6_join_10 ?_
  refine r_iast (t0 := 0) C 4 aM_4 rfl dX6_join_11 h (fun σ2 h => ?_)
  refine r_aload_n (x := (a 0)) C dX6_join_12 rfl ?_
  refine gf_X6_19 C dX6_join_13 ?_
  refine r_iload_n (x := p2) C dX6_join_16 rfl ?_
  refine r_dup2 C dX6_join_17 rfl rfl ?_
  refine r_iald (t0 := 0) C 4 aM_4 rfl dX6_join_18 h (fun x3 h => ?_)
  refine r_iconst (v := 1) C dX6_join_19 (by decide) ?_
  refine r_iload_n (x := p1) C dX6_join_20 rfl ?_
  refine r_ishl C dX6_join_21 ?_
  refine r_ior C dX6_join_22 ?_
  refine r_iast (t0 := 0) C 4 aM_4 rfl dX6_join_23 h (fun σ4 h => ?_)
  exact r_vret C dX6_join_24 h
/-! VineRowsModel.growVine -/
abbrev rm_X6_growVine : Room := { frames := 2, cells := 0, slots := 0, locals := 42 }
def B_X6_growVine_47 (K32 : (Int32 → Int32 → zSt → Option (zSt))) (K47 : (Int32 → Int32 → Int32 → Int32 → zSt → Option (zSt))) (v1 : Int32) (v2 : Int32) (v3 : Int32) (v4 : Int32) (σ : zSt) : Option (zSt) := znm (σ 0 5) (fun x11 => (if (x11 - (2 : Int32)) ≤ v4 then zbd (M_X6_leastOf (v1 &&& (znt v3)) σ) (fun x13 σ12 => zga (σ12 7) v2 6 (fun x14 => zbv (M_X6_join x13 x14 σ12) (fun σ15 => znm ((v1 &&& (znt (zon x13)))) (fun x16 => znm (v2 + (1 : Int32)) (fun x17 => K32 x16 x17 σ15))))) else zga (σ 7) v4 6 (fun x18 => znm ((v3 ||| (zon x18))) (fun x19 => znm (v4 + (1 : Int32)) (fun x20 => K47 v1 v2 x19 x20 σ)))))
def L_X6_growVine_47 (K32 : (Int32 → Int32 → zSt → Option (zSt))) (v1 : Int32) (v2 : Int32) (v3 : Int32) (v4 : Int32) (σ : zSt) : Option (zSt) := zloop (fun (rec : Int32 × Int32 × Int32 × Int32 × zSt → Option (zSt)) x => B_X6_growVine_47  K32 (fun v1 v2 v3 v4 σ => rec (v1, v2, v3, v4, σ)) x.1 x.2.1 x.2.2.1 x.2.2.2.1 x.2.2.2.2) zFU (v1, v2, v3, v4, σ)
def B_X6_growVine_32 (K32 : (Int32 → Int32 → zSt → Option (zSt))) (v1 : Int32) (v2 : Int32) (σ : zSt) : Option (zSt) := znm (σ 0 5) (fun x5 => (if (x5 - (2 : Int32)) ≤ v2 then zbd (M_X6_leastOf v1 σ) (fun x7 σ6 => zbd (M_X6_leastOf (v1 &&& (znt (zon x7))) σ6) (fun x9 σ8 => zbv (M_X6_join x7 x9 σ8) (fun σ10 => some σ10))) else L_X6_growVine_47 K32 v1 v2 (0 : Int32) v2 σ))
def L_X6_growVine_32 (v1 : Int32) (v2 : Int32) (σ : zSt) : Option (zSt) := zloop (fun (rec : Int32 × Int32 × zSt → Option (zSt)) x => B_X6_growVine_32   (fun v1 v2 σ => rec (v1, v2, σ)) x.1 x.2.1 x.2.2) zFU (v1, v2, σ)
def B_X6_growVine_2 (K2 : (Int32 → zSt → Option (zSt))) (v1 : Int32) (σ : zSt) : Option (zSt) := (if (8 : Int32) ≤ v1 then znm (σ 0 5) (fun x1 => znm (((zon x1) - (1 : Int32))) (fun x2 => L_X6_growVine_32 x2 (0 : Int32) σ)) else zgs σ 4 v1 8 (0 : Int32) (fun σ3 => znm (v1 + (1 : Int32)) (fun x4 => K2 x4 σ3)))
def L_X6_growVine_2 (v1 : Int32) (σ : zSt) : Option (zSt) := zloop (fun (rec : Int32 × zSt → Option (zSt)) x => B_X6_growVine_2   (fun v1 σ => rec (v1, σ)) x.1 x.2) zFU (v1, σ)
def M_X6_growVine (σ : zSt) : Option (zSt) := L_X6_growVine_2 (0 : Int32) σ
set_option maxRecDepth 20000 in
theorem tB_X6_growVine_47 {p : Program} {l : Launch} {e : Env} {s : State} {m : MethodId} {args : Array Value} {below : List Frame} {meth : Method} {c : Code} {D : va_G} {a : Nat → Nat} {cI cO cA : ClassId} {o : zSt} (C : zC p s m args meth c D (ztys cI cO cA) 21 a cX6_growVine 5 RX6 none) {K32 : (Int32 → Int32 → zSt → Option (zSt))} {K47 : (Int32 → Int32 → Int32 → Int32 → zSt → Option (zSt))} (hK32 : ∀ (v1 : Int32) (v2 : Int32) (σ : zSt), K32 v1 v2 σ = some o → zV p l e rm_X6_growVine s m args below meth c D 21 a (fM a cI) 5 (zQv below args s D 21 a (fM a cI) o) σ 32 [some (.ref (a 0)), some (.int v1), some (.int v2), none, none] []) (hK47 : ∀ (v1 : Int32) (v2 : Int32) (v3 : Int32) (v4 : Int32) (σ : zSt), K47 v1 v2 v3 v4 σ = some o → zV p l e rm_X6_growVine s m args below meth c D 21 a (fM a cI) 5 (zQv below args s D 21 a (fM a cI) o) σ 47 [some (.ref (a 0)), some (.int v1), some (.int v2), some (.int v3), some (.int v4)] []) (v1 : Int32) (v2 : Int32) (v3 : Int32) (v4 : Int32) (σ : zSt) (h : B_X6_growVine_47  K32 K47 v1 v2 v3 v4 σ = some o) : zV p l e rm_X6_growVine s m args below meth c D 21 a (fM a cI) 5 (zQv below args s D 21 a (fM a cI) o) σ 47 [some (.ref (a 0)), some (.int v1), some (.int v2), some (.int v3), some (.int v4)] [] := by
  unfold B_X6_growVine_47 at h
  refine r_iload (x := v4) C dX6_growVine_47 rfl ?_
  refine r_aload_n (x := (a 0)) C dX6_growVine_49 rfl ?_
  refine gf_X6_80 C dX6_growVine_50 h (fun x11 h => ?_)
  refine r_iconst (v := 2) C dX6_growVine_53 (by decide) ?_
  refine r_isub C dX6_growVine_54 ?_
  refine r_icmp_ge (tgt := 76) C dX6_growVine_55 (by decide) h (fun h => ?_) (fun h => ?_)
  · refine r_iload_n (x := v1) C dX6_growVine_76 rfl ?_
    refine r_iload_n (x := v3) C dX6_growVine_77 rfl ?_
    refine r_iconst (v := -1) C dX6_growVine_78 (by decide) ?_
    refine r_ixor C dX6_growVine_79 ?_
    refine r_iand C dX6_growVine_80 ?_
    refine r_callSi C [.int (v1 &&& (znt v3))] [] zc_X6_130 zB_X6_leastOf ⟨rfl, rfl, by decide, by decide⟩ (fun out h => c_X6_leastOf C.2.2.2.2.2.2.2.1  h) rfl rfl (Nat.le_of_ble_eq_true rfl) dX6_growVine_81 h (fun x13 σ12 h => ?_)
    refine r_istore (lv' := [some (.ref (a 0)), some (.int v1), some (.int v2), some (.int v3), some (.int x13)]) C dX6_growVine_84 (by decide) rfl rfl ?_
    refine r_aload_n (x := (a 0)) C dX6_growVine_86 rfl ?_
    refine r_iload (x := x13) C dX6_growVine_87 rfl ?_
    refine r_aload_n (x := (a 0)) C dX6_growVine_89 rfl ?_
    refine gf_X6_28 C dX6_growVine_90 ?_
    refine r_iload_n (x := v2) C dX6_growVine_93 rfl ?_
    refine r_iald (t0 := 0) C 7 aM_7 rfl dX6_growVine_94 h (fun x14 h => ?_)
    refine r_callVv C [.int x13, .int x14] [] (b := 0) (by decide) fM_0 rfl rfl zc_X6_133 zB_X6_join ⟨rfl, rfl, by decide, by decide⟩ (fun out h => c_X6_join C.2.2.2.2.2.2.2.1  h) rfl rfl (Nat.le_of_ble_eq_true rfl) dX6_growVine_95 h (fun σ15 h => ?_)
    refine r_iload_n (x := v1) C dX6_growVine_98 rfl ?_
    refine r_iconst (v := 1) C dX6_growVine_99 (by decide) ?_
    refine r_iload (x := x13) C dX6_growVine_100 rfl ?_
    refine r_ishl C dX6_growVine_102 ?_
    refine r_iconst (v := -1) C dX6_growVine_103 (by decide) ?_
    refine r_ixor C dX6_growVine_104 ?_
    refine r_iand C dX6_growVine_105 ?_
    refine r_nm h (fun x16 h => ?_)
    refine r_istore_n (lv' := [some (.ref (a 0)), some (.int x16), some (.int v2), some (.int v3), some (.int x13)]) C dX6_growVine_106 (by decide) rfl rfl ?_
    refine r_gen h (fun x17 ex17 h => ?_)
    refine r_iinc (x := v2) (v := x17) (lv' := [some (.ref (a 0)), some (.int x16), some (.int x17), some (.int v3), some (.int x13)]) C dX6_growVine_107 rfl (by rw [← ex17]; rfl) (by decide) rfl rfl ?_
    clear ex17
    refine r_goto (tgt := 32) C dX6_growVine_110 (by decide) ?_
    exact r_le (lv' := [some (.ref (a 0)), some (.int x16), some (.int x17), none, none]) ⟨rfl, rfl, rfl, trivial⟩ (hK32 x16 x17 σ15 h)
  · refine r_iload_n (x := v3) C dX6_growVine_58 rfl ?_
    refine r_iconst (v := 1) C dX6_growVine_59 (by decide) ?_
    refine r_aload_n (x := (a 0)) C dX6_growVine_60 rfl ?_
    refine gf_X6_28 C dX6_growVine_61 ?_
    refine r_iload (x := v4) C dX6_growVine_64 rfl ?_
    refine r_iald (t0 := 0) C 7 aM_7 rfl dX6_growVine_66 h (fun x18 h => ?_)
    refine r_ishl C dX6_growVine_67 ?_
    refine r_ior C dX6_growVine_68 ?_
    refine r_nm h (fun x19 h => ?_)
    refine r_istore_n (lv' := [some (.ref (a 0)), some (.int v1), some (.int v2), some (.int x19), some (.int v4)]) C dX6_growVine_69 (by decide) rfl rfl ?_
    refine r_gen h (fun x20 ex20 h => ?_)
    refine r_iinc (x := v4) (v := x20) (lv' := [some (.ref (a 0)), some (.int v1), some (.int v2), some (.int x19), some (.int x20)]) C dX6_growVine_70 rfl (by rw [← ex20]; rfl) (by decide) rfl rfl ?_
    clear ex20
    refine r_goto (tgt := 47) C dX6_growVine_73 (by decide) ?_
    exact r_le (lv' := [some (.ref (a 0)), some (.int v1), some (.int v2), some (.int x19), some (.int x20)]) ⟨rfl, rfl, rfl, rfl, rfl, trivial⟩ (hK47 v1 v2 x19 x20 σ h)
set_option maxRecDepth 20000 in
theorem tL_X6_growVine_47 {p : Program} {l : Launch} {e : Env} {s : State} {m : MethodId} {args : Array Value} {below : List Frame} {meth : Method} {c : Code} {D : va_G} {a : Nat → Nat} {cI cO cA : ClassId} {o : zSt} (C : zC p s m args meth c D (ztys cI cO cA) 21 a cX6_growVine 5 RX6 none) {K32 : (Int32 → Int32 → zSt → Option (zSt))} (hK32 : ∀ (v1 : Int32) (v2 : Int32) (σ : zSt), K32 v1 v2 σ = some o → zV p l e rm_X6_growVine s m args below meth c D 21 a (fM a cI) 5 (zQv below args s D 21 a (fM a cI) o) σ 32 [some (.ref (a 0)), some (.int v1), some (.int v2), none, none] []) (v1 : Int32) (v2 : Int32) (v3 : Int32) (v4 : Int32) (σ : zSt) (h : L_X6_growVine_47  K32 v1 v2 v3 v4 σ = some o) : zV p l e rm_X6_growVine s m args below meth c D 21 a (fM a cI) 5 (zQv below args s D 21 a (fM a cI) o) σ 47 [some (.ref (a 0)), some (.int v1), some (.int v2), some (.int v3), some (.int v4)] [] := by
  unfold L_X6_growVine_47 at h
  refine zloop_ind (G := fun x => zV p l e rm_X6_growVine s m args below meth c D 21 a (fM a cI) 5 (zQv below args s D 21 a (fM a cI) o) x.2.2.2.2 47 [some (.ref (a 0)), some (.int x.1), some (.int x.2.1), some (.int x.2.2.1), some (.int x.2.2.2.1)] []) ?_ zFU _ h
  intro rec hr x h
  exact tB_X6_growVine_47 C  hK32 (fun v1 v2 v3 v4 σ => hr (v1, v2, v3, v4, σ)) _ _ _ _ _ h
set_option maxRecDepth 20000 in
theorem tB_X6_growVine_32 {p : Program} {l : Launch} {e : Env} {s : State} {m : MethodId} {args : Array Value} {below : List Frame} {meth : Method} {c : Code} {D : va_G} {a : Nat → Nat} {cI cO cA : ClassId} {o : zSt} (C : zC p s m args meth c D (ztys cI cO cA) 21 a cX6_growVine 5 RX6 none) {K32 : (Int32 → Int32 → zSt → Option (zSt))} (hK32 : ∀ (v1 : Int32) (v2 : Int32) (σ : zSt), K32 v1 v2 σ = some o → zV p l e rm_X6_growVine s m args below meth c D 21 a (fM a cI) 5 (zQv below args s D 21 a (fM a cI) o) σ 32 [some (.ref (a 0)), some (.int v1), some (.int v2), none, none] []) (v1 : Int32) (v2 : Int32) (σ : zSt) (h : B_X6_growVine_32  K32 v1 v2 σ = some o) : zV p l e rm_X6_growVine s m args below meth c D 21 a (fM a cI) 5 (zQv below args s D 21 a (fM a cI) o) σ 32 [some (.ref (a 0)), some (.int v1), some (.int v2), none, none] [] := by
  unfold B_X6_growVine_32 at h
  refine r_iload_n (x := v2) C dX6_growVine_32 rfl ?_
  refine r_aload_n (x := (a 0)) C dX6_growVine_33 rfl ?_
  refine gf_X6_80 C dX6_growVine_34 h (fun x5 h => ?_)
  refine r_iconst (v := 2) C dX6_growVine_37 (by decide) ?_
  refine r_isub C dX6_growVine_38 ?_
  refine r_icmp_ge (tgt := 113) C dX6_growVine_39 (by decide) h (fun h => ?_) (fun h => ?_)
  · refine r_iload_n (x := v1) C dX6_growVine_113 rfl ?_
    refine r_callSi C [.int v1] [] zc_X6_130 zB_X6_leastOf ⟨rfl, rfl, by decide, by decide⟩ (fun out h => c_X6_leastOf C.2.2.2.2.2.2.2.1  h) rfl rfl (Nat.le_of_ble_eq_true rfl) dX6_growVine_114 h (fun x7 σ6 h => ?_)
    refine r_istore_n (lv' := [some (.ref (a 0)), some (.int v1), some (.int x7), none, none]) C dX6_growVine_117 (by decide) rfl rfl ?_
    refine r_aload_n (x := (a 0)) C dX6_growVine_118 rfl ?_
    refine r_iload_n (x := x7) C dX6_growVine_119 rfl ?_
    refine r_iload_n (x := v1) C dX6_growVine_120 rfl ?_
    refine r_iconst (v := 1) C dX6_growVine_121 (by decide) ?_
    refine r_iload_n (x := x7) C dX6_growVine_122 rfl ?_
    refine r_ishl C dX6_growVine_123 ?_
    refine r_iconst (v := -1) C dX6_growVine_124 (by decide) ?_
    refine r_ixor C dX6_growVine_125 ?_
    refine r_iand C dX6_growVine_126 ?_
    refine r_callSi C [.int (v1 &&& (znt (zon x7)))] [.int x7, .ref (a 0)] zc_X6_130 zB_X6_leastOf ⟨rfl, rfl, by decide, by decide⟩ (fun out h => c_X6_leastOf C.2.2.2.2.2.2.2.1  h) rfl rfl (Nat.le_of_ble_eq_true rfl) dX6_growVine_127 h (fun x9 σ8 h => ?_)
    refine r_callVv C [.int x7, .int x9] [] (b := 0) (by decide) fM_0 rfl rfl zc_X6_133 zB_X6_join ⟨rfl, rfl, by decide, by decide⟩ (fun out h => c_X6_join C.2.2.2.2.2.2.2.1  h) rfl rfl (Nat.le_of_ble_eq_true rfl) dX6_growVine_130 h (fun σ10 h => ?_)
    exact r_vret C dX6_growVine_133 h
  · refine r_iconst (v := 0) C dX6_growVine_42 (by decide) ?_
    refine r_istore_n (lv' := [some (.ref (a 0)), some (.int v1), some (.int v2), some (.int (0 : Int32)), none]) C dX6_growVine_43 (by decide) rfl rfl ?_
    refine r_iload_n (x := v2) C dX6_growVine_44 rfl ?_
    refine r_istore (lv' := [some (.ref (a 0)), some (.int v1), some (.int v2), some (.int (0 : Int32)), some (.int v2)]) C dX6_growVine_45 (by decide) rfl rfl ?_
    exact r_le (lv' := [some (.ref (a 0)), some (.int v1), some (.int v2), some (.int (0 : Int32)), some (.int v2)]) ⟨rfl, rfl, rfl, rfl, rfl, trivial⟩ (tL_X6_growVine_47 C (K32 := K32) hK32 v1 v2 (0 : Int32) v2 σ h)
set_option maxRecDepth 20000 in
theorem tL_X6_growVine_32 {p : Program} {l : Launch} {e : Env} {s : State} {m : MethodId} {args : Array Value} {below : List Frame} {meth : Method} {c : Code} {D : va_G} {a : Nat → Nat} {cI cO cA : ClassId} {o : zSt} (C : zC p s m args meth c D (ztys cI cO cA) 21 a cX6_growVine 5 RX6 none)  (v1 : Int32) (v2 : Int32) (σ : zSt) (h : L_X6_growVine_32   v1 v2 σ = some o) : zV p l e rm_X6_growVine s m args below meth c D 21 a (fM a cI) 5 (zQv below args s D 21 a (fM a cI) o) σ 32 [some (.ref (a 0)), some (.int v1), some (.int v2), none, none] [] := by
  unfold L_X6_growVine_32 at h
  refine zloop_ind (G := fun x => zV p l e rm_X6_growVine s m args below meth c D 21 a (fM a cI) 5 (zQv below args s D 21 a (fM a cI) o) x.2.2 32 [some (.ref (a 0)), some (.int x.1), some (.int x.2.1), none, none] []) ?_ zFU _ h
  intro rec hr x h
  exact tB_X6_growVine_32 C   (fun v1 v2 σ => hr (v1, v2, σ)) _ _ _ h
set_option maxRecDepth 20000 in
theorem tB_X6_growVine_2 {p : Program} {l : Launch} {e : Env} {s : State} {m : MethodId} {args : Array Value} {below : List Frame} {meth : Method} {c : Code} {D : va_G} {a : Nat → Nat} {cI cO cA : ClassId} {o : zSt} (C : zC p s m args meth c D (ztys cI cO cA) 21 a cX6_growVine 5 RX6 none) {K2 : (Int32 → zSt → Option (zSt))} (hK2 : ∀ (v1 : Int32) (σ : zSt), K2 v1 σ = some o → zV p l e rm_X6_growVine s m args below meth c D 21 a (fM a cI) 5 (zQv below args s D 21 a (fM a cI) o) σ 2 [some (.ref (a 0)), some (.int v1), none, none, none] []) (v1 : Int32) (σ : zSt) (h : B_X6_growVine_2  K2 v1 σ = some o) : zV p l e rm_X6_growVine s m args below meth c D 21 a (fM a cI) 5 (zQv below args s D 21 a (fM a cI) o) σ 2 [some (.ref (a 0)), some (.int v1), none, none, none] [] := by
  unfold B_X6_growVine_2 at h
  refine r_iload_n (x := v1) C dX6_growVine_2 rfl ?_
  refine r_bipush (v := 8) C dX6_growVine_3 (by decide) ?_
  refine r_icmp_ge (tgt := 21) C dX6_growVine_5 (by decide) h (fun h => ?_) (fun h => ?_)
  · refine r_iconst (v := 1) C dX6_growVine_21 (by decide) ?_
    refine r_aload_n (x := (a 0)) C dX6_growVine_22 rfl ?_
    refine gf_X6_80 C dX6_growVine_23 h (fun x1 h => ?_)
    refine r_ishl C dX6_growVine_26 ?_
    refine r_iconst (v := 1) C dX6_growVine_27 (by decide) ?_
    refine r_isub C dX6_growVine_28 ?_
    refine r_nm h (fun x2 h => ?_)
    refine r_istore_n (lv' := [some (.ref (a 0)), some (.int x2), none, none, none]) C dX6_growVine_29 (by decide) rfl rfl ?_
    refine r_iconst (v := 0) C dX6_growVine_30 (by decide) ?_
    refine r_istore_n (lv' := [some (.ref (a 0)), some (.int x2), some (.int (0 : Int32)), none, none]) C dX6_growVine_31 (by decide) rfl rfl ?_
    exact r_le (lv' := [some (.ref (a 0)), some (.int x2), some (.int (0 : Int32)), none, none]) ⟨rfl, rfl, rfl, trivial⟩ (tL_X6_growVine_32 C x2 (0 : Int32) σ h)
  · refine r_aload_n (x := (a 0)) C dX6_growVine_8 rfl ?_
    refine gf_X6_19 C dX6_growVine_9 ?_
    refine r_iload_n (x := v1) C dX6_growVine_12 rfl ?_
    refine r_iconst (v := 0) C dX6_growVine_13 (by decide) ?_
    refine r_iast (t0 := 0) C 4 aM_4 rfl dX6_growVine_14 h (fun σ3 h => ?_)
    refine r_gen h (fun x4 ex4 h => ?_)
    refine r_iinc (x := v1) (v := x4) (lv' := [some (.ref (a 0)), some (.int x4), none, none, none]) C dX6_growVine_15 rfl (by rw [← ex4]; rfl) (by decide) rfl rfl ?_
    clear ex4
    refine r_goto (tgt := 2) C dX6_growVine_18 (by decide) ?_
    exact r_le (lv' := [some (.ref (a 0)), some (.int x4), none, none, none]) ⟨rfl, rfl, trivial⟩ (hK2 x4 σ3 h)
set_option maxRecDepth 20000 in
theorem tL_X6_growVine_2 {p : Program} {l : Launch} {e : Env} {s : State} {m : MethodId} {args : Array Value} {below : List Frame} {meth : Method} {c : Code} {D : va_G} {a : Nat → Nat} {cI cO cA : ClassId} {o : zSt} (C : zC p s m args meth c D (ztys cI cO cA) 21 a cX6_growVine 5 RX6 none)  (v1 : Int32) (σ : zSt) (h : L_X6_growVine_2   v1 σ = some o) : zV p l e rm_X6_growVine s m args below meth c D 21 a (fM a cI) 5 (zQv below args s D 21 a (fM a cI) o) σ 2 [some (.ref (a 0)), some (.int v1), none, none, none] [] := by
  unfold L_X6_growVine_2 at h
  refine zloop_ind (G := fun x => zV p l e rm_X6_growVine s m args below meth c D 21 a (fM a cI) 5 (zQv below args s D 21 a (fM a cI) o) x.2 2 [some (.ref (a 0)), some (.int x.1), none, none, none] []) ?_ zFU _ h
  intro rec hr x h
  exact tB_X6_growVine_2 C   (fun v1 σ => hr (v1, σ)) _ _ h
set_option maxRecDepth 20000 in
theorem c_X6_growVine {l : Launch} {D : va_G} {a : Nat → Nat} {cI cO cA : ClassId} (hinj : ∀ i j, i < 21 → j < 21 → a i = a j → i = j) {σ : zSt} {o : zSt} (h : M_X6_growVine  σ = some o) : zMv l D (ztys cI cO cA) 21 a (fM a cI) yX6_growVine cX6_growVine 5 none rm_X6_growVine [.ref (a 0)] σ o := by
  unfold M_X6_growVine at h
  refine zmetv (own := RX6) [some (.ref (a 0)), none, none, none, none] (by decide) rfl hinj (Nat.le_of_ble_eq_true rfl) rfl (fun p e s m args below meth c C => ?_)
  refine r_iconst (v := 0) C dX6_growVine_0 (by decide) ?_
  refine r_istore_n (lv' := [some (.ref (a 0)), some (.int (0 : Int32)), none, none, none]) C dX6_growVine_1 (by decide) rfl rfl ?_
  exact r_le (lv' := [some (.ref (a 0)), some (.int (0 : Int32)), none, none, none]) ⟨rfl, rfl, trivial⟩ (tL_X6_growVine_2 C (0 : Int32) σ h)
/-! VineRowsModel.readPost -/
abbrev rm_X6_readPost : Room := { frames := 2, cells := 0, slots := 0, locals := 45 }
def B_X6_readPost_59 (p1 : Int32) (p2 : Int32) (s0 : Int32) (s1 : Int32) (σ : zSt) : Option (Int32 × zSt) := zgs σ 8 s1 8 s0 (fun σ4 => zga (σ4 8) p2 8 (fun x5 => (if x5 = (-9 : Int32) then zgz (0 : Int32) σ4 else znm (σ4 0 10) (fun x6 => znm (zsu σ4 0 (upd (σ4 0) 10 (x6 + (1 : Int32)))) (fun σ7 => zbd (M_X6_digit p1 (0 : Int32) (9 : Int32) σ7) (fun x9 σ8 => zgs σ8 9 p2 8 x9 (fun σ10 => zga (σ10 9) p2 8 (fun x11 => (if x11 = (-9 : Int32) then zgz (0 : Int32) σ10 else zgz (1 : Int32) σ10)))))))))
def B_X6_readPost_21 (p1 : Int32) (p2 : Int32) (s0 : Int32) (σ : zSt) : Option (Int32 × zSt) := (if s0 = (112 : Int32) then B_X6_readPost_59 p1 p2 (0 : Int32) p2 σ else (if s0 = (98 : Int32) then B_X6_readPost_59 p1 p2 (1 : Int32) p2 σ else (if s0 = (100 : Int32) then B_X6_readPost_59 p1 p2 (2 : Int32) p2 σ else B_X6_readPost_59 p1 p2 (-9 : Int32) p2 σ)))
def M_X6_readPost (p1 : Int32) (p2 : Int32) (σ : zSt) : Option (Int32 × zSt) := znm (σ 0 10) (fun x1 => (if p1 ≤ x1 then B_X6_readPost_21 p1 p2 (0 : Int32) σ else znm (σ 0 10) (fun x2 => zga (σ 3) x2 240 (fun x3 => B_X6_readPost_21 p1 p2 x3 σ))))
set_option maxRecDepth 20000 in
theorem tB_X6_readPost_59 {p : Program} {l : Launch} {e : Env} {s : State} {m : MethodId} {args : Array Value} {below : List Frame} {meth : Method} {c : Code} {D : va_G} {a : Nat → Nat} {cI cO cA : ClassId} {o : Int32 × zSt} (C : zC p s m args meth c D (ztys cI cO cA) 21 a cX6_readPost 4 RX6 (some .boolean)) {p1 : Int32} {p2 : Int32}  (s0 : Int32) (s1 : Int32) (σ : zSt) (h : B_X6_readPost_59 p1 p2  s0 s1 σ = some o) : zV p l e rm_X6_readPost s m args below meth c D 21 a (fM a cI) 4 (zQi below args s D 21 a (fM a cI) o) σ 59 [some (.ref (a 0)), some (.int p1), some (.int p2), none] [.int s0, .int s1, .ref (a 8)] := by
  unfold B_X6_readPost_59 at h
  refine r_iast (t0 := 0) C 8 aM_8 rfl dX6_readPost_59 h (fun σ4 h => ?_)
  refine r_aload_n (x := (a 0)) C dX6_readPost_60 rfl ?_
  refine gf_X6_31 C dX6_readPost_61 ?_
  refine r_iload_n (x := p2) C dX6_readPost_64 rfl ?_
  refine r_iald (t0 := 0) C 8 aM_8 rfl dX6_readPost_65 h (fun x5 h => ?_)
  refine r_bipush (v := -9) C dX6_readPost_66 (by decide) ?_
  refine r_icmp_ne (tgt := 73) C dX6_readPost_68 (by decide) h (fun h => ?_) (fun h => ?_)
  · refine r_aload_n (x := (a 0)) C dX6_readPost_73 rfl ?_
    refine r_dup C dX6_readPost_74 rfl ?_
    refine gf_X6_91 C dX6_readPost_75 h (fun x6 h => ?_)
    refine r_iconst (v := 1) C dX6_readPost_78 (by decide) ?_
    refine r_iadd C dX6_readPost_79 ?_
    refine pf_X6_91 C dX6_readPost_80 h (fun σ7 h => ?_)
    refine r_aload_n (x := (a 0)) C dX6_readPost_83 rfl ?_
    refine gf_X6_34 C dX6_readPost_84 ?_
    refine r_iload_n (x := p2) C dX6_readPost_87 rfl ?_
    refine r_aload_n (x := (a 0)) C dX6_readPost_88 rfl ?_
    refine r_iload_n (x := p1) C dX6_readPost_89 rfl ?_
    refine r_iconst (v := 0) C dX6_readPost_90 (by decide) ?_
    refine r_bipush (v := 9) C dX6_readPost_91 (by decide) ?_
    refine r_callVi C [.int p1, .int (0 : Int32), .int (9 : Int32)] [.int p2, .ref (a 9)] (b := 0) (by decide) fM_0 rfl rfl zc_X6_123 zB_X6_digit ⟨rfl, rfl, by decide, by decide⟩ (fun out h => c_X6_digit C.2.2.2.2.2.2.2.1  h) rfl rfl (Nat.le_of_ble_eq_true rfl) dX6_readPost_93 h (fun x9 σ8 h => ?_)
    refine r_iast (t0 := 0) C 9 aM_9 rfl dX6_readPost_96 h (fun σ10 h => ?_)
    refine r_aload_n (x := (a 0)) C dX6_readPost_97 rfl ?_
    refine gf_X6_34 C dX6_readPost_98 ?_
    refine r_iload_n (x := p2) C dX6_readPost_101 rfl ?_
    refine r_iald (t0 := 0) C 9 aM_9 rfl dX6_readPost_102 h (fun x11 h => ?_)
    refine r_bipush (v := -9) C dX6_readPost_103 (by decide) ?_
    refine r_icmp_eq (tgt := 112) C dX6_readPost_105 (by decide) h (fun h => ?_) (fun h => ?_)
    · refine r_iconst (v := 0) C dX6_readPost_112 (by decide) ?_
      exact r_zret C dX6_readPost_113 h
    · refine r_iconst (v := 1) C dX6_readPost_108 (by decide) ?_
      refine r_goto (tgt := 113) C dX6_readPost_109 (by decide) ?_
      exact r_zret C dX6_readPost_113 h
  · refine r_iconst (v := 0) C dX6_readPost_71 (by decide) ?_
    exact r_zret C dX6_readPost_72 h
set_option maxRecDepth 20000 in
theorem tB_X6_readPost_21 {p : Program} {l : Launch} {e : Env} {s : State} {m : MethodId} {args : Array Value} {below : List Frame} {meth : Method} {c : Code} {D : va_G} {a : Nat → Nat} {cI cO cA : ClassId} {o : Int32 × zSt} (C : zC p s m args meth c D (ztys cI cO cA) 21 a cX6_readPost 4 RX6 (some .boolean)) {p1 : Int32} {p2 : Int32}  (s0 : Int32) (σ : zSt) (h : B_X6_readPost_21 p1 p2  s0 σ = some o) : zV p l e rm_X6_readPost s m args below meth c D 21 a (fM a cI) 4 (zQi below args s D 21 a (fM a cI) o) σ 21 [some (.ref (a 0)), some (.int p1), some (.int p2), none] [.int s0] := by
  unfold B_X6_readPost_21 at h
  refine r_istore_n (lv' := [some (.ref (a 0)), some (.int p1), some (.int p2), some (.int s0)]) C dX6_readPost_21 (by decide) rfl rfl ?_
  refine r_aload_n (x := (a 0)) C dX6_readPost_22 rfl ?_
  refine gf_X6_31 C dX6_readPost_23 ?_
  refine r_iload_n (x := p2) C dX6_readPost_26 rfl ?_
  refine r_iload_n (x := s0) C dX6_readPost_27 rfl ?_
  refine r_bipush (v := 112) C dX6_readPost_28 (by decide) ?_
  refine r_icmp_ne (tgt := 37) C dX6_readPost_30 (by decide) h (fun h => ?_) (fun h => ?_)
  · refine r_iload_n (x := s0) C dX6_readPost_37 rfl ?_
    refine r_bipush (v := 98) C dX6_readPost_38 (by decide) ?_
    refine r_icmp_ne (tgt := 47) C dX6_readPost_40 (by decide) h (fun h => ?_) (fun h => ?_)
    · refine r_iload_n (x := s0) C dX6_readPost_47 rfl ?_
      refine r_bipush (v := 100) C dX6_readPost_48 (by decide) ?_
      refine r_icmp_ne (tgt := 57) C dX6_readPost_50 (by decide) h (fun h => ?_) (fun h => ?_)
      · refine r_bipush (v := -9) C dX6_readPost_57 (by decide) ?_
        exact r_le (lv' := [some (.ref (a 0)), some (.int p1), some (.int p2), none]) ⟨rfl, rfl, rfl, trivial⟩ (tB_X6_readPost_59 C (-9 : Int32) p2 σ h)
      · refine r_iconst (v := 2) C dX6_readPost_53 (by decide) ?_
        refine r_goto (tgt := 59) C dX6_readPost_54 (by decide) ?_
        exact r_le (lv' := [some (.ref (a 0)), some (.int p1), some (.int p2), none]) ⟨rfl, rfl, rfl, trivial⟩ (tB_X6_readPost_59 C (2 : Int32) p2 σ h)
    · refine r_iconst (v := 1) C dX6_readPost_43 (by decide) ?_
      refine r_goto (tgt := 59) C dX6_readPost_44 (by decide) ?_
      exact r_le (lv' := [some (.ref (a 0)), some (.int p1), some (.int p2), none]) ⟨rfl, rfl, rfl, trivial⟩ (tB_X6_readPost_59 C (1 : Int32) p2 σ h)
  · refine r_iconst (v := 0) C dX6_readPost_33 (by decide) ?_
    refine r_goto (tgt := 59) C dX6_readPost_34 (by decide) ?_
    exact r_le (lv' := [some (.ref (a 0)), some (.int p1), some (.int p2), none]) ⟨rfl, rfl, rfl, trivial⟩ (tB_X6_readPost_59 C (0 : Int32) p2 σ h)
set_option maxRecDepth 20000 in
theorem c_X6_readPost {l : Launch} {D : va_G} {a : Nat → Nat} {cI cO cA : ClassId} (hinj : ∀ i j, i < 21 → j < 21 → a i = a j → i = j) {p1 : Int32} {p2 : Int32} {σ : zSt} {o : Int32 × zSt} (h : M_X6_readPost p1 p2 σ = some o) : zMi l D (ztys cI cO cA) 21 a (fM a cI) yX6_readPost cX6_readPost 4 (some .boolean) rm_X6_readPost [.ref (a 0), .int p1, .int p2] σ o := by
  unfold M_X6_readPost at h
  refine zmeti (own := RX6) [some (.ref (a 0)), some (.int p1), some (.int p2), none] (by decide) rfl hinj (Nat.le_of_ble_eq_true rfl) rfl (fun p e s m args below meth c C => ?_)
  refine r_aload_n (x := (a 0)) C dX6_readPost_0 rfl ?_
  refine gf_X6_91 C dX6_readPost_1 h (fun x1 h => ?_)
  refine r_iload_n (x := p1) C dX6_readPost_4 rfl ?_
  refine r_icmp_ge (tgt := 20) C dX6_readPost_5 (by decide) h (fun h => ?_) (fun h => ?_)
  · refine r_iconst (v := 0) C dX6_readPost_20 (by decide) ?_
    exact r_le (lv' := [some (.ref (a 0)), some (.int p1), some (.int p2), none]) ⟨rfl, rfl, rfl, trivial⟩ (tB_X6_readPost_21 C (0 : Int32) σ h)
  · refine r_aload_n (x := (a 0)) C dX6_readPost_8 rfl ?_
    refine gf_X6_16 C dX6_readPost_9 ?_
    refine r_aload_n (x := (a 0)) C dX6_readPost_12 rfl ?_
    refine gf_X6_91 C dX6_readPost_13 h (fun x2 h => ?_)
    refine r_iald (t0 := 0) C 3 aM_3 rfl dX6_readPost_16 h (fun x3 h => ?_)
    refine r_goto (tgt := 21) C dX6_readPost_17 (by decide) ?_
    exact r_le (lv' := [some (.ref (a 0)), some (.int p1), some (.int p2), none]) ⟨rfl, rfl, rfl, trivial⟩ (tB_X6_readPost_21 C x3 σ h)
/-! VineRowsModel.readVine -/
abbrev rm_X6_readVine : Room := { frames := 3, cells := 0, slots := 0, locals := 68 }
def B_X6_readVine_108 (p1 : Int32) (K108 : (Int32 → zSt → Option (Int32 × zSt))) (v2 : Int32) (σ : zSt) : Option (Int32 × zSt) := znm (σ 0 11) (fun x17 => (if x17 ≤ v2 then znm (σ 0 10) (fun x18 => (if x18 = p1 then zgz (1 : Int32) σ else zgz (0 : Int32) σ)) else zbd (M_X6_readPost p1 v2 σ) (fun x20 σ19 => (if x20 = 0 then zgz (0 : Int32) σ19 else znm (v2 + (1 : Int32)) (fun x21 => K108 x21 σ19)))))
def L_X6_readVine_108 (p1 : Int32) (v2 : Int32) (σ : zSt) : Option (Int32 × zSt) := zloop (fun (rec : Int32 × zSt → Option (Int32 × zSt)) x => B_X6_readVine_108 p1  (fun v2 σ => rec (v2, σ)) x.1 x.2) zFU (v2, σ)
def B_X6_readVine_59 (p1 : Int32) (K59 : (Int32 → zSt → Option (Int32 × zSt))) (v2 : Int32) (σ : zSt) : Option (Int32 × zSt) := znm (σ 0 11) (fun x10 => (if (x10 - (2 : Int32)) ≤ v2 then L_X6_readVine_108 p1 (0 : Int32) σ else znm (σ 0 11) (fun x11 => zbd (M_X6_digit p1 (0 : Int32) (x11 - (1 : Int32)) σ) (fun x13 σ12 => zgs σ12 7 v2 6 x13 (fun σ14 => zga (σ14 7) v2 6 (fun x15 => (if x15 = (-9 : Int32) then zgz (0 : Int32) σ14 else znm (v2 + (1 : Int32)) (fun x16 => K59 x16 σ14))))))))
def L_X6_readVine_59 (p1 : Int32) (v2 : Int32) (σ : zSt) : Option (Int32 × zSt) := zloop (fun (rec : Int32 × zSt → Option (Int32 × zSt)) x => B_X6_readVine_59 p1  (fun v2 σ => rec (v2, σ)) x.1 x.2) zFU (v2, σ)
def M_X6_readVine (p1 : Int32) (σ : zSt) : Option (Int32 × zSt) := znm (σ 0 10) (fun x1 => (if p1 ≤ x1 then zgz (0 : Int32) σ else znm (σ 0 10) (fun x2 => zga (σ 3) x2 240 (fun x3 => (if x3 = (118 : Int32) then znm (σ 0 10) (fun x4 => znm (zsu σ 0 (upd (σ 0) 10 (x4 + (1 : Int32)))) (fun σ5 => zbd (M_X6_digit p1 (2 : Int32) (8 : Int32) σ5) (fun x7 σ6 => znm (zsu σ6 0 (upd (σ6 0) 11 x7)) (fun σ8 => znm (σ8 0 11) (fun x9 => (if x9 = (-9 : Int32) then zgz (0 : Int32) σ8 else L_X6_readVine_59 p1 (0 : Int32) σ8)))))) else zgz (0 : Int32) σ)))))
set_option maxRecDepth 20000 in
theorem tB_X6_readVine_108 {p : Program} {l : Launch} {e : Env} {s : State} {m : MethodId} {args : Array Value} {below : List Frame} {meth : Method} {c : Code} {D : va_G} {a : Nat → Nat} {cI cO cA : ClassId} {o : Int32 × zSt} (C : zC p s m args meth c D (ztys cI cO cA) 21 a cX6_readVine 3 RX6 (some .boolean)) {p1 : Int32} {K108 : (Int32 → zSt → Option (Int32 × zSt))} (hK108 : ∀ (v2 : Int32) (σ : zSt), K108 v2 σ = some o → zV p l e rm_X6_readVine s m args below meth c D 21 a (fM a cI) 3 (zQi below args s D 21 a (fM a cI) o) σ 108 [some (.ref (a 0)), some (.int p1), some (.int v2)] []) (v2 : Int32) (σ : zSt) (h : B_X6_readVine_108 p1 K108 v2 σ = some o) : zV p l e rm_X6_readVine s m args below meth c D 21 a (fM a cI) 3 (zQi below args s D 21 a (fM a cI) o) σ 108 [some (.ref (a 0)), some (.int p1), some (.int v2)] [] := by
  unfold B_X6_readVine_108 at h
  refine r_iload_n (x := v2) C dX6_readVine_108 rfl ?_
  refine r_aload_n (x := (a 0)) C dX6_readVine_109 rfl ?_
  refine gf_X6_111 C dX6_readVine_110 h (fun x17 h => ?_)
  refine r_icmp_ge (tgt := 133) C dX6_readVine_113 (by decide) h (fun h => ?_) (fun h => ?_)
  · refine r_aload_n (x := (a 0)) C dX6_readVine_133 rfl ?_
    refine gf_X6_91 C dX6_readVine_134 h (fun x18 h => ?_)
    refine r_iload_n (x := p1) C dX6_readVine_137 rfl ?_
    refine r_icmp_ne (tgt := 145) C dX6_readVine_138 (by decide) h (fun h => ?_) (fun h => ?_)
    · refine r_iconst (v := 0) C dX6_readVine_145 (by decide) ?_
      exact r_zret C dX6_readVine_146 h
    · refine r_iconst (v := 1) C dX6_readVine_141 (by decide) ?_
      refine r_goto (tgt := 146) C dX6_readVine_142 (by decide) ?_
      exact r_zret C dX6_readVine_146 h
  · refine r_aload_n (x := (a 0)) C dX6_readVine_116 rfl ?_
    refine r_iload_n (x := p1) C dX6_readVine_117 rfl ?_
    refine r_iload_n (x := v2) C dX6_readVine_118 rfl ?_
    refine r_callVi C [.int p1, .int v2] [] (b := 0) (by decide) fM_0 rfl rfl zc_X6_127 zB_X6_readPost ⟨rfl, rfl, by decide, by decide⟩ (fun out h => c_X6_readPost C.2.2.2.2.2.2.2.1  h) rfl rfl (Nat.le_of_ble_eq_true rfl) dX6_readVine_119 h (fun x20 σ19 h => ?_)
    refine r_if_ne (tgt := 127) C dX6_readVine_122 (by decide) h (fun h => ?_) (fun h => ?_)
    · refine r_gen h (fun x21 ex21 h => ?_)
      refine r_iinc (x := v2) (v := x21) (lv' := [some (.ref (a 0)), some (.int p1), some (.int x21)]) C dX6_readVine_127 rfl (by rw [← ex21]; rfl) (by decide) rfl rfl ?_
      clear ex21
      refine r_goto (tgt := 108) C dX6_readVine_130 (by decide) ?_
      exact r_le (lv' := [some (.ref (a 0)), some (.int p1), some (.int x21)]) ⟨rfl, rfl, rfl, trivial⟩ (hK108 x21 σ19 h)
    · refine r_iconst (v := 0) C dX6_readVine_125 (by decide) ?_
      exact r_zret C dX6_readVine_126 h
set_option maxRecDepth 20000 in
theorem tL_X6_readVine_108 {p : Program} {l : Launch} {e : Env} {s : State} {m : MethodId} {args : Array Value} {below : List Frame} {meth : Method} {c : Code} {D : va_G} {a : Nat → Nat} {cI cO cA : ClassId} {o : Int32 × zSt} (C : zC p s m args meth c D (ztys cI cO cA) 21 a cX6_readVine 3 RX6 (some .boolean)) {p1 : Int32}  (v2 : Int32) (σ : zSt) (h : L_X6_readVine_108 p1  v2 σ = some o) : zV p l e rm_X6_readVine s m args below meth c D 21 a (fM a cI) 3 (zQi below args s D 21 a (fM a cI) o) σ 108 [some (.ref (a 0)), some (.int p1), some (.int v2)] [] := by
  unfold L_X6_readVine_108 at h
  refine zloop_ind (G := fun x => zV p l e rm_X6_readVine s m args below meth c D 21 a (fM a cI) 3 (zQi below args s D 21 a (fM a cI) o) x.2 108 [some (.ref (a 0)), some (.int p1), some (.int x.1)] []) ?_ zFU _ h
  intro rec hr x h
  exact tB_X6_readVine_108 C   (fun v2 σ => hr (v2, σ)) _ _ h
set_option maxRecDepth 20000 in
theorem tB_X6_readVine_59 {p : Program} {l : Launch} {e : Env} {s : State} {m : MethodId} {args : Array Value} {below : List Frame} {meth : Method} {c : Code} {D : va_G} {a : Nat → Nat} {cI cO cA : ClassId} {o : Int32 × zSt} (C : zC p s m args meth c D (ztys cI cO cA) 21 a cX6_readVine 3 RX6 (some .boolean)) {p1 : Int32} {K59 : (Int32 → zSt → Option (Int32 × zSt))} (hK59 : ∀ (v2 : Int32) (σ : zSt), K59 v2 σ = some o → zV p l e rm_X6_readVine s m args below meth c D 21 a (fM a cI) 3 (zQi below args s D 21 a (fM a cI) o) σ 59 [some (.ref (a 0)), some (.int p1), some (.int v2)] []) (v2 : Int32) (σ : zSt) (h : B_X6_readVine_59 p1 K59 v2 σ = some o) : zV p l e rm_X6_readVine s m args below meth c D 21 a (fM a cI) 3 (zQi below args s D 21 a (fM a cI) o) σ 59 [some (.ref (a 0)), some (.int p1), some (.int v2)] [] := by
  unfold B_X6_readVine_59 at h
  refine r_iload_n (x := v2) C dX6_readVine_59 rfl ?_
  refine r_aload_n (x := (a 0)) C dX6_readVine_60 rfl ?_
  refine gf_X6_111 C dX6_readVine_61 h (fun x10 h => ?_)
  refine r_iconst (v := 2) C dX6_readVine_64 (by decide) ?_
  refine r_isub C dX6_readVine_65 ?_
  refine r_icmp_ge (tgt := 106) C dX6_readVine_66 (by decide) h (fun h => ?_) (fun h => ?_)
  · refine r_iconst (v := 0) C dX6_readVine_106 (by decide) ?_
    refine r_istore_n (lv' := [some (.ref (a 0)), some (.int p1), some (.int (0 : Int32))]) C dX6_readVine_107 (by decide) rfl rfl ?_
    exact r_le (lv' := [some (.ref (a 0)), some (.int p1), some (.int (0 : Int32))]) ⟨rfl, rfl, rfl, trivial⟩ (tL_X6_readVine_108 C (0 : Int32) σ h)
  · refine r_aload_n (x := (a 0)) C dX6_readVine_69 rfl ?_
    refine gf_X6_28 C dX6_readVine_70 ?_
    refine r_iload_n (x := v2) C dX6_readVine_73 rfl ?_
    refine r_aload_n (x := (a 0)) C dX6_readVine_74 rfl ?_
    refine r_iload_n (x := p1) C dX6_readVine_75 rfl ?_
    refine r_iconst (v := 0) C dX6_readVine_76 (by decide) ?_
    refine r_aload_n (x := (a 0)) C dX6_readVine_77 rfl ?_
    refine gf_X6_111 C dX6_readVine_78 h (fun x11 h => ?_)
    refine r_iconst (v := 1) C dX6_readVine_81 (by decide) ?_
    refine r_isub C dX6_readVine_82 ?_
    refine r_callVi C [.int p1, .int (0 : Int32), .int (x11 - (1 : Int32))] [.int v2, .ref (a 7)] (b := 0) (by decide) fM_0 rfl rfl zc_X6_123 zB_X6_digit ⟨rfl, rfl, by decide, by decide⟩ (fun out h => c_X6_digit C.2.2.2.2.2.2.2.1  h) rfl rfl (Nat.le_of_ble_eq_true rfl) dX6_readVine_83 h (fun x13 σ12 h => ?_)
    refine r_iast (t0 := 0) C 7 aM_7 rfl dX6_readVine_86 h (fun σ14 h => ?_)
    refine r_aload_n (x := (a 0)) C dX6_readVine_87 rfl ?_
    refine gf_X6_28 C dX6_readVine_88 ?_
    refine r_iload_n (x := v2) C dX6_readVine_91 rfl ?_
    refine r_iald (t0 := 0) C 7 aM_7 rfl dX6_readVine_92 h (fun x15 h => ?_)
    refine r_bipush (v := -9) C dX6_readVine_93 (by decide) ?_
    refine r_icmp_ne (tgt := 100) C dX6_readVine_95 (by decide) h (fun h => ?_) (fun h => ?_)
    · refine r_gen h (fun x16 ex16 h => ?_)
      refine r_iinc (x := v2) (v := x16) (lv' := [some (.ref (a 0)), some (.int p1), some (.int x16)]) C dX6_readVine_100 rfl (by rw [← ex16]; rfl) (by decide) rfl rfl ?_
      clear ex16
      refine r_goto (tgt := 59) C dX6_readVine_103 (by decide) ?_
      exact r_le (lv' := [some (.ref (a 0)), some (.int p1), some (.int x16)]) ⟨rfl, rfl, rfl, trivial⟩ (hK59 x16 σ14 h)
    · refine r_iconst (v := 0) C dX6_readVine_98 (by decide) ?_
      exact r_zret C dX6_readVine_99 h
set_option maxRecDepth 20000 in
theorem tL_X6_readVine_59 {p : Program} {l : Launch} {e : Env} {s : State} {m : MethodId} {args : Array Value} {below : List Frame} {meth : Method} {c : Code} {D : va_G} {a : Nat → Nat} {cI cO cA : ClassId} {o : Int32 × zSt} (C : zC p s m args meth c D (ztys cI cO cA) 21 a cX6_readVine 3 RX6 (some .boolean)) {p1 : Int32}  (v2 : Int32) (σ : zSt) (h : L_X6_readVine_59 p1  v2 σ = some o) : zV p l e rm_X6_readVine s m args below meth c D 21 a (fM a cI) 3 (zQi below args s D 21 a (fM a cI) o) σ 59 [some (.ref (a 0)), some (.int p1), some (.int v2)] [] := by
  unfold L_X6_readVine_59 at h
  refine zloop_ind (G := fun x => zV p l e rm_X6_readVine s m args below meth c D 21 a (fM a cI) 3 (zQi below args s D 21 a (fM a cI) o) x.2 59 [some (.ref (a 0)), some (.int p1), some (.int x.1)] []) ?_ zFU _ h
  intro rec hr x h
  exact tB_X6_readVine_59 C   (fun v2 σ => hr (v2, σ)) _ _ h
set_option maxRecDepth 20000 in
theorem c_X6_readVine {l : Launch} {D : va_G} {a : Nat → Nat} {cI cO cA : ClassId} (hinj : ∀ i j, i < 21 → j < 21 → a i = a j → i = j) {p1 : Int32} {σ : zSt} {o : Int32 × zSt} (h : M_X6_readVine p1 σ = some o) : zMi l D (ztys cI cO cA) 21 a (fM a cI) yX6_readVine cX6_readVine 3 (some .boolean) rm_X6_readVine [.ref (a 0), .int p1] σ o := by
  unfold M_X6_readVine at h
  refine zmeti (own := RX6) [some (.ref (a 0)), some (.int p1), none] (by decide) rfl hinj (Nat.le_of_ble_eq_true rfl) rfl (fun p e s m args below meth c C => ?_)
  refine r_aload_n (x := (a 0)) C dX6_readVine_0 rfl ?_
  refine gf_X6_91 C dX6_readVine_1 h (fun x1 h => ?_)
  refine r_iload_n (x := p1) C dX6_readVine_4 rfl ?_
  refine r_icmp_ge (tgt := 22) C dX6_readVine_5 (by decide) h (fun h => ?_) (fun h => ?_)
  · refine r_iconst (v := 0) C dX6_readVine_22 (by decide) ?_
    exact r_zret C dX6_readVine_23 h
  · refine r_aload_n (x := (a 0)) C dX6_readVine_8 rfl ?_
    refine gf_X6_16 C dX6_readVine_9 ?_
    refine r_aload_n (x := (a 0)) C dX6_readVine_12 rfl ?_
    refine gf_X6_91 C dX6_readVine_13 h (fun x2 h => ?_)
    refine r_iald (t0 := 0) C 3 aM_3 rfl dX6_readVine_16 h (fun x3 h => ?_)
    refine r_bipush (v := 118) C dX6_readVine_17 (by decide) ?_
    refine r_icmp_eq (tgt := 24) C dX6_readVine_19 (by decide) h (fun h => ?_) (fun h => ?_)
    · refine r_aload_n (x := (a 0)) C dX6_readVine_24 rfl ?_
      refine r_dup C dX6_readVine_25 rfl ?_
      refine gf_X6_91 C dX6_readVine_26 h (fun x4 h => ?_)
      refine r_iconst (v := 1) C dX6_readVine_29 (by decide) ?_
      refine r_iadd C dX6_readVine_30 ?_
      refine pf_X6_91 C dX6_readVine_31 h (fun σ5 h => ?_)
      refine r_aload_n (x := (a 0)) C dX6_readVine_34 rfl ?_
      refine r_aload_n (x := (a 0)) C dX6_readVine_35 rfl ?_
      refine r_iload_n (x := p1) C dX6_readVine_36 rfl ?_
      refine r_iconst (v := 2) C dX6_readVine_37 (by decide) ?_
      refine r_bipush (v := 8) C dX6_readVine_38 (by decide) ?_
      refine r_callVi C [.int p1, .int (2 : Int32), .int (8 : Int32)] [.ref (a 0)] (b := 0) (by decide) fM_0 rfl rfl zc_X6_123 zB_X6_digit ⟨rfl, rfl, by decide, by decide⟩ (fun out h => c_X6_digit C.2.2.2.2.2.2.2.1  h) rfl rfl (Nat.le_of_ble_eq_true rfl) dX6_readVine_40 h (fun x7 σ6 h => ?_)
      refine pf_X6_111 C dX6_readVine_43 h (fun σ8 h => ?_)
      refine r_aload_n (x := (a 0)) C dX6_readVine_46 rfl ?_
      refine gf_X6_111 C dX6_readVine_47 h (fun x9 h => ?_)
      refine r_bipush (v := -9) C dX6_readVine_50 (by decide) ?_
      refine r_icmp_ne (tgt := 57) C dX6_readVine_52 (by decide) h (fun h => ?_) (fun h => ?_)
      · refine r_iconst (v := 0) C dX6_readVine_57 (by decide) ?_
        refine r_istore_n (lv' := [some (.ref (a 0)), some (.int p1), some (.int (0 : Int32))]) C dX6_readVine_58 (by decide) rfl rfl ?_
        exact r_le (lv' := [some (.ref (a 0)), some (.int p1), some (.int (0 : Int32))]) ⟨rfl, rfl, rfl, trivial⟩ (tL_X6_readVine_59 C (0 : Int32) σ8 h)
      · refine r_iconst (v := 0) C dX6_readVine_55 (by decide) ?_
        exact r_zret C dX6_readVine_56 h
    · refine r_iconst (v := 0) C dX6_readVine_22 (by decide) ?_
      exact r_zret C dX6_readVine_23 h
/-! VineRowsModel.vine -/
abbrev rm_X6_vine : Room := { frames := 4, cells := 0, slots := 0, locals := 90 }
def B_X6_vine_95 (p1 : Int32) (p2 : Int32) (p3 : Int32) (p4 : Int32) (K95 : (Int32 → zSt → Option (Int32 × zSt))) (v7 : Int32) (σ : zSt) : Option (Int32 × zSt) := znm (σ 0 5) (fun x17 => (if x17 ≤ v7 then zbv (M_X6_growVine σ) (fun σ18 => znm (zsu σ18 0 (upd (σ18 0) 6 (0 : Int32))) (fun σ19 => znm (zsu σ19 0 (upd (σ19 0) 23 (0 : Int32))) (fun σ20 => znm (σ20 0 5) (fun x21 => some (x21, σ20))))) else zga (σ 8) v7 8 (fun x22 => zgs σ 5 v7 8 x22 (fun σ23 => zga (σ23 9) v7 8 (fun x24 => zgs σ23 6 v7 8 x24 (fun σ25 => znm (v7 + (1 : Int32)) (fun x26 => K95 x26 σ25)))))))
def L_X6_vine_95 (p1 : Int32) (p2 : Int32) (p3 : Int32) (p4 : Int32) (v7 : Int32) (σ : zSt) : Option (Int32 × zSt) := zloop (fun (rec : Int32 × zSt → Option (Int32 × zSt)) x => B_X6_vine_95 p1 p2 p3 p4  (fun v7 σ => rec (v7, σ)) x.1 x.2) zFU (v7, σ)
def M_X6_vine (p1 : Int32) (p2 : Int32) (p3 : Int32) (p4 : Int32) (σ : zSt) : Option (Int32 × zSt) := znm (zsu σ 0 (upd (σ 0) 0 (0 : Int32))) (fun σ1 => zbd (M_X6_isSheet p1 σ1) (fun x3 σ2 => (if x3 = 0 then some ((-1 : Int32), σ2) else zbd (M_X6_isSort p2 σ2) (fun x5 σ4 => (if x5 = 0 then some ((-2 : Int32), σ4) else zbd (M_X6_against p1 p2 p3 p4 σ4) (fun x7 σ6 => (if x7 = 0 then znm ((((60 : Int32) * p1) + p3)) (fun x8 => znm (zsu σ6 0 (upd (σ6 0) 10 x8)) (fun σ9 => zbd (M_X6_readVine (x8 + p4) σ9) (fun x11 σ10 => (if x11 = 0 then znm (σ10 0 10) (fun x14 => some (((-100 : Int32) - (x14 - x8)), σ10)) else znm (σ10 0 11) (fun x12 => znm (zsu σ10 0 (upd (σ10 0) 5 x12)) (fun σ13 => L_X6_vine_95 p1 p2 p3 p4 (0 : Int32) σ13)))))) else zbd (M_X6_fails x7 σ6) (fun x16 σ15 => some (x16, σ15)))))))))
set_option maxRecDepth 20000 in
theorem tB_X6_vine_95 {p : Program} {l : Launch} {e : Env} {s : State} {m : MethodId} {args : Array Value} {below : List Frame} {meth : Method} {c : Code} {D : va_G} {a : Nat → Nat} {cI cO cA : ClassId} {o : Int32 × zSt} (C : zC p s m args meth c D (ztys cI cO cA) 21 a cX6_vine 8 RX6 (some .int)) {p1 : Int32} {p2 : Int32} {p3 : Int32} {p4 : Int32} {K95 : (Int32 → zSt → Option (Int32 × zSt))} (hK95 : ∀ (v7 : Int32) (σ : zSt), K95 v7 σ = some o → zV p l e rm_X6_vine s m args below meth c D 21 a (fM a cI) 8 (zQi below args s D 21 a (fM a cI) o) σ 95 [some (.ref (a 0)), none, none, none, none, none, none, some (.int v7)] []) (v7 : Int32) (σ : zSt) (h : B_X6_vine_95 p1 p2 p3 p4 K95 v7 σ = some o) : zV p l e rm_X6_vine s m args below meth c D 21 a (fM a cI) 8 (zQi below args s D 21 a (fM a cI) o) σ 95 [some (.ref (a 0)), none, none, none, none, none, none, some (.int v7)] [] := by
  unfold B_X6_vine_95 at h
  refine r_iload (x := v7) C dX6_vine_95 rfl ?_
  refine r_aload_n (x := (a 0)) C dX6_vine_97 rfl ?_
  refine gf_X6_80 C dX6_vine_98 h (fun x17 h => ?_)
  refine r_icmp_ge (tgt := 138) C dX6_vine_101 (by decide) h (fun h => ?_) (fun h => ?_)
  · refine r_aload_n (x := (a 0)) C dX6_vine_138 rfl ?_
    refine r_callVv C [] [] (b := 0) (by decide) fM_0 rfl rfl zc_X6_114 zB_X6_growVine ⟨rfl, rfl, by decide, by decide⟩ (fun out h => c_X6_growVine C.2.2.2.2.2.2.2.1  h) rfl rfl (Nat.le_of_ble_eq_true rfl) dX6_vine_139 h (fun σ18 h => ?_)
    refine r_aload_n (x := (a 0)) C dX6_vine_142 rfl ?_
    refine r_iconst (v := 0) C dX6_vine_143 (by decide) ?_
    refine pf_X6_117 C dX6_vine_144 h (fun σ19 h => ?_)
    refine r_aload_n (x := (a 0)) C dX6_vine_147 rfl ?_
    refine r_iconst (v := 0) C dX6_vine_148 (by decide) ?_
    refine pf_X6_120 C dX6_vine_149 h (fun σ20 h => ?_)
    refine r_aload_n (x := (a 0)) C dX6_vine_152 rfl ?_
    refine gf_X6_80 C dX6_vine_153 h (fun x21 h => ?_)
    exact r_iret C dX6_vine_156 h
  · refine r_aload_n (x := (a 0)) C dX6_vine_104 rfl ?_
    refine gf_X6_22 C dX6_vine_105 ?_
    refine r_iload (x := v7) C dX6_vine_108 rfl ?_
    refine r_aload_n (x := (a 0)) C dX6_vine_110 rfl ?_
    refine gf_X6_31 C dX6_vine_111 ?_
    refine r_iload (x := v7) C dX6_vine_114 rfl ?_
    refine r_iald (t0 := 0) C 8 aM_8 rfl dX6_vine_116 h (fun x22 h => ?_)
    refine r_iast (t0 := 0) C 5 aM_5 rfl dX6_vine_117 h (fun σ23 h => ?_)
    refine r_aload_n (x := (a 0)) C dX6_vine_118 rfl ?_
    refine gf_X6_25 C dX6_vine_119 ?_
    refine r_iload (x := v7) C dX6_vine_122 rfl ?_
    refine r_aload_n (x := (a 0)) C dX6_vine_124 rfl ?_
    refine gf_X6_34 C dX6_vine_125 ?_
    refine r_iload (x := v7) C dX6_vine_128 rfl ?_
    refine r_iald (t0 := 0) C 9 aM_9 rfl dX6_vine_130 h (fun x24 h => ?_)
    refine r_iast (t0 := 0) C 6 aM_6 rfl dX6_vine_131 h (fun σ25 h => ?_)
    refine r_gen h (fun x26 ex26 h => ?_)
    refine r_iinc (x := v7) (v := x26) (lv' := [some (.ref (a 0)), none, none, none, none, none, none, some (.int x26)]) C dX6_vine_132 rfl (by rw [← ex26]; rfl) (by decide) rfl rfl ?_
    clear ex26
    refine r_goto (tgt := 95) C dX6_vine_135 (by decide) ?_
    exact r_le (lv' := [some (.ref (a 0)), none, none, none, none, none, none, some (.int x26)]) ⟨rfl, rfl, trivial⟩ (hK95 x26 σ25 h)
set_option maxRecDepth 20000 in
theorem tL_X6_vine_95 {p : Program} {l : Launch} {e : Env} {s : State} {m : MethodId} {args : Array Value} {below : List Frame} {meth : Method} {c : Code} {D : va_G} {a : Nat → Nat} {cI cO cA : ClassId} {o : Int32 × zSt} (C : zC p s m args meth c D (ztys cI cO cA) 21 a cX6_vine 8 RX6 (some .int)) {p1 : Int32} {p2 : Int32} {p3 : Int32} {p4 : Int32}  (v7 : Int32) (σ : zSt) (h : L_X6_vine_95 p1 p2 p3 p4  v7 σ = some o) : zV p l e rm_X6_vine s m args below meth c D 21 a (fM a cI) 8 (zQi below args s D 21 a (fM a cI) o) σ 95 [some (.ref (a 0)), none, none, none, none, none, none, some (.int v7)] [] := by
  unfold L_X6_vine_95 at h
  refine zloop_ind (G := fun x => zV p l e rm_X6_vine s m args below meth c D 21 a (fM a cI) 8 (zQi below args s D 21 a (fM a cI) o) x.2 95 [some (.ref (a 0)), none, none, none, none, none, none, some (.int x.1)] []) ?_ zFU _ h
  intro rec hr x h
  exact tB_X6_vine_95 C   (fun v7 σ => hr (v7, σ)) _ _ h
set_option maxRecDepth 20000 in
theorem c_X6_vine {l : Launch} {D : va_G} {a : Nat → Nat} {cI cO cA : ClassId} (hinj : ∀ i j, i < 21 → j < 21 → a i = a j → i = j) {p1 : Int32} {p2 : Int32} {p3 : Int32} {p4 : Int32} {σ : zSt} {o : Int32 × zSt} (h : M_X6_vine p1 p2 p3 p4 σ = some o) : zMi l D (ztys cI cO cA) 21 a (fM a cI) yX6_vine cX6_vine 8 (some .int) rm_X6_vine [.ref (a 0), .int p1, .int p2, .int p3, .int p4] σ o := by
  unfold M_X6_vine at h
  refine zmeti (own := RX6) [some (.ref (a 0)), some (.int p1), some (.int p2), some (.int p3), some (.int p4), none, none, none] (by decide) rfl hinj (Nat.le_of_ble_eq_true rfl) rfl (fun p e s m args below meth c C => ?_)
  refine r_aload_n (x := (a 0)) C dX6_vine_0 rfl ?_
  refine r_iconst (v := 0) C dX6_vine_1 (by decide) ?_
  refine pf_X6_70 C dX6_vine_2 h (fun σ1 h => ?_)
  refine r_iload_n (x := p1) C dX6_vine_5 rfl ?_
  refine r_callSi C [.int p1] [] zc_X6_94 zB_X6_isSheet ⟨rfl, rfl, by decide, by decide⟩ (fun out h => c_X6_isSheet C.2.2.2.2.2.2.2.1  h) rfl rfl (Nat.le_of_ble_eq_true rfl) dX6_vine_6 h (fun x3 σ2 h => ?_)
  refine r_if_ne (tgt := 14) C dX6_vine_9 (by decide) h (fun h => ?_) (fun h => ?_)
  · refine r_iload_n (x := p2) C dX6_vine_14 rfl ?_
    refine r_callSi C [.int p2] [] zc_X6_97 zB_X6_isSort ⟨rfl, rfl, by decide, by decide⟩ (fun out h => c_X6_isSort C.2.2.2.2.2.2.2.1  h) rfl rfl (Nat.le_of_ble_eq_true rfl) dX6_vine_15 h (fun x5 σ4 h => ?_)
    refine r_if_ne (tgt := 24) C dX6_vine_18 (by decide) h (fun h => ?_) (fun h => ?_)
    · refine r_aload_n (x := (a 0)) C dX6_vine_24 rfl ?_
      refine r_iload_n (x := p1) C dX6_vine_25 rfl ?_
      refine r_iload_n (x := p2) C dX6_vine_26 rfl ?_
      refine r_iload_n (x := p3) C dX6_vine_27 rfl ?_
      refine r_iload (x := p4) C dX6_vine_28 rfl ?_
      refine r_callVi C [.int p1, .int p2, .int p3, .int p4] [] (b := 0) (by decide) fM_0 rfl rfl zc_X6_100 zB_X6_against ⟨rfl, rfl, by decide, by decide⟩ (fun out h => c_X6_against C.2.2.2.2.2.2.2.1  h) rfl rfl (Nat.le_of_ble_eq_true rfl) dX6_vine_30 h (fun x7 σ6 h => ?_)
      refine r_istore (lv' := [some (.ref (a 0)), some (.int p1), some (.int p2), some (.int p3), some (.int p4), some (.int x7), none, none]) C dX6_vine_33 (by decide) rfl rfl ?_
      refine r_iload (x := x7) C dX6_vine_35 rfl ?_
      refine r_if_eq (tgt := 47) C dX6_vine_37 (by decide) h (fun h => ?_) (fun h => ?_)
      · refine r_bipush (v := 60) C dX6_vine_47 (by decide) ?_
        refine r_iload_n (x := p1) C dX6_vine_49 rfl ?_
        refine r_imul C dX6_vine_50 ?_
        refine r_iload_n (x := p3) C dX6_vine_51 rfl ?_
        refine r_iadd C dX6_vine_52 ?_
        refine r_nm h (fun x8 h => ?_)
        refine r_istore (lv' := [some (.ref (a 0)), some (.int p1), some (.int p2), some (.int p3), some (.int p4), some (.int x7), some (.int x8), none]) C dX6_vine_53 (by decide) rfl rfl ?_
        refine r_aload_n (x := (a 0)) C dX6_vine_55 rfl ?_
        refine r_iload (x := x8) C dX6_vine_56 rfl ?_
        refine pf_X6_91 C dX6_vine_58 h (fun σ9 h => ?_)
        refine r_aload_n (x := (a 0)) C dX6_vine_61 rfl ?_
        refine r_iload (x := x8) C dX6_vine_62 rfl ?_
        refine r_iload (x := p4) C dX6_vine_64 rfl ?_
        refine r_iadd C dX6_vine_66 ?_
        refine r_callVi C [.int (x8 + p4)] [] (b := 0) (by decide) fM_0 rfl rfl zc_X6_108 zB_X6_readVine ⟨rfl, rfl, by decide, by decide⟩ (fun out h => c_X6_readVine C.2.2.2.2.2.2.2.1  h) rfl rfl (Nat.le_of_ble_eq_true rfl) dX6_vine_67 h (fun x11 σ10 h => ?_)
        refine r_if_ne (tgt := 84) C dX6_vine_70 (by decide) h (fun h => ?_) (fun h => ?_)
        · refine r_aload_n (x := (a 0)) C dX6_vine_84 rfl ?_
          refine r_aload_n (x := (a 0)) C dX6_vine_85 rfl ?_
          refine gf_X6_111 C dX6_vine_86 h (fun x12 h => ?_)
          refine pf_X6_80 C dX6_vine_89 h (fun σ13 h => ?_)
          refine r_iconst (v := 0) C dX6_vine_92 (by decide) ?_
          refine r_istore (lv' := [some (.ref (a 0)), some (.int p1), some (.int p2), some (.int p3), some (.int p4), some (.int x7), some (.int x8), some (.int (0 : Int32))]) C dX6_vine_93 (by decide) rfl rfl ?_
          exact r_le (lv' := [some (.ref (a 0)), none, none, none, none, none, none, some (.int (0 : Int32))]) ⟨rfl, rfl, trivial⟩ (tL_X6_vine_95 C (0 : Int32) σ13 h)
        · refine r_bipush (v := -100) C dX6_vine_73 (by decide) ?_
          refine r_aload_n (x := (a 0)) C dX6_vine_75 rfl ?_
          refine gf_X6_91 C dX6_vine_76 h (fun x14 h => ?_)
          refine r_iload (x := x8) C dX6_vine_79 rfl ?_
          refine r_isub C dX6_vine_81 ?_
          refine r_isub C dX6_vine_82 ?_
          exact r_iret C dX6_vine_83 h
      · refine r_aload_n (x := (a 0)) C dX6_vine_40 rfl ?_
        refine r_iload (x := x7) C dX6_vine_41 rfl ?_
        refine r_callVi C [.int x7] [] (b := 0) (by decide) fM_0 rfl rfl zc_X6_104 zB_X6_fails ⟨rfl, rfl, by decide, by decide⟩ (fun out h => c_X6_fails C.2.2.2.2.2.2.2.1  h) rfl rfl (Nat.le_of_ble_eq_true rfl) dX6_vine_43 h (fun x16 σ15 h => ?_)
        exact r_iret C dX6_vine_46 h
    · refine r_bipush (v := -2) C dX6_vine_21 (by decide) ?_
      exact r_iret C dX6_vine_23 h
  · refine r_iconst (v := -1) C dX6_vine_12 (by decide) ?_
    exact r_iret C dX6_vine_13 h
end
