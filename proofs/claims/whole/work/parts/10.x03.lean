noncomputable section
/-! VineRows.ofPost -/
abbrev rm_X5_ofPost : Room := { frames := 2, cells := 0, slots := 0, locals := 44 }
def M_X5_ofPost (p1 : Int32) (p2 : Int32) (σ : zSt) : Option (Int32 × zSt) := zbd (M_X4_isPost 10 p1 σ) (fun x2 σ1 => (if x2 = 0 then some ((-1 : Int32), σ1) else (if p2 = (0 : Int32) then zga (σ1 (10 + 1)) p1 8 (fun x3 => some (x3, σ1)) else (if p2 = (1 : Int32) then zga (σ1 (10 + 2)) p1 8 (fun x4 => some (x4, σ1)) else (if p2 = (2 : Int32) then zbd (M_X4_worth 10 p1 σ1) (fun x6 σ5 => some (x6, σ5)) else (if p2 = (3 : Int32) then zga (σ1 (10 + 3)) p1 8 (fun x7 => zbd (M_J6_bitCount_0f7a4 x7 σ1) (fun x9 σ8 => some (x9, σ8))) else (if p2 = (4 : Int32) then zga (σ1 (10 + 3)) p1 8 (fun x10 => some (x10, σ1)) else (if p2 = (5 : Int32) then zbd (M_X4_farthest 10 p1 σ1) (fun x12 σ11 => some (x12, σ11)) else (some ((-2 : Int32), σ1))))))))))
set_option maxRecDepth 20000 in
theorem c_X5_ofPost {l : Launch} {D : va_G} {a : Nat → Nat} {cI cO cA : ClassId} (hinj : ∀ i j, i < 51 → j < 51 → a i = a j → i = j) {p1 : Int32} {p2 : Int32} {σ : zSt} {o : Int32 × zSt} (h : M_X5_ofPost p1 p2 σ = some o) : zMi l D (ztys cI cO cA) 51 a (fX a cI cO cA) yX5_ofPost cX5_ofPost 3 (some .int) rm_X5_ofPost [.ref (a 0), .int p1, .int p2] σ o := by
  unfold M_X5_ofPost at h
  refine zmeti (own := RX5) [some (.ref (a 0)), some (.int p1), some (.int p2)] (by decide) rfl hinj (Nat.le_of_ble_eq_true rfl) rfl (fun p e s m args below meth c C => ?_)
  refine r_aload_n (x := (a 0)) C dX5_ofPost_0 rfl ?_
  refine gf_X5_14 C dX5_ofPost_1 ?_
  refine r_iload_n (x := p1) C dX5_ofPost_4 rfl ?_
  refine r_callVi C [.int p1] [] (b := 10) (by decide) (fX_vine (Or.inl rfl)) rfl rfl zc_X5_83 zB_X4_isPost ⟨rfl, rfl, by decide, by decide⟩ (fun out h => c_X4_isPost C.2.2.2.2.2.2.2.1 (Or.inl rfl) h) rfl rfl (Nat.le_of_ble_eq_true rfl) dX5_ofPost_5 h (fun x2 σ1 h => ?_)
  refine r_if_ne (tgt := 13) C dX5_ofPost_8 (by decide) h (fun h => ?_) (fun h => ?_)
  · refine r_iload_n (x := p2) C dX5_ofPost_13 rfl ?_
    by_cases hx0 : p2 = (0 : Int32)
    · rw [if_pos hx0] at h
      refine r_tableIn (tgt := 52) (off := 38) C dX5_ofPost_14 (by rw [hx0]; decide) (by rw [hx0]; decide) (by rw [hx0]; decide) (by decide) ?_
      refine r_aload_n (x := (a 0)) C dX5_ofPost_52 rfl ?_
      refine gf_X5_14 C dX5_ofPost_53 ?_
      refine gf_X5_86 C (Or.inl rfl) dX5_ofPost_56 ?_
      refine r_iload_n (x := p1) C dX5_ofPost_59 rfl ?_
      refine r_iald (t0 := 0) C (10 + 1) (aX_v1 (Or.inl rfl)) rfl dX5_ofPost_60 h (fun x3 h => ?_)
      exact r_iret C dX5_ofPost_61 h
    · rw [if_neg hx0] at h
      by_cases hx1 : p2 = (1 : Int32)
      · rw [if_pos hx1] at h
        refine r_tableIn (tgt := 62) (off := 48) C dX5_ofPost_14 (by rw [hx1]; decide) (by rw [hx1]; decide) (by rw [hx1]; decide) (by decide) ?_
        refine r_aload_n (x := (a 0)) C dX5_ofPost_62 rfl ?_
        refine gf_X5_14 C dX5_ofPost_63 ?_
        refine gf_X5_90 C (Or.inl rfl) dX5_ofPost_66 ?_
        refine r_iload_n (x := p1) C dX5_ofPost_69 rfl ?_
        refine r_iald (t0 := 0) C (10 + 2) (aX_v2 (Or.inl rfl)) rfl dX5_ofPost_70 h (fun x4 h => ?_)
        exact r_iret C dX5_ofPost_71 h
      · rw [if_neg hx1] at h
        by_cases hx2 : p2 = (2 : Int32)
        · rw [if_pos hx2] at h
          refine r_tableIn (tgt := 72) (off := 58) C dX5_ofPost_14 (by rw [hx2]; decide) (by rw [hx2]; decide) (by rw [hx2]; decide) (by decide) ?_
          refine r_aload_n (x := (a 0)) C dX5_ofPost_72 rfl ?_
          refine gf_X5_14 C dX5_ofPost_73 ?_
          refine r_iload_n (x := p1) C dX5_ofPost_76 rfl ?_
          refine r_callVi C [.int p1] [] (b := 10) (by decide) (fX_vine (Or.inl rfl)) rfl rfl zc_X5_93 zB_X4_worth ⟨rfl, rfl, by decide, by decide⟩ (fun out h => c_X4_worth C.2.2.2.2.2.2.2.1 (Or.inl rfl) h) rfl rfl (Nat.le_of_ble_eq_true rfl) dX5_ofPost_77 h (fun x6 σ5 h => ?_)
          exact r_iret C dX5_ofPost_80 h
        · rw [if_neg hx2] at h
          by_cases hx3 : p2 = (3 : Int32)
          · rw [if_pos hx3] at h
            refine r_tableIn (tgt := 81) (off := 67) C dX5_ofPost_14 (by rw [hx3]; decide) (by rw [hx3]; decide) (by rw [hx3]; decide) (by decide) ?_
            refine r_aload_n (x := (a 0)) C dX5_ofPost_81 rfl ?_
            refine gf_X5_14 C dX5_ofPost_82 ?_
            refine gf_X5_96 C (Or.inl rfl) dX5_ofPost_85 ?_
            refine r_iload_n (x := p1) C dX5_ofPost_88 rfl ?_
            refine r_iald (t0 := 0) C (10 + 3) (aX_v3 (Or.inl rfl)) rfl dX5_ofPost_89 h (fun x7 h => ?_)
            refine r_callSi C [.int x7] [] zc_X5_99 zB_J6_bitCount_0f7a4 ⟨rfl, rfl, by decide, by decide⟩ (fun out h => c_J6_bitCount_0f7a4 C.2.2.2.2.2.2.2.1  h) rfl rfl (Nat.le_of_ble_eq_true rfl) dX5_ofPost_90 h (fun x9 σ8 h => ?_)
            exact r_iret C dX5_ofPost_93 h
          · rw [if_neg hx3] at h
            by_cases hx4 : p2 = (4 : Int32)
            · rw [if_pos hx4] at h
              refine r_tableIn (tgt := 94) (off := 80) C dX5_ofPost_14 (by rw [hx4]; decide) (by rw [hx4]; decide) (by rw [hx4]; decide) (by decide) ?_
              refine r_aload_n (x := (a 0)) C dX5_ofPost_94 rfl ?_
              refine gf_X5_14 C dX5_ofPost_95 ?_
              refine gf_X5_96 C (Or.inl rfl) dX5_ofPost_98 ?_
              refine r_iload_n (x := p1) C dX5_ofPost_101 rfl ?_
              refine r_iald (t0 := 0) C (10 + 3) (aX_v3 (Or.inl rfl)) rfl dX5_ofPost_102 h (fun x10 h => ?_)
              exact r_iret C dX5_ofPost_103 h
            · rw [if_neg hx4] at h
              by_cases hx5 : p2 = (5 : Int32)
              · rw [if_pos hx5] at h
                refine r_tableIn (tgt := 104) (off := 90) C dX5_ofPost_14 (by rw [hx5]; decide) (by rw [hx5]; decide) (by rw [hx5]; decide) (by decide) ?_
                refine r_aload_n (x := (a 0)) C dX5_ofPost_104 rfl ?_
                refine gf_X5_14 C dX5_ofPost_105 ?_
                refine r_iload_n (x := p1) C dX5_ofPost_108 rfl ?_
                refine r_callVi C [.int p1] [] (b := 10) (by decide) (fX_vine (Or.inl rfl)) rfl rfl zc_X5_104 zB_X4_farthest ⟨rfl, rfl, by decide, by decide⟩ (fun out h => c_X4_farthest C.2.2.2.2.2.2.2.1 (Or.inl rfl) h) rfl rfl (Nat.le_of_ble_eq_true rfl) dX5_ofPost_109 h (fun x12 σ11 h => ?_)
                exact r_iret C dX5_ofPost_112 h
              · rw [if_neg hx5] at h
                have hy0 := zne (n := 0) hx0 (by decide)
                have hy1 := zne (n := 1) hx1 (by decide)
                have hy2 := zne (n := 2) hx2 (by decide)
                have hy3 := zne (n := 3) hx3 (by decide)
                have hy4 := zne (n := 4) hx4 (by decide)
                have hy5 := zne (n := 5) hx5 (by decide)
                refine r_tableOut (tgt := 113) C dX5_ofPost_14 (by omega) (by decide) ?_
                refine r_bipush (v := -2) C dX5_ofPost_113 (by decide) ?_
                exact r_iret C dX5_ofPost_115 h
  · refine r_iconst (v := -1) C dX5_ofPost_11 (by decide) ?_
    exact r_iret C dX5_ofPost_12 h
/-! VineRows.load -/
abbrev rm_X5_load : Room := { frames := 1, cells := 0, slots := 0, locals := 21 }
def M_X5_load (p1 : Int32) (p2 : Int32) (σ : zSt) : Option (Int32 × zSt) := zbd (M_X4_isPost 10 p1 σ) (fun x2 σ1 => (if x2 = 0 then some ((-1 : Int32), σ1) else (if p2 < 0 then some ((-2 : Int32), σ1) else (if p2 ≤ (9 : Int32) then zga (σ1 (10 + 2)) p1 8 (fun x3 => zgs σ1 (10 + 2) p1 8 p2 (fun σ4 => some (x3, σ4))) else some ((-2 : Int32), σ1)))))
set_option maxRecDepth 20000 in
theorem c_X5_load {l : Launch} {D : va_G} {a : Nat → Nat} {cI cO cA : ClassId} (hinj : ∀ i j, i < 51 → j < 51 → a i = a j → i = j) {p1 : Int32} {p2 : Int32} {σ : zSt} {o : Int32 × zSt} (h : M_X5_load p1 p2 σ = some o) : zMi l D (ztys cI cO cA) 51 a (fX a cI cO cA) yX5_load cX5_load 4 (some .int) rm_X5_load [.ref (a 0), .int p1, .int p2] σ o := by
  unfold M_X5_load at h
  refine zmeti (own := RX5) [some (.ref (a 0)), some (.int p1), some (.int p2), none] (by decide) rfl hinj (Nat.le_of_ble_eq_true rfl) rfl (fun p e s m args below meth c C => ?_)
  refine r_aload_n (x := (a 0)) C dX5_load_0 rfl ?_
  refine gf_X5_14 C dX5_load_1 ?_
  refine r_iload_n (x := p1) C dX5_load_4 rfl ?_
  refine r_callVi C [.int p1] [] (b := 10) (by decide) (fX_vine (Or.inl rfl)) rfl rfl zc_X5_83 zB_X4_isPost ⟨rfl, rfl, by decide, by decide⟩ (fun out h => c_X4_isPost C.2.2.2.2.2.2.2.1 (Or.inl rfl) h) rfl rfl (Nat.le_of_ble_eq_true rfl) dX5_load_5 h (fun x2 σ1 h => ?_)
  refine r_if_ne (tgt := 13) C dX5_load_8 (by decide) h (fun h => ?_) (fun h => ?_)
  · refine r_iload_n (x := p2) C dX5_load_13 rfl ?_
    refine r_if_lt (tgt := 23) C dX5_load_14 (by decide) h (fun h => ?_) (fun h => ?_)
    · refine r_bipush (v := -2) C dX5_load_23 (by decide) ?_
      exact r_iret C dX5_load_25 h
    · refine r_iload_n (x := p2) C dX5_load_17 rfl ?_
      refine r_bipush (v := 9) C dX5_load_18 (by decide) ?_
      refine r_icmp_le (tgt := 26) C dX5_load_20 (by decide) h (fun h => ?_) (fun h => ?_)
      · refine r_aload_n (x := (a 0)) C dX5_load_26 rfl ?_
        refine gf_X5_14 C dX5_load_27 ?_
        refine gf_X5_90 C (Or.inl rfl) dX5_load_30 ?_
        refine r_iload_n (x := p1) C dX5_load_33 rfl ?_
        refine r_iald (t0 := 0) C (10 + 2) (aX_v2 (Or.inl rfl)) rfl dX5_load_34 h (fun x3 h => ?_)
        refine r_istore_n (lv' := [some (.ref (a 0)), some (.int p1), some (.int p2), some (.int x3)]) C dX5_load_35 (by decide) rfl rfl ?_
        refine r_aload_n (x := (a 0)) C dX5_load_36 rfl ?_
        refine gf_X5_14 C dX5_load_37 ?_
        refine gf_X5_90 C (Or.inl rfl) dX5_load_40 ?_
        refine r_iload_n (x := p1) C dX5_load_43 rfl ?_
        refine r_iload_n (x := p2) C dX5_load_44 rfl ?_
        refine r_iast (t0 := 0) C (10 + 2) (aX_v2 (Or.inl rfl)) rfl dX5_load_45 h (fun σ4 h => ?_)
        refine r_iload_n (x := x3) C dX5_load_46 rfl ?_
        exact r_iret C dX5_load_47 h
      · refine r_bipush (v := -2) C dX5_load_23 (by decide) ?_
        exact r_iret C dX5_load_25 h
  · refine r_iconst (v := -1) C dX5_load_11 (by decide) ?_
    exact r_iret C dX5_load_12 h
/-! VineRows.row -/
abbrev rm_X5_row : Room := { frames := 3, cells := 0, slots := 0, locals := 64 }
def M_X5_row (p1 : Int32) (σ : zSt) : Option (Int32 × zSt) := (if p1 < 0 then some ((-2 : Int32), σ) else (if p1 ≤ (5 : Int32) then znm (σ 10 0) (fun x1 => (if x1 = 0 then some ((-3 : Int32), σ) else znm (σ 10 0) (fun x2 => (if p1 < (x2 - (2 : Int32)) then zbv (M_X4_strip 10 σ) (fun σ3 => zga (σ3 (10 + 6)) p1 8 (fun x4 => some (x4, σ3))) else some ((-9 : Int32), σ))))) else some ((-2 : Int32), σ)))
set_option maxRecDepth 20000 in
theorem c_X5_row {l : Launch} {D : va_G} {a : Nat → Nat} {cI cO cA : ClassId} (hinj : ∀ i j, i < 51 → j < 51 → a i = a j → i = j) {p1 : Int32} {σ : zSt} {o : Int32 × zSt} (h : M_X5_row p1 σ = some o) : zMi l D (ztys cI cO cA) 51 a (fX a cI cO cA) yX5_row cX5_row 2 (some .int) rm_X5_row [.ref (a 0), .int p1] σ o := by
  unfold M_X5_row at h
  refine zmeti (own := RX5) [some (.ref (a 0)), some (.int p1)] (by decide) rfl hinj (Nat.le_of_ble_eq_true rfl) rfl (fun p e s m args below meth c C => ?_)
  refine r_iload_n (x := p1) C dX5_row_0 rfl ?_
  refine r_if_lt (tgt := 9) C dX5_row_1 (by decide) h (fun h => ?_) (fun h => ?_)
  · refine r_bipush (v := -2) C dX5_row_9 (by decide) ?_
    exact r_iret C dX5_row_11 h
  · refine r_iload_n (x := p1) C dX5_row_4 rfl ?_
    refine r_iconst (v := 5) C dX5_row_5 (by decide) ?_
    refine r_icmp_le (tgt := 12) C dX5_row_6 (by decide) h (fun h => ?_) (fun h => ?_)
    · refine r_aload_n (x := (a 0)) C dX5_row_12 rfl ?_
      refine gf_X5_14 C dX5_row_13 ?_
      refine gf_X5_80 C (Or.inl rfl) dX5_row_16 h (fun x1 h => ?_)
      refine r_if_ne (tgt := 25) C dX5_row_19 (by decide) h (fun h => ?_) (fun h => ?_)
      · refine r_iload_n (x := p1) C dX5_row_25 rfl ?_
        refine r_aload_n (x := (a 0)) C dX5_row_26 rfl ?_
        refine gf_X5_14 C dX5_row_27 ?_
        refine gf_X5_80 C (Or.inl rfl) dX5_row_30 h (fun x2 h => ?_)
        refine r_iconst (v := 2) C dX5_row_33 (by decide) ?_
        refine r_isub C dX5_row_34 ?_
        refine r_icmp_lt (tgt := 41) C dX5_row_35 (by decide) h (fun h => ?_) (fun h => ?_)
        · refine r_aload_n (x := (a 0)) C dX5_row_41 rfl ?_
          refine gf_X5_14 C dX5_row_42 ?_
          refine r_callVv C [] [] (b := 10) (by decide) (fX_vine (Or.inl rfl)) rfl rfl zc_X5_107 zB_X4_strip ⟨rfl, rfl, by decide, by decide⟩ (fun out h => c_X4_strip C.2.2.2.2.2.2.2.1 (Or.inl rfl) h) rfl rfl (Nat.le_of_ble_eq_true rfl) dX5_row_45 h (fun σ3 h => ?_)
          refine r_aload_n (x := (a 0)) C dX5_row_48 rfl ?_
          refine gf_X5_14 C dX5_row_49 ?_
          refine gf_X5_110 C (Or.inl rfl) dX5_row_52 ?_
          refine r_iload_n (x := p1) C dX5_row_55 rfl ?_
          refine r_iald (t0 := 0) C (10 + 6) (aX_v6 (Or.inl rfl)) rfl dX5_row_56 h (fun x4 h => ?_)
          exact r_iret C dX5_row_57 h
        · refine r_bipush (v := -9) C dX5_row_38 (by decide) ?_
          exact r_iret C dX5_row_40 h
      · refine r_bipush (v := -3) C dX5_row_22 (by decide) ?_
        exact r_iret C dX5_row_24 h
    · refine r_bipush (v := -2) C dX5_row_9 (by decide) ?_
      exact r_iret C dX5_row_11 h
/-! VineRows.graft -/
abbrev rm_X5_graft : Room := { frames := 2, cells := 0, slots := 0, locals := 46 }
def M_X5_graft (p1 : Int32) (p2 : Int32) (σ : zSt) : Option (Int32 × zSt) := zbd (M_X4_isPost 10 p1 σ) (fun x2 σ1 => (if x2 = 0 then some ((-1 : Int32), σ1) else zbd (M_X4_isPost 10 p2 σ1) (fun x4 σ3 => (if x4 = 0 then some ((-1 : Int32), σ3) else (if p1 = p2 then some ((-1 : Int32), σ3) else zbd (M_X4_isEnd 10 p1 σ3) (fun x6 σ5 => (if x6 = 0 then some ((-3 : Int32), σ5) else znm (σ5 0 5) (fun x7 => znm (zsu σ5 0 (upd (σ5 0) 5 (x7 + (1 : Int32)))) (fun σ8 => zbd (M_X4_hangOn 10 p1 p2 σ8) (fun x10 σ9 => some (x10, σ9)))))))))))
set_option maxRecDepth 20000 in
theorem c_X5_graft {l : Launch} {D : va_G} {a : Nat → Nat} {cI cO cA : ClassId} (hinj : ∀ i j, i < 51 → j < 51 → a i = a j → i = j) {p1 : Int32} {p2 : Int32} {σ : zSt} {o : Int32 × zSt} (h : M_X5_graft p1 p2 σ = some o) : zMi l D (ztys cI cO cA) 51 a (fX a cI cO cA) yX5_graft cX5_graft 3 (some .int) rm_X5_graft [.ref (a 0), .int p1, .int p2] σ o := by
  unfold M_X5_graft at h
  refine zmeti (own := RX5) [some (.ref (a 0)), some (.int p1), some (.int p2)] (by decide) rfl hinj (Nat.le_of_ble_eq_true rfl) rfl (fun p e s m args below meth c C => ?_)
  refine r_aload_n (x := (a 0)) C dX5_graft_0 rfl ?_
  refine gf_X5_14 C dX5_graft_1 ?_
  refine r_iload_n (x := p1) C dX5_graft_4 rfl ?_
  refine r_callVi C [.int p1] [] (b := 10) (by decide) (fX_vine (Or.inl rfl)) rfl rfl zc_X5_83 zB_X4_isPost ⟨rfl, rfl, by decide, by decide⟩ (fun out h => c_X4_isPost C.2.2.2.2.2.2.2.1 (Or.inl rfl) h) rfl rfl (Nat.le_of_ble_eq_true rfl) dX5_graft_5 h (fun x2 σ1 h => ?_)
  refine r_if_eq (tgt := 27) C dX5_graft_8 (by decide) h (fun h => ?_) (fun h => ?_)
  · refine r_iconst (v := -1) C dX5_graft_27 (by decide) ?_
    exact r_iret C dX5_graft_28 h
  · refine r_aload_n (x := (a 0)) C dX5_graft_11 rfl ?_
    refine gf_X5_14 C dX5_graft_12 ?_
    refine r_iload_n (x := p2) C dX5_graft_15 rfl ?_
    refine r_callVi C [.int p2] [] (b := 10) (by decide) (fX_vine (Or.inl rfl)) rfl rfl zc_X5_83 zB_X4_isPost ⟨rfl, rfl, by decide, by decide⟩ (fun out h => c_X4_isPost C.2.2.2.2.2.2.2.1 (Or.inl rfl) h) rfl rfl (Nat.le_of_ble_eq_true rfl) dX5_graft_16 h (fun x4 σ3 h => ?_)
    refine r_if_eq (tgt := 27) C dX5_graft_19 (by decide) h (fun h => ?_) (fun h => ?_)
    · refine r_iconst (v := -1) C dX5_graft_27 (by decide) ?_
      exact r_iret C dX5_graft_28 h
    · refine r_iload_n (x := p1) C dX5_graft_22 rfl ?_
      refine r_iload_n (x := p2) C dX5_graft_23 rfl ?_
      refine r_icmp_ne (tgt := 29) C dX5_graft_24 (by decide) h (fun h => ?_) (fun h => ?_)
      · refine r_aload_n (x := (a 0)) C dX5_graft_29 rfl ?_
        refine gf_X5_14 C dX5_graft_30 ?_
        refine r_iload_n (x := p1) C dX5_graft_33 rfl ?_
        refine r_callVi C [.int p1] [] (b := 10) (by decide) (fX_vine (Or.inl rfl)) rfl rfl zc_X5_113 zB_X4_isEnd ⟨rfl, rfl, by decide, by decide⟩ (fun out h => c_X4_isEnd C.2.2.2.2.2.2.2.1 (Or.inl rfl) h) rfl rfl (Nat.le_of_ble_eq_true rfl) dX5_graft_34 h (fun x6 σ5 h => ?_)
        refine r_if_ne (tgt := 43) C dX5_graft_37 (by decide) h (fun h => ?_) (fun h => ?_)
        · refine r_aload_n (x := (a 0)) C dX5_graft_43 rfl ?_
          refine r_dup C dX5_graft_44 rfl ?_
          refine gf_X5_74 C dX5_graft_45 h (fun x7 h => ?_)
          refine r_iconst (v := 1) C dX5_graft_48 (by decide) ?_
          refine r_iadd C dX5_graft_49 ?_
          refine pf_X5_74 C dX5_graft_50 h (fun σ8 h => ?_)
          refine r_aload_n (x := (a 0)) C dX5_graft_53 rfl ?_
          refine gf_X5_14 C dX5_graft_54 ?_
          refine r_iload_n (x := p1) C dX5_graft_57 rfl ?_
          refine r_iload_n (x := p2) C dX5_graft_58 rfl ?_
          refine r_callVi C [.int p1, .int p2] [] (b := 10) (by decide) (fX_vine (Or.inl rfl)) rfl rfl zc_X5_116 zB_X4_hangOn ⟨rfl, rfl, by decide, by decide⟩ (fun out h => c_X4_hangOn C.2.2.2.2.2.2.2.1 (Or.inl rfl) h) rfl rfl (Nat.le_of_ble_eq_true rfl) dX5_graft_59 h (fun x10 σ9 h => ?_)
          exact r_iret C dX5_graft_62 h
        · refine r_bipush (v := -3) C dX5_graft_40 (by decide) ?_
          exact r_iret C dX5_graft_42 h
      · refine r_iconst (v := -1) C dX5_graft_27 (by decide) ?_
        exact r_iret C dX5_graft_28 h
/-! VineRows.tried -/
abbrev rm_X5_tried : Room := { frames := 2, cells := 0, slots := 0, locals := 46 }
def M_X5_tried (p1 : Int32) (p2 : Int32) (σ : zSt) : Option (Int32 × zSt) := (if p2 < (10 : Int32) then zbd (M_X4_isPost 27 p1 σ) (fun x2 σ1 => (if x2 = 0 then zgz (0 : Int32) σ1 else zbd (M_X4_isPost 27 p2 σ1) (fun x4 σ3 => (if x4 = 0 then zgz (0 : Int32) σ3 else (if p1 = p2 then zgz (0 : Int32) σ3 else zbd (M_X4_isEnd 27 p1 σ3) (fun x6 σ5 => (if x6 = 0 then zgz (0 : Int32) σ5 else zbd (M_X4_hangOn 27 p1 p2 σ5) (fun x8 σ7 => zgz (1 : Int32) σ7)))))))) else znm ((p2 - (10 : Int32))) (fun x9 => zbd (M_X4_isPost 27 x9 σ) (fun x11 σ10 => (if x11 = 0 then zgz (0 : Int32) σ10 else zgs σ10 (27 + 2) x9 8 p1 (fun σ12 => zgz (1 : Int32) σ12)))))
set_option maxRecDepth 20000 in
theorem c_X5_tried {l : Launch} {D : va_G} {a : Nat → Nat} {cI cO cA : ClassId} (hinj : ∀ i j, i < 51 → j < 51 → a i = a j → i = j) {p1 : Int32} {p2 : Int32} {σ : zSt} {o : Int32 × zSt} (h : M_X5_tried p1 p2 σ = some o) : zMi l D (ztys cI cO cA) 51 a (fX a cI cO cA) yX5_tried cX5_tried 4 (some .boolean) rm_X5_tried [.ref (a 0), .int p1, .int p2] σ o := by
  unfold M_X5_tried at h
  refine zmeti (own := RX5) [some (.ref (a 0)), some (.int p1), some (.int p2), none] (by decide) rfl hinj (Nat.le_of_ble_eq_true rfl) rfl (fun p e s m args below meth c C => ?_)
  refine r_iload_n (x := p2) C dX5_tried_0 rfl ?_
  refine r_bipush (v := 10) C dX5_tried_1 (by decide) ?_
  refine r_icmp_lt (tgt := 36) C dX5_tried_3 (by decide) h (fun h => ?_) (fun h => ?_)
  · refine r_aload_n (x := (a 0)) C dX5_tried_36 rfl ?_
    refine gf_X5_18 C dX5_tried_37 ?_
    refine r_iload_n (x := p1) C dX5_tried_40 rfl ?_
    refine r_callVi C [.int p1] [] (b := 27) (by decide) (fX_vine (Or.inr rfl)) rfl rfl zc_X5_83 zB_X4_isPost ⟨rfl, rfl, by decide, by decide⟩ (fun out h => c_X4_isPost C.2.2.2.2.2.2.2.1 (Or.inr rfl) h) rfl rfl (Nat.le_of_ble_eq_true rfl) dX5_tried_41 h (fun x2 σ1 h => ?_)
    refine r_if_eq (tgt := 74) C dX5_tried_44 (by decide) h (fun h => ?_) (fun h => ?_)
    · refine r_iconst (v := 0) C dX5_tried_74 (by decide) ?_
      exact r_zret C dX5_tried_75 h
    · refine r_aload_n (x := (a 0)) C dX5_tried_47 rfl ?_
      refine gf_X5_18 C dX5_tried_48 ?_
      refine r_iload_n (x := p2) C dX5_tried_51 rfl ?_
      refine r_callVi C [.int p2] [] (b := 27) (by decide) (fX_vine (Or.inr rfl)) rfl rfl zc_X5_83 zB_X4_isPost ⟨rfl, rfl, by decide, by decide⟩ (fun out h => c_X4_isPost C.2.2.2.2.2.2.2.1 (Or.inr rfl) h) rfl rfl (Nat.le_of_ble_eq_true rfl) dX5_tried_52 h (fun x4 σ3 h => ?_)
      refine r_if_eq (tgt := 74) C dX5_tried_55 (by decide) h (fun h => ?_) (fun h => ?_)
      · refine r_iconst (v := 0) C dX5_tried_74 (by decide) ?_
        exact r_zret C dX5_tried_75 h
      · refine r_iload_n (x := p1) C dX5_tried_58 rfl ?_
        refine r_iload_n (x := p2) C dX5_tried_59 rfl ?_
        refine r_icmp_eq (tgt := 74) C dX5_tried_60 (by decide) h (fun h => ?_) (fun h => ?_)
        · refine r_iconst (v := 0) C dX5_tried_74 (by decide) ?_
          exact r_zret C dX5_tried_75 h
        · refine r_aload_n (x := (a 0)) C dX5_tried_63 rfl ?_
          refine gf_X5_18 C dX5_tried_64 ?_
          refine r_iload_n (x := p1) C dX5_tried_67 rfl ?_
          refine r_callVi C [.int p1] [] (b := 27) (by decide) (fX_vine (Or.inr rfl)) rfl rfl zc_X5_113 zB_X4_isEnd ⟨rfl, rfl, by decide, by decide⟩ (fun out h => c_X4_isEnd C.2.2.2.2.2.2.2.1 (Or.inr rfl) h) rfl rfl (Nat.le_of_ble_eq_true rfl) dX5_tried_68 h (fun x6 σ5 h => ?_)
          refine r_if_ne (tgt := 76) C dX5_tried_71 (by decide) h (fun h => ?_) (fun h => ?_)
          · refine r_aload_n (x := (a 0)) C dX5_tried_76 rfl ?_
            refine gf_X5_18 C dX5_tried_77 ?_
            refine r_iload_n (x := p1) C dX5_tried_80 rfl ?_
            refine r_iload_n (x := p2) C dX5_tried_81 rfl ?_
            refine r_callVi C [.int p1, .int p2] [] (b := 27) (by decide) (fX_vine (Or.inr rfl)) rfl rfl zc_X5_116 zB_X4_hangOn ⟨rfl, rfl, by decide, by decide⟩ (fun out h => c_X4_hangOn C.2.2.2.2.2.2.2.1 (Or.inr rfl) h) rfl rfl (Nat.le_of_ble_eq_true rfl) dX5_tried_82 h (fun x8 σ7 h => ?_)
            refine r_pop C dX5_tried_85 rfl ?_
            refine r_iconst (v := 1) C dX5_tried_86 (by decide) ?_
            exact r_zret C dX5_tried_87 h
          · refine r_iconst (v := 0) C dX5_tried_74 (by decide) ?_
            exact r_zret C dX5_tried_75 h
  · refine r_iload_n (x := p2) C dX5_tried_6 rfl ?_
    refine r_bipush (v := 10) C dX5_tried_7 (by decide) ?_
    refine r_isub C dX5_tried_9 ?_
    refine r_nm h (fun x9 h => ?_)
    refine r_istore_n (lv' := [some (.ref (a 0)), some (.int p1), some (.int p2), some (.int x9)]) C dX5_tried_10 (by decide) rfl rfl ?_
    refine r_aload_n (x := (a 0)) C dX5_tried_11 rfl ?_
    refine gf_X5_18 C dX5_tried_12 ?_
    refine r_iload_n (x := x9) C dX5_tried_15 rfl ?_
    refine r_callVi C [.int x9] [] (b := 27) (by decide) (fX_vine (Or.inr rfl)) rfl rfl zc_X5_83 zB_X4_isPost ⟨rfl, rfl, by decide, by decide⟩ (fun out h => c_X4_isPost C.2.2.2.2.2.2.2.1 (Or.inr rfl) h) rfl rfl (Nat.le_of_ble_eq_true rfl) dX5_tried_16 h (fun x11 σ10 h => ?_)
    refine r_if_ne (tgt := 24) C dX5_tried_19 (by decide) h (fun h => ?_) (fun h => ?_)
    · refine r_aload_n (x := (a 0)) C dX5_tried_24 rfl ?_
      refine gf_X5_18 C dX5_tried_25 ?_
      refine gf_X5_90 C (Or.inr rfl) dX5_tried_28 ?_
      refine r_iload_n (x := x9) C dX5_tried_31 rfl ?_
      refine r_iload_n (x := p1) C dX5_tried_32 rfl ?_
      refine r_iast (t0 := 0) C (27 + 2) (aX_v2 (Or.inr rfl)) rfl dX5_tried_33 h (fun σ12 h => ?_)
      refine r_iconst (v := 1) C dX5_tried_34 (by decide) ?_
      exact r_zret C dX5_tried_35 h
    · refine r_iconst (v := 0) C dX5_tried_22 (by decide) ?_
      exact r_zret C dX5_tried_23 h
/-! VineRows.firstWrong -/
abbrev rm_X5_firstWrong : Room := { frames := 3, cells := 0, slots := 0, locals := 69 }
def B_X5_firstWrong_14 (q1 : Nat) (p2 : Int32) (p3 : Int32) (K14 : (Int32 → zSt → Option (Int32 × zSt))) (v4 : Int32) (σ : zSt) : Option (Int32 × zSt) := (if p3 ≤ v4 then some ((-9 : Int32), σ) else zbd (M_X2_at q1 (p2 + ((2 : Int32) * v4)) σ) (fun x3 σ2 => zbd (M_X2_at q1 ((p2 + ((2 : Int32) * v4)) + (1 : Int32)) σ2) (fun x5 σ4 => zbd (M_X5_tried x3 x5 σ4) (fun x7 σ6 => (if x7 = 0 then some (v4, σ6) else znm (v4 + (1 : Int32)) (fun x8 => K14 x8 σ6))))))
def L_X5_firstWrong_14 (q1 : Nat) (p2 : Int32) (p3 : Int32) (v4 : Int32) (σ : zSt) : Option (Int32 × zSt) := zloop (fun (rec : Int32 × zSt → Option (Int32 × zSt)) x => B_X5_firstWrong_14 q1 p2 p3  (fun v4 σ => rec (v4, σ)) x.1 x.2) zFU (v4, σ)
def M_X5_firstWrong (q1 : Nat) (p2 : Int32) (p3 : Int32) (σ : zSt) : Option (Int32 × zSt) := zbv (M_X4_become 27 10 σ) (fun σ1 => L_X5_firstWrong_14 q1 p2 p3 (0 : Int32) σ1)
set_option maxRecDepth 20000 in
theorem tB_X5_firstWrong_14 {p : Program} {l : Launch} {e : Env} {s : State} {m : MethodId} {args : Array Value} {below : List Frame} {meth : Method} {c : Code} {D : va_G} {a : Nat → Nat} {cI cO cA : ClassId} {o : Int32 × zSt} (C : zC p s m args meth c D (ztys cI cO cA) 51 a cX5_firstWrong 5 RX5 (some .int)) {q1 : Nat} {p2 : Int32} {p3 : Int32} (hq1 : 2 ≤ q1 ∧ q1 < 6) {K14 : (Int32 → zSt → Option (Int32 × zSt))} (hK14 : ∀ (v4 : Int32) (σ : zSt), K14 v4 σ = some o → zV p l e rm_X5_firstWrong s m args below meth c D 51 a (fX a cI cO cA) 5 (zQi below args s D 51 a (fX a cI cO cA) o) σ 14 [some (.ref (a 0)), some (.ref (a q1)), some (.int p2), some (.int p3), some (.int v4)] []) (v4 : Int32) (σ : zSt) (h : B_X5_firstWrong_14 q1 p2 p3 K14 v4 σ = some o) : zV p l e rm_X5_firstWrong s m args below meth c D 51 a (fX a cI cO cA) 5 (zQi below args s D 51 a (fX a cI cO cA) o) σ 14 [some (.ref (a 0)), some (.ref (a q1)), some (.int p2), some (.int p3), some (.int v4)] [] := by
  unfold B_X5_firstWrong_14 at h
  refine r_iload (x := v4) C dX5_firstWrong_14 rfl ?_
  refine r_iload_n (x := p3) C dX5_firstWrong_16 rfl ?_
  refine r_icmp_ge (tgt := 58) C dX5_firstWrong_17 (by decide) h (fun h => ?_) (fun h => ?_)
  · refine r_bipush (v := -9) C dX5_firstWrong_58 (by decide) ?_
    exact r_iret C dX5_firstWrong_60 h
  · refine r_aload_n (x := (a 0)) C dX5_firstWrong_20 rfl ?_
    refine r_aload_n (x := (a q1)) C dX5_firstWrong_21 rfl ?_
    refine r_iload_n (x := p2) C dX5_firstWrong_22 rfl ?_
    refine r_iconst (v := 2) C dX5_firstWrong_23 (by decide) ?_
    refine r_iload (x := v4) C dX5_firstWrong_24 rfl ?_
    refine r_imul C dX5_firstWrong_26 ?_
    refine r_iadd C dX5_firstWrong_27 ?_
    refine r_callVi C [.int (p2 + ((2 : Int32) * v4))] [.ref (a 0)] (b := q1) (by omega) (fX_sheet hq1) rfl rfl zc_X5_132 zB_X2_at ⟨rfl, rfl, by decide, by decide⟩ (fun out h => c_X2_at C.2.2.2.2.2.2.2.1 hq1 h) rfl rfl (Nat.le_of_ble_eq_true rfl) dX5_firstWrong_28 h (fun x3 σ2 h => ?_)
    refine r_aload_n (x := (a q1)) C dX5_firstWrong_31 rfl ?_
    refine r_iload_n (x := p2) C dX5_firstWrong_32 rfl ?_
    refine r_iconst (v := 2) C dX5_firstWrong_33 (by decide) ?_
    refine r_iload (x := v4) C dX5_firstWrong_34 rfl ?_
    refine r_imul C dX5_firstWrong_36 ?_
    refine r_iadd C dX5_firstWrong_37 ?_
    refine r_iconst (v := 1) C dX5_firstWrong_38 (by decide) ?_
    refine r_iadd C dX5_firstWrong_39 ?_
    refine r_callVi C [.int ((p2 + ((2 : Int32) * v4)) + (1 : Int32))] [.int x3, .ref (a 0)] (b := q1) (by omega) (fX_sheet hq1) rfl rfl zc_X5_132 zB_X2_at ⟨rfl, rfl, by decide, by decide⟩ (fun out h => c_X2_at C.2.2.2.2.2.2.2.1 hq1 h) rfl rfl (Nat.le_of_ble_eq_true rfl) dX5_firstWrong_40 h (fun x5 σ4 h => ?_)
    refine r_callVi C [.int x3, .int x5] [] (b := 0) (by decide) fX_0 rfl rfl zc_X5_142 zB_X5_tried ⟨rfl, rfl, by decide, by decide⟩ (fun out h => c_X5_tried C.2.2.2.2.2.2.2.1  h) rfl rfl (Nat.le_of_ble_eq_true rfl) dX5_firstWrong_43 h (fun x7 σ6 h => ?_)
    refine r_if_ne (tgt := 52) C dX5_firstWrong_46 (by decide) h (fun h => ?_) (fun h => ?_)
    · refine r_gen h (fun x8 ex8 h => ?_)
      refine r_iinc (x := v4) (v := x8) (lv' := [some (.ref (a 0)), some (.ref (a q1)), some (.int p2), some (.int p3), some (.int x8)]) C dX5_firstWrong_52 rfl (by rw [← ex8]; rfl) (by decide) rfl rfl ?_
      clear ex8
      refine r_goto (tgt := 14) C dX5_firstWrong_55 (by decide) ?_
      exact r_le (lv' := [some (.ref (a 0)), some (.ref (a q1)), some (.int p2), some (.int p3), some (.int x8)]) ⟨rfl, rfl, rfl, rfl, rfl, trivial⟩ (hK14 x8 σ6 h)
    · refine r_iload (x := v4) C dX5_firstWrong_49 rfl ?_
      exact r_iret C dX5_firstWrong_51 h
set_option maxRecDepth 20000 in
theorem tL_X5_firstWrong_14 {p : Program} {l : Launch} {e : Env} {s : State} {m : MethodId} {args : Array Value} {below : List Frame} {meth : Method} {c : Code} {D : va_G} {a : Nat → Nat} {cI cO cA : ClassId} {o : Int32 × zSt} (C : zC p s m args meth c D (ztys cI cO cA) 51 a cX5_firstWrong 5 RX5 (some .int)) {q1 : Nat} {p2 : Int32} {p3 : Int32} (hq1 : 2 ≤ q1 ∧ q1 < 6)  (v4 : Int32) (σ : zSt) (h : L_X5_firstWrong_14 q1 p2 p3  v4 σ = some o) : zV p l e rm_X5_firstWrong s m args below meth c D 51 a (fX a cI cO cA) 5 (zQi below args s D 51 a (fX a cI cO cA) o) σ 14 [some (.ref (a 0)), some (.ref (a q1)), some (.int p2), some (.int p3), some (.int v4)] [] := by
  unfold L_X5_firstWrong_14 at h
  refine zloop_ind (G := fun x => zV p l e rm_X5_firstWrong s m args below meth c D 51 a (fX a cI cO cA) 5 (zQi below args s D 51 a (fX a cI cO cA) o) x.2 14 [some (.ref (a 0)), some (.ref (a q1)), some (.int p2), some (.int p3), some (.int x.1)] []) ?_ zFU _ h
  intro rec hr x h
  exact tB_X5_firstWrong_14 C hq1  (fun v4 σ => hr (v4, σ)) _ _ h
set_option maxRecDepth 20000 in
theorem c_X5_firstWrong {l : Launch} {D : va_G} {a : Nat → Nat} {cI cO cA : ClassId} (hinj : ∀ i j, i < 51 → j < 51 → a i = a j → i = j) {q1 : Nat} {p2 : Int32} {p3 : Int32} (hq1 : 2 ≤ q1 ∧ q1 < 6) {σ : zSt} {o : Int32 × zSt} (h : M_X5_firstWrong q1 p2 p3 σ = some o) : zMi l D (ztys cI cO cA) 51 a (fX a cI cO cA) yX5_firstWrong cX5_firstWrong 5 (some .int) rm_X5_firstWrong [.ref (a 0), .ref (a q1), .int p2, .int p3] σ o := by
  unfold M_X5_firstWrong at h
  refine zmeti (own := RX5) [some (.ref (a 0)), some (.ref (a q1)), some (.int p2), some (.int p3), none] (by decide) rfl hinj (Nat.le_of_ble_eq_true rfl) rfl (fun p e s m args below meth c C => ?_)
  refine r_aload_n (x := (a 0)) C dX5_firstWrong_0 rfl ?_
  refine gf_X5_18 C dX5_firstWrong_1 ?_
  refine r_aload_n (x := (a 0)) C dX5_firstWrong_4 rfl ?_
  refine gf_X5_14 C dX5_firstWrong_5 ?_
  refine r_callVv C [.ref (a 10)] [] (b := 27) (by decide) (fX_vine (Or.inr rfl)) rfl rfl zc_X5_138 zB_X4_become ⟨rfl, rfl, by decide, by decide⟩ (fun out h => c_X4_become C.2.2.2.2.2.2.2.1 (Or.inr rfl) (Or.inl rfl) h) rfl rfl (Nat.le_of_ble_eq_true rfl) dX5_firstWrong_8 h (fun σ1 h => ?_)
  refine r_iconst (v := 0) C dX5_firstWrong_11 (by decide) ?_
  refine r_istore (lv' := [some (.ref (a 0)), some (.ref (a q1)), some (.int p2), some (.int p3), some (.int (0 : Int32))]) C dX5_firstWrong_12 (by decide) rfl rfl ?_
  exact r_le (lv' := [some (.ref (a 0)), some (.ref (a q1)), some (.int p2), some (.int p3), some (.int (0 : Int32))]) ⟨rfl, rfl, rfl, rfl, rfl, trivial⟩ (tL_X5_firstWrong_14 C hq1 (0 : Int32) σ1 h)
/-! VineRows.isOfDay -/
abbrev rm_X5_isOfDay : Room := { frames := 0, cells := 0, slots := 0, locals := 0 }
def B_X5_isOfDay_21 (p1 : Int32) (σ : zSt) : Option (Int32 × zSt) := zgz (1 : Int32) σ
def B_X5_isOfDay_9 (p1 : Int32) (σ : zSt) : Option (Int32 × zSt) := (if p1 < (10 : Int32) then zgz (0 : Int32) σ else (if (18 : Int32) ≤ p1 then zgz (0 : Int32) σ else B_X5_isOfDay_21 p1 σ))
def M_X5_isOfDay (p1 : Int32) (σ : zSt) : Option (Int32 × zSt) := (if p1 < 0 then B_X5_isOfDay_9 p1 σ else (if p1 ≤ (4 : Int32) then B_X5_isOfDay_21 p1 σ else B_X5_isOfDay_9 p1 σ))
set_option maxRecDepth 20000 in
theorem tB_X5_isOfDay_21 {p : Program} {l : Launch} {e : Env} {s : State} {m : MethodId} {args : Array Value} {below : List Frame} {meth : Method} {c : Code} {D : va_G} {a : Nat → Nat} {cI cO cA : ClassId} {o : Int32 × zSt} (C : zC p s m args meth c D (ztys cI cO cA) 51 a cX5_isOfDay 1 RX5 (some .boolean)) {p1 : Int32}  (σ : zSt) (h : B_X5_isOfDay_21 p1   σ = some o) : zV p l e rm_X5_isOfDay s m args below meth c D 51 a (fX a cI cO cA) 1 (zQi below args s D 51 a (fX a cI cO cA) o) σ 21 [none] [] := by
  unfold B_X5_isOfDay_21 at h
  refine r_iconst (v := 1) C dX5_isOfDay_21 (by decide) ?_
  refine r_goto (tgt := 26) C dX5_isOfDay_22 (by decide) ?_
  exact r_zret C dX5_isOfDay_26 h
set_option maxRecDepth 20000 in
theorem tB_X5_isOfDay_9 {p : Program} {l : Launch} {e : Env} {s : State} {m : MethodId} {args : Array Value} {below : List Frame} {meth : Method} {c : Code} {D : va_G} {a : Nat → Nat} {cI cO cA : ClassId} {o : Int32 × zSt} (C : zC p s m args meth c D (ztys cI cO cA) 51 a cX5_isOfDay 1 RX5 (some .boolean)) {p1 : Int32}  (σ : zSt) (h : B_X5_isOfDay_9 p1   σ = some o) : zV p l e rm_X5_isOfDay s m args below meth c D 51 a (fX a cI cO cA) 1 (zQi below args s D 51 a (fX a cI cO cA) o) σ 9 [some (.int p1)] [] := by
  unfold B_X5_isOfDay_9 at h
  refine r_iload_n (x := p1) C dX5_isOfDay_9 rfl ?_
  refine r_bipush (v := 10) C dX5_isOfDay_10 (by decide) ?_
  refine r_icmp_lt (tgt := 25) C dX5_isOfDay_12 (by decide) h (fun h => ?_) (fun h => ?_)
  · refine r_iconst (v := 0) C dX5_isOfDay_25 (by decide) ?_
    exact r_zret C dX5_isOfDay_26 h
  · refine r_iload_n (x := p1) C dX5_isOfDay_15 rfl ?_
    refine r_bipush (v := 18) C dX5_isOfDay_16 (by decide) ?_
    refine r_icmp_ge (tgt := 25) C dX5_isOfDay_18 (by decide) h (fun h => ?_) (fun h => ?_)
    · refine r_iconst (v := 0) C dX5_isOfDay_25 (by decide) ?_
      exact r_zret C dX5_isOfDay_26 h
    · exact r_le (lv' := [none]) trivial (tB_X5_isOfDay_21 C σ h)
set_option maxRecDepth 20000 in
theorem c_X5_isOfDay {l : Launch} {D : va_G} {a : Nat → Nat} {cI cO cA : ClassId} (hinj : ∀ i j, i < 51 → j < 51 → a i = a j → i = j) {p1 : Int32} {σ : zSt} {o : Int32 × zSt} (h : M_X5_isOfDay p1 σ = some o) : zMi l D (ztys cI cO cA) 51 a (fX a cI cO cA) yX5_isOfDay cX5_isOfDay 1 (some .boolean) rm_X5_isOfDay [.int p1] σ o := by
  unfold M_X5_isOfDay at h
  refine zmeti (own := RX5) [some (.int p1)] (by decide) rfl hinj (Nat.le_of_ble_eq_true rfl) rfl (fun p e s m args below meth c C => ?_)
  refine r_iload_n (x := p1) C dX5_isOfDay_0 rfl ?_
  refine r_if_lt (tgt := 9) C dX5_isOfDay_1 (by decide) h (fun h => ?_) (fun h => ?_)
  · exact r_le (lv' := [some (.int p1)]) ⟨rfl, trivial⟩ (tB_X5_isOfDay_9 C σ h)
  · refine r_iload_n (x := p1) C dX5_isOfDay_4 rfl ?_
    refine r_iconst (v := 4) C dX5_isOfDay_5 (by decide) ?_
    refine r_icmp_le (tgt := 21) C dX5_isOfDay_6 (by decide) h (fun h => ?_) (fun h => ?_)
    · exact r_le (lv' := [none]) trivial (tB_X5_isOfDay_21 C σ h)
    · exact r_le (lv' := [some (.int p1)]) ⟨rfl, trivial⟩ (tB_X5_isOfDay_9 C σ h)
/-! VineRows.ofTrial -/
abbrev rm_X5_ofTrial : Room := { frames := 4, cells := 0, slots := 0, locals := 86 }
def M_X5_ofTrial (p1 : Int32) (σ : zSt) : Option (Int32 × zSt) := (if p1 = (0 : Int32) then zbd (M_X4_longest 27 σ) (fun x2 σ1 => some (x2, σ1)) else (if p1 = (1 : Int32) then zbd (M_X4_isPost 27 (p1 - (10 : Int32)) σ) (fun x4 σ3 => (if x4 = 0 then some ((-9 : Int32), σ3) else zga (σ3 (27 + 3)) (p1 - (10 : Int32)) 8 (fun x5 => some (x5, σ3)))) else (if p1 = (2 : Int32) then zbd (M_X4_numberOfRow 27 σ) (fun x7 σ6 => some (x7, σ6)) else (if p1 = (3 : Int32) then zbd (M_X4_ends 27 σ) (fun x9 σ8 => some (x9, σ8)) else (if p1 = (4 : Int32) then zbd (M_X4_worthOfAll 27 σ) (fun x11 σ10 => some (x11, σ10)) else (zbd (M_X4_isPost 27 (p1 - (10 : Int32)) σ) (fun x13 σ12 => (if x13 = 0 then some ((-9 : Int32), σ12) else zga (σ12 (27 + 3)) (p1 - (10 : Int32)) 8 (fun x14 => some (x14, σ12))))))))))
set_option maxRecDepth 20000 in
theorem c_X5_ofTrial {l : Launch} {D : va_G} {a : Nat → Nat} {cI cO cA : ClassId} (hinj : ∀ i j, i < 51 → j < 51 → a i = a j → i = j) {p1 : Int32} {σ : zSt} {o : Int32 × zSt} (h : M_X5_ofTrial p1 σ = some o) : zMi l D (ztys cI cO cA) 51 a (fX a cI cO cA) yX5_ofTrial cX5_ofTrial 2 (some .int) rm_X5_ofTrial [.ref (a 0), .int p1] σ o := by
  unfold M_X5_ofTrial at h
  refine zmeti (own := RX5) [some (.ref (a 0)), some (.int p1)] (by decide) rfl hinj (Nat.le_of_ble_eq_true rfl) rfl (fun p e s m args below meth c C => ?_)
  refine r_iload_n (x := p1) C dX5_ofTrial_0 rfl ?_
  by_cases hx0 : p1 = (0 : Int32)
  · rw [if_pos hx0] at h
    refine r_tableIn (tgt := 36) (off := 35) C dX5_ofTrial_1 (by rw [hx0]; decide) (by rw [hx0]; decide) (by rw [hx0]; decide) (by decide) ?_
    refine r_aload_n (x := (a 0)) C dX5_ofTrial_36 rfl ?_
    refine gf_X5_18 C dX5_ofTrial_37 ?_
    refine r_callVi C [] [] (b := 27) (by decide) (fX_vine (Or.inr rfl)) rfl rfl zc_X5_145 zB_X4_longest ⟨rfl, rfl, by decide, by decide⟩ (fun out h => c_X4_longest C.2.2.2.2.2.2.2.1 (Or.inr rfl) h) rfl rfl (Nat.le_of_ble_eq_true rfl) dX5_ofTrial_40 h (fun x2 σ1 h => ?_)
    exact r_iret C dX5_ofTrial_43 h
  · rw [if_neg hx0] at h
    by_cases hx1 : p1 = (1 : Int32)
    · rw [if_pos hx1] at h
      refine r_tableIn (tgt := 68) (off := 67) C dX5_ofTrial_1 (by rw [hx1]; decide) (by rw [hx1]; decide) (by rw [hx1]; decide) (by decide) ?_
      refine r_aload_n (x := (a 0)) C dX5_ofTrial_68 rfl ?_
      refine gf_X5_18 C dX5_ofTrial_69 ?_
      refine r_iload_n (x := p1) C dX5_ofTrial_72 rfl ?_
      refine r_bipush (v := 10) C dX5_ofTrial_73 (by decide) ?_
      refine r_isub C dX5_ofTrial_75 ?_
      refine r_callVi C [.int (p1 - (10 : Int32))] [] (b := 27) (by decide) (fX_vine (Or.inr rfl)) rfl rfl zc_X5_83 zB_X4_isPost ⟨rfl, rfl, by decide, by decide⟩ (fun out h => c_X4_isPost C.2.2.2.2.2.2.2.1 (Or.inr rfl) h) rfl rfl (Nat.le_of_ble_eq_true rfl) dX5_ofTrial_76 h (fun x4 σ3 h => ?_)
      refine r_if_eq (tgt := 97) C dX5_ofTrial_79 (by decide) h (fun h => ?_) (fun h => ?_)
      · refine r_bipush (v := -9) C dX5_ofTrial_97 (by decide) ?_
        exact r_iret C dX5_ofTrial_99 h
      · refine r_aload_n (x := (a 0)) C dX5_ofTrial_82 rfl ?_
        refine gf_X5_18 C dX5_ofTrial_83 ?_
        refine gf_X5_96 C (Or.inr rfl) dX5_ofTrial_86 ?_
        refine r_iload_n (x := p1) C dX5_ofTrial_89 rfl ?_
        refine r_bipush (v := 10) C dX5_ofTrial_90 (by decide) ?_
        refine r_isub C dX5_ofTrial_92 ?_
        refine r_iald (t0 := 0) C (27 + 3) (aX_v3 (Or.inr rfl)) rfl dX5_ofTrial_93 h (fun x5 h => ?_)
        refine r_goto (tgt := 99) C dX5_ofTrial_94 (by decide) ?_
        exact r_iret C dX5_ofTrial_99 h
    · rw [if_neg hx1] at h
      by_cases hx2 : p1 = (2 : Int32)
      · rw [if_pos hx2] at h
        refine r_tableIn (tgt := 44) (off := 43) C dX5_ofTrial_1 (by rw [hx2]; decide) (by rw [hx2]; decide) (by rw [hx2]; decide) (by decide) ?_
        refine r_aload_n (x := (a 0)) C dX5_ofTrial_44 rfl ?_
        refine gf_X5_18 C dX5_ofTrial_45 ?_
        refine r_callVi C [] [] (b := 27) (by decide) (fX_vine (Or.inr rfl)) rfl rfl zc_X5_149 zB_X4_numberOfRow ⟨rfl, rfl, by decide, by decide⟩ (fun out h => c_X4_numberOfRow C.2.2.2.2.2.2.2.1 (Or.inr rfl) h) rfl rfl (Nat.le_of_ble_eq_true rfl) dX5_ofTrial_48 h (fun x7 σ6 h => ?_)
        exact r_iret C dX5_ofTrial_51 h
      · rw [if_neg hx2] at h
        by_cases hx3 : p1 = (3 : Int32)
        · rw [if_pos hx3] at h
          refine r_tableIn (tgt := 52) (off := 51) C dX5_ofTrial_1 (by rw [hx3]; decide) (by rw [hx3]; decide) (by rw [hx3]; decide) (by decide) ?_
          refine r_aload_n (x := (a 0)) C dX5_ofTrial_52 rfl ?_
          refine gf_X5_18 C dX5_ofTrial_53 ?_
          refine r_callVi C [] [] (b := 27) (by decide) (fX_vine (Or.inr rfl)) rfl rfl zc_X5_152 zB_X4_ends ⟨rfl, rfl, by decide, by decide⟩ (fun out h => c_X4_ends C.2.2.2.2.2.2.2.1 (Or.inr rfl) h) rfl rfl (Nat.le_of_ble_eq_true rfl) dX5_ofTrial_56 h (fun x9 σ8 h => ?_)
          exact r_iret C dX5_ofTrial_59 h
        · rw [if_neg hx3] at h
          by_cases hx4 : p1 = (4 : Int32)
          · rw [if_pos hx4] at h
            refine r_tableIn (tgt := 60) (off := 59) C dX5_ofTrial_1 (by rw [hx4]; decide) (by rw [hx4]; decide) (by rw [hx4]; decide) (by decide) ?_
            refine r_aload_n (x := (a 0)) C dX5_ofTrial_60 rfl ?_
            refine gf_X5_18 C dX5_ofTrial_61 ?_
            refine r_callVi C [] [] (b := 27) (by decide) (fX_vine (Or.inr rfl)) rfl rfl zc_X5_155 zB_X4_worthOfAll ⟨rfl, rfl, by decide, by decide⟩ (fun out h => c_X4_worthOfAll C.2.2.2.2.2.2.2.1 (Or.inr rfl) h) rfl rfl (Nat.le_of_ble_eq_true rfl) dX5_ofTrial_64 h (fun x11 σ10 h => ?_)
            exact r_iret C dX5_ofTrial_67 h
          · rw [if_neg hx4] at h
            have hy0 := zne (n := 0) hx0 (by decide)
            have hy1 := zne (n := 1) hx1 (by decide)
            have hy2 := zne (n := 2) hx2 (by decide)
            have hy3 := zne (n := 3) hx3 (by decide)
            have hy4 := zne (n := 4) hx4 (by decide)
            refine r_tableOut (tgt := 68) C dX5_ofTrial_1 (by omega) (by decide) ?_
            refine r_aload_n (x := (a 0)) C dX5_ofTrial_68 rfl ?_
            refine gf_X5_18 C dX5_ofTrial_69 ?_
            refine r_iload_n (x := p1) C dX5_ofTrial_72 rfl ?_
            refine r_bipush (v := 10) C dX5_ofTrial_73 (by decide) ?_
            refine r_isub C dX5_ofTrial_75 ?_
            refine r_callVi C [.int (p1 - (10 : Int32))] [] (b := 27) (by decide) (fX_vine (Or.inr rfl)) rfl rfl zc_X5_83 zB_X4_isPost ⟨rfl, rfl, by decide, by decide⟩ (fun out h => c_X4_isPost C.2.2.2.2.2.2.2.1 (Or.inr rfl) h) rfl rfl (Nat.le_of_ble_eq_true rfl) dX5_ofTrial_76 h (fun x13 σ12 h => ?_)
            refine r_if_eq (tgt := 97) C dX5_ofTrial_79 (by decide) h (fun h => ?_) (fun h => ?_)
            · refine r_bipush (v := -9) C dX5_ofTrial_97 (by decide) ?_
              exact r_iret C dX5_ofTrial_99 h
            · refine r_aload_n (x := (a 0)) C dX5_ofTrial_82 rfl ?_
              refine gf_X5_18 C dX5_ofTrial_83 ?_
              refine gf_X5_96 C (Or.inr rfl) dX5_ofTrial_86 ?_
              refine r_iload_n (x := p1) C dX5_ofTrial_89 rfl ?_
              refine r_bipush (v := 10) C dX5_ofTrial_90 (by decide) ?_
              refine r_isub C dX5_ofTrial_92 ?_
              refine r_iald (t0 := 0) C (27 + 3) (aX_v3 (Or.inr rfl)) rfl dX5_ofTrial_93 h (fun x14 h => ?_)
              refine r_goto (tgt := 99) C dX5_ofTrial_94 (by decide) ?_
              exact r_iret C dX5_ofTrial_99 h
/-! VineRows.refusalOfPair -/
abbrev rm_X5_refusalOfPair : Room := { frames := 1, cells := 0, slots := 0, locals := 21 }
def B_X5_refusalOfPair_29 (p1 : Int32) (p2 : Int32) (σ : zSt) : Option (Int32 × zSt) := (if p2 < 0 then some ((-2 : Int32), σ) else (if p2 < (8 : Int32) then zbd (M_X4_isPost 10 p1 σ) (fun x2 σ1 => (if x2 = 0 then some ((-1 : Int32), σ1) else some ((0 : Int32), σ1))) else some ((-2 : Int32), σ)))
def B_X5_refusalOfPair_22 (p1 : Int32) (p2 : Int32) (σ : zSt) : Option (Int32 × zSt) := some ((-2 : Int32), σ)
def M_X5_refusalOfPair (p1 : Int32) (p2 : Int32) (σ : zSt) : Option (Int32 × zSt) := (if p2 < (10 : Int32) then B_X5_refusalOfPair_29 p1 p2 σ else (if (18 : Int32) ≤ p2 then B_X5_refusalOfPair_29 p1 p2 σ else (if p1 < 0 then B_X5_refusalOfPair_22 p1 p2 σ else (if p1 ≤ (9 : Int32) then some ((0 : Int32), σ) else B_X5_refusalOfPair_22 p1 p2 σ))))
set_option maxRecDepth 20000 in
theorem tB_X5_refusalOfPair_29 {p : Program} {l : Launch} {e : Env} {s : State} {m : MethodId} {args : Array Value} {below : List Frame} {meth : Method} {c : Code} {D : va_G} {a : Nat → Nat} {cI cO cA : ClassId} {o : Int32 × zSt} (C : zC p s m args meth c D (ztys cI cO cA) 51 a cX5_refusalOfPair 3 RX5 (some .int)) {p1 : Int32} {p2 : Int32}  (σ : zSt) (h : B_X5_refusalOfPair_29 p1 p2   σ = some o) : zV p l e rm_X5_refusalOfPair s m args below meth c D 51 a (fX a cI cO cA) 3 (zQi below args s D 51 a (fX a cI cO cA) o) σ 29 [some (.ref (a 0)), some (.int p1), some (.int p2)] [] := by
  unfold B_X5_refusalOfPair_29 at h
  refine r_iload_n (x := p2) C dX5_refusalOfPair_29 rfl ?_
  refine r_if_lt (tgt := 39) C dX5_refusalOfPair_30 (by decide) h (fun h => ?_) (fun h => ?_)
  · refine r_bipush (v := -2) C dX5_refusalOfPair_39 (by decide) ?_
    exact r_iret C dX5_refusalOfPair_41 h
  · refine r_iload_n (x := p2) C dX5_refusalOfPair_33 rfl ?_
    refine r_bipush (v := 8) C dX5_refusalOfPair_34 (by decide) ?_
    refine r_icmp_lt (tgt := 42) C dX5_refusalOfPair_36 (by decide) h (fun h => ?_) (fun h => ?_)
    · refine r_aload_n (x := (a 0)) C dX5_refusalOfPair_42 rfl ?_
      refine gf_X5_14 C dX5_refusalOfPair_43 ?_
      refine r_iload_n (x := p1) C dX5_refusalOfPair_46 rfl ?_
      refine r_callVi C [.int p1] [] (b := 10) (by decide) (fX_vine (Or.inl rfl)) rfl rfl zc_X5_83 zB_X4_isPost ⟨rfl, rfl, by decide, by decide⟩ (fun out h => c_X4_isPost C.2.2.2.2.2.2.2.1 (Or.inl rfl) h) rfl rfl (Nat.le_of_ble_eq_true rfl) dX5_refusalOfPair_47 h (fun x2 σ1 h => ?_)
      refine r_if_eq (tgt := 57) C dX5_refusalOfPair_50 (by decide) h (fun h => ?_) (fun h => ?_)
      · refine r_iconst (v := -1) C dX5_refusalOfPair_57 (by decide) ?_
        exact r_iret C dX5_refusalOfPair_58 h
      · refine r_iconst (v := 0) C dX5_refusalOfPair_53 (by decide) ?_
        refine r_goto (tgt := 58) C dX5_refusalOfPair_54 (by decide) ?_
        exact r_iret C dX5_refusalOfPair_58 h
    · refine r_bipush (v := -2) C dX5_refusalOfPair_39 (by decide) ?_
      exact r_iret C dX5_refusalOfPair_41 h
set_option maxRecDepth 20000 in
theorem tB_X5_refusalOfPair_22 {p : Program} {l : Launch} {e : Env} {s : State} {m : MethodId} {args : Array Value} {below : List Frame} {meth : Method} {c : Code} {D : va_G} {a : Nat → Nat} {cI cO cA : ClassId} {o : Int32 × zSt} (C : zC p s m args meth c D (ztys cI cO cA) 51 a cX5_refusalOfPair 3 RX5 (some .int)) {p1 : Int32} {p2 : Int32}  (σ : zSt) (h : B_X5_refusalOfPair_22 p1 p2   σ = some o) : zV p l e rm_X5_refusalOfPair s m args below meth c D 51 a (fX a cI cO cA) 3 (zQi below args s D 51 a (fX a cI cO cA) o) σ 22 [none, none, none] [] := by
  unfold B_X5_refusalOfPair_22 at h
  refine r_bipush (v := -2) C dX5_refusalOfPair_22 (by decide) ?_
  refine r_goto (tgt := 28) C dX5_refusalOfPair_24 (by decide) ?_
  exact r_iret C dX5_refusalOfPair_28 h
set_option maxRecDepth 20000 in
theorem c_X5_refusalOfPair {l : Launch} {D : va_G} {a : Nat → Nat} {cI cO cA : ClassId} (hinj : ∀ i j, i < 51 → j < 51 → a i = a j → i = j) {p1 : Int32} {p2 : Int32} {σ : zSt} {o : Int32 × zSt} (h : M_X5_refusalOfPair p1 p2 σ = some o) : zMi l D (ztys cI cO cA) 51 a (fX a cI cO cA) yX5_refusalOfPair cX5_refusalOfPair 3 (some .int) rm_X5_refusalOfPair [.ref (a 0), .int p1, .int p2] σ o := by
  unfold M_X5_refusalOfPair at h
  refine zmeti (own := RX5) [some (.ref (a 0)), some (.int p1), some (.int p2)] (by decide) rfl hinj (Nat.le_of_ble_eq_true rfl) rfl (fun p e s m args below meth c C => ?_)
  refine r_iload_n (x := p2) C dX5_refusalOfPair_0 rfl ?_
  refine r_bipush (v := 10) C dX5_refusalOfPair_1 (by decide) ?_
  refine r_icmp_lt (tgt := 29) C dX5_refusalOfPair_3 (by decide) h (fun h => ?_) (fun h => ?_)
  · exact r_le (lv' := [some (.ref (a 0)), some (.int p1), some (.int p2)]) ⟨rfl, rfl, rfl, trivial⟩ (tB_X5_refusalOfPair_29 C σ h)
  · refine r_iload_n (x := p2) C dX5_refusalOfPair_6 rfl ?_
    refine r_bipush (v := 18) C dX5_refusalOfPair_7 (by decide) ?_
    refine r_icmp_ge (tgt := 29) C dX5_refusalOfPair_9 (by decide) h (fun h => ?_) (fun h => ?_)
    · exact r_le (lv' := [some (.ref (a 0)), some (.int p1), some (.int p2)]) ⟨rfl, rfl, rfl, trivial⟩ (tB_X5_refusalOfPair_29 C σ h)
    · refine r_iload_n (x := p1) C dX5_refusalOfPair_12 rfl ?_
      refine r_if_lt (tgt := 22) C dX5_refusalOfPair_13 (by decide) h (fun h => ?_) (fun h => ?_)
      · exact r_le (lv' := [none, none, none]) trivial (tB_X5_refusalOfPair_22 C σ h)
      · refine r_iload_n (x := p1) C dX5_refusalOfPair_16 rfl ?_
        refine r_bipush (v := 9) C dX5_refusalOfPair_17 (by decide) ?_
        refine r_icmp_le (tgt := 27) C dX5_refusalOfPair_19 (by decide) h (fun h => ?_) (fun h => ?_)
        · refine r_iconst (v := 0) C dX5_refusalOfPair_27 (by decide) ?_
          exact r_iret C dX5_refusalOfPair_28 h
        · exact r_le (lv' := [none, none, none]) trivial (tB_X5_refusalOfPair_22 C σ h)
/-! VineRows.refusalOfPairs -/
abbrev rm_X5_refusalOfPairs : Room := { frames := 2, cells := 0, slots := 0, locals := 43 }
def B_X5_refusalOfPairs_3 (q1 : Nat) (p2 : Int32) (p3 : Int32) (K3 : (Int32 → zSt → Option (Int32 × zSt))) (v4 : Int32) (σ : zSt) : Option (Int32 × zSt) := (if p3 ≤ v4 then some ((0 : Int32), σ) else zbd (M_X2_at q1 (p2 + ((2 : Int32) * v4)) σ) (fun x2 σ1 => zbd (M_X2_at q1 ((p2 + ((2 : Int32) * v4)) + (1 : Int32)) σ1) (fun x4 σ3 => zbd (M_X5_refusalOfPair x2 x4 σ3) (fun x6 σ5 => (if x6 = 0 then znm (v4 + (1 : Int32)) (fun x7 => K3 x7 σ5) else some (x6, σ5))))))
def L_X5_refusalOfPairs_3 (q1 : Nat) (p2 : Int32) (p3 : Int32) (v4 : Int32) (σ : zSt) : Option (Int32 × zSt) := zloop (fun (rec : Int32 × zSt → Option (Int32 × zSt)) x => B_X5_refusalOfPairs_3 q1 p2 p3  (fun v4 σ => rec (v4, σ)) x.1 x.2) zFU (v4, σ)
def M_X5_refusalOfPairs (q1 : Nat) (p2 : Int32) (p3 : Int32) (σ : zSt) : Option (Int32 × zSt) := L_X5_refusalOfPairs_3 q1 p2 p3 (0 : Int32) σ
set_option maxRecDepth 20000 in
theorem tB_X5_refusalOfPairs_3 {p : Program} {l : Launch} {e : Env} {s : State} {m : MethodId} {args : Array Value} {below : List Frame} {meth : Method} {c : Code} {D : va_G} {a : Nat → Nat} {cI cO cA : ClassId} {o : Int32 × zSt} (C : zC p s m args meth c D (ztys cI cO cA) 51 a cX5_refusalOfPairs 6 RX5 (some .int)) {q1 : Nat} {p2 : Int32} {p3 : Int32} (hq1 : 2 ≤ q1 ∧ q1 < 6) {K3 : (Int32 → zSt → Option (Int32 × zSt))} (hK3 : ∀ (v4 : Int32) (σ : zSt), K3 v4 σ = some o → zV p l e rm_X5_refusalOfPairs s m args below meth c D 51 a (fX a cI cO cA) 6 (zQi below args s D 51 a (fX a cI cO cA) o) σ 3 [some (.ref (a 0)), some (.ref (a q1)), some (.int p2), some (.int p3), some (.int v4), none] []) (v4 : Int32) (σ : zSt) (h : B_X5_refusalOfPairs_3 q1 p2 p3 K3 v4 σ = some o) : zV p l e rm_X5_refusalOfPairs s m args below meth c D 51 a (fX a cI cO cA) 6 (zQi below args s D 51 a (fX a cI cO cA) o) σ 3 [some (.ref (a 0)), some (.ref (a q1)), some (.int p2), some (.int p3), some (.int v4), none] [] := by
  unfold B_X5_refusalOfPairs_3 at h
  refine r_iload (x := v4) C dX5_refusalOfPairs_3 rfl ?_
  refine r_iload_n (x := p3) C dX5_refusalOfPairs_5 rfl ?_
  refine r_icmp_ge (tgt := 51) C dX5_refusalOfPairs_6 (by decide) h (fun h => ?_) (fun h => ?_)
  · refine r_iconst (v := 0) C dX5_refusalOfPairs_51 (by decide) ?_
    exact r_iret C dX5_refusalOfPairs_52 h
  · refine r_aload_n (x := (a 0)) C dX5_refusalOfPairs_9 rfl ?_
    refine r_aload_n (x := (a q1)) C dX5_refusalOfPairs_10 rfl ?_
    refine r_iload_n (x := p2) C dX5_refusalOfPairs_11 rfl ?_
    refine r_iconst (v := 2) C dX5_refusalOfPairs_12 (by decide) ?_
    refine r_iload (x := v4) C dX5_refusalOfPairs_13 rfl ?_
    refine r_imul C dX5_refusalOfPairs_15 ?_
    refine r_iadd C dX5_refusalOfPairs_16 ?_
    refine r_callVi C [.int (p2 + ((2 : Int32) * v4))] [.ref (a 0)] (b := q1) (by omega) (fX_sheet hq1) rfl rfl zc_X5_132 zB_X2_at ⟨rfl, rfl, by decide, by decide⟩ (fun out h => c_X2_at C.2.2.2.2.2.2.2.1 hq1 h) rfl rfl (Nat.le_of_ble_eq_true rfl) dX5_refusalOfPairs_17 h (fun x2 σ1 h => ?_)
    refine r_aload_n (x := (a q1)) C dX5_refusalOfPairs_20 rfl ?_
    refine r_iload_n (x := p2) C dX5_refusalOfPairs_21 rfl ?_
    refine r_iconst (v := 2) C dX5_refusalOfPairs_22 (by decide) ?_
    refine r_iload (x := v4) C dX5_refusalOfPairs_23 rfl ?_
    refine r_imul C dX5_refusalOfPairs_25 ?_
    refine r_iadd C dX5_refusalOfPairs_26 ?_
    refine r_iconst (v := 1) C dX5_refusalOfPairs_27 (by decide) ?_
    refine r_iadd C dX5_refusalOfPairs_28 ?_
    refine r_callVi C [.int ((p2 + ((2 : Int32) * v4)) + (1 : Int32))] [.int x2, .ref (a 0)] (b := q1) (by omega) (fX_sheet hq1) rfl rfl zc_X5_132 zB_X2_at ⟨rfl, rfl, by decide, by decide⟩ (fun out h => c_X2_at C.2.2.2.2.2.2.2.1 hq1 h) rfl rfl (Nat.le_of_ble_eq_true rfl) dX5_refusalOfPairs_29 h (fun x4 σ3 h => ?_)
    refine r_callVi C [.int x2, .int x4] [] (b := 0) (by decide) fX_0 rfl rfl zc_X5_135 zB_X5_refusalOfPair ⟨rfl, rfl, by decide, by decide⟩ (fun out h => c_X5_refusalOfPair C.2.2.2.2.2.2.2.1  h) rfl rfl (Nat.le_of_ble_eq_true rfl) dX5_refusalOfPairs_32 h (fun x6 σ5 h => ?_)
    refine r_istore (lv' := [some (.ref (a 0)), some (.ref (a q1)), some (.int p2), some (.int p3), some (.int v4), some (.int x6)]) C dX5_refusalOfPairs_35 (by decide) rfl rfl ?_
    refine r_iload (x := x6) C dX5_refusalOfPairs_37 rfl ?_
    refine r_if_eq (tgt := 45) C dX5_refusalOfPairs_39 (by decide) h (fun h => ?_) (fun h => ?_)
    · refine r_gen h (fun x7 ex7 h => ?_)
      refine r_iinc (x := v4) (v := x7) (lv' := [some (.ref (a 0)), some (.ref (a q1)), some (.int p2), some (.int p3), some (.int x7), some (.int x6)]) C dX5_refusalOfPairs_45 rfl (by rw [← ex7]; rfl) (by decide) rfl rfl ?_
      clear ex7
      refine r_goto (tgt := 3) C dX5_refusalOfPairs_48 (by decide) ?_
      exact r_le (lv' := [some (.ref (a 0)), some (.ref (a q1)), some (.int p2), some (.int p3), some (.int x7), none]) ⟨rfl, rfl, rfl, rfl, rfl, trivial⟩ (hK3 x7 σ5 h)
    · refine r_iload (x := x6) C dX5_refusalOfPairs_42 rfl ?_
      exact r_iret C dX5_refusalOfPairs_44 h
set_option maxRecDepth 20000 in
theorem tL_X5_refusalOfPairs_3 {p : Program} {l : Launch} {e : Env} {s : State} {m : MethodId} {args : Array Value} {below : List Frame} {meth : Method} {c : Code} {D : va_G} {a : Nat → Nat} {cI cO cA : ClassId} {o : Int32 × zSt} (C : zC p s m args meth c D (ztys cI cO cA) 51 a cX5_refusalOfPairs 6 RX5 (some .int)) {q1 : Nat} {p2 : Int32} {p3 : Int32} (hq1 : 2 ≤ q1 ∧ q1 < 6)  (v4 : Int32) (σ : zSt) (h : L_X5_refusalOfPairs_3 q1 p2 p3  v4 σ = some o) : zV p l e rm_X5_refusalOfPairs s m args below meth c D 51 a (fX a cI cO cA) 6 (zQi below args s D 51 a (fX a cI cO cA) o) σ 3 [some (.ref (a 0)), some (.ref (a q1)), some (.int p2), some (.int p3), some (.int v4), none] [] := by
  unfold L_X5_refusalOfPairs_3 at h
  refine zloop_ind (G := fun x => zV p l e rm_X5_refusalOfPairs s m args below meth c D 51 a (fX a cI cO cA) 6 (zQi below args s D 51 a (fX a cI cO cA) o) x.2 3 [some (.ref (a 0)), some (.ref (a q1)), some (.int p2), some (.int p3), some (.int x.1), none] []) ?_ zFU _ h
  intro rec hr x h
  exact tB_X5_refusalOfPairs_3 C hq1  (fun v4 σ => hr (v4, σ)) _ _ h
set_option maxRecDepth 20000 in
theorem c_X5_refusalOfPairs {l : Launch} {D : va_G} {a : Nat → Nat} {cI cO cA : ClassId} (hinj : ∀ i j, i < 51 → j < 51 → a i = a j → i = j) {q1 : Nat} {p2 : Int32} {p3 : Int32} (hq1 : 2 ≤ q1 ∧ q1 < 6) {σ : zSt} {o : Int32 × zSt} (h : M_X5_refusalOfPairs q1 p2 p3 σ = some o) : zMi l D (ztys cI cO cA) 51 a (fX a cI cO cA) yX5_refusalOfPairs cX5_refusalOfPairs 6 (some .int) rm_X5_refusalOfPairs [.ref (a 0), .ref (a q1), .int p2, .int p3] σ o := by
  unfold M_X5_refusalOfPairs at h
  refine zmeti (own := RX5) [some (.ref (a 0)), some (.ref (a q1)), some (.int p2), some (.int p3), none, none] (by decide) rfl hinj (Nat.le_of_ble_eq_true rfl) rfl (fun p e s m args below meth c C => ?_)
  refine r_iconst (v := 0) C dX5_refusalOfPairs_0 (by decide) ?_
  refine r_istore (lv' := [some (.ref (a 0)), some (.ref (a q1)), some (.int p2), some (.int p3), some (.int (0 : Int32)), none]) C dX5_refusalOfPairs_1 (by decide) rfl rfl ?_
  exact r_le (lv' := [some (.ref (a 0)), some (.ref (a q1)), some (.int p2), some (.int p3), some (.int (0 : Int32)), none]) ⟨rfl, rfl, rfl, rfl, rfl, trivial⟩ (tL_X5_refusalOfPairs_3 C hq1 (0 : Int32) σ h)
/-! VineRows.day -/
abbrev rm_X5_day : Room := { frames := 5, cells := 0, slots := 0, locals := 107 }
def B_X5_day_81 (p1 : Int32) (p2 : Int32) (p3 : Int32) (p4 : Int32) (p5 : Int32) (v6 : Nat) (v7 : Int32) (σ : zSt) : Option (Int32 × zSt) := (if v7 = 0 then znm (σ 10 0) (fun x13 => (if x13 = 0 then some ((-3 : Int32), σ) else zbd (M_X5_refusalOfPairs v6 p3 p4 σ) (fun x15 σ14 => (if x15 = 0 then zbd (M_X5_firstWrong v6 p3 p4 σ14) (fun x17 σ16 => (if p5 = (1 : Int32) then some (x17, σ16) else (if x17 = (-9 : Int32) then zbd (M_X5_ofTrial p5 σ16) (fun x19 σ18 => some (x19, σ18)) else some (((-100 : Int32) - x17), σ16)))) else some (x15, σ14))))) else zbd (M_X5_faulted v7 σ) (fun x21 σ20 => some (x21, σ20)))
def M_X5_day (p1 : Int32) (p2 : Int32) (p3 : Int32) (p4 : Int32) (p5 : Int32) (σ : zSt) : Option (Int32 × zSt) := znm (zsu σ 0 (upd (σ 0) 7 (0 : Int32))) (fun σ1 => zbd (M_X5_isSheet p1 σ1) (fun x3 σ2 => (if x3 = 0 then some ((-1 : Int32), σ2) else zbd (M_X5_isLane p2 σ2) (fun x5 σ4 => (if x5 = 0 then some ((-2 : Int32), σ4) else (if p4 < 0 then some ((-2 : Int32), σ4) else (if (20 : Int32) < p4 then some ((-2 : Int32), σ4) else zbd (M_X5_isOfDay p5 σ4) (fun x7 σ6 => (if x7 = 0 then some ((-2 : Int32), σ6) else zgr p1 4 2 (fun q8 => zbd (M_X2_faultAs q8 p2 σ6) (fun x10 σ9 => (if x10 = 0 then zbd (M_X2_has q8 p3 ((2 : Int32) * p4) σ9) (fun x12 σ11 => (if x12 = 0 then B_X5_day_81 p1 p2 p3 p4 p5 q8 (3 : Int32) σ11 else B_X5_day_81 p1 p2 p3 p4 p5 q8 x10 σ11)) else B_X5_day_81 p1 p2 p3 p4 p5 q8 x10 σ9))))))))))))
set_option maxRecDepth 20000 in
theorem tB_X5_day_81 {p : Program} {l : Launch} {e : Env} {s : State} {m : MethodId} {args : Array Value} {below : List Frame} {meth : Method} {c : Code} {D : va_G} {a : Nat → Nat} {cI cO cA : ClassId} {o : Int32 × zSt} (C : zC p s m args meth c D (ztys cI cO cA) 51 a cX5_day 10 RX5 (some .int)) {p1 : Int32} {p2 : Int32} {p3 : Int32} {p4 : Int32} {p5 : Int32}  (v6 : Nat) (v7 : Int32) (hv6 : 2 ≤ v6 ∧ v6 < 6) (σ : zSt) (h : B_X5_day_81 p1 p2 p3 p4 p5  v6 v7 σ = some o) : zV p l e rm_X5_day s m args below meth c D 51 a (fX a cI cO cA) 10 (zQi below args s D 51 a (fX a cI cO cA) o) σ 81 [some (.ref (a 0)), none, none, some (.int p3), some (.int p4), some (.int p5), some (.ref (a v6)), some (.int v7), none, none] [] := by
  unfold B_X5_day_81 at h
  refine r_iload (x := v7) C dX5_day_81 rfl ?_
  refine r_if_eq (tgt := 93) C dX5_day_83 (by decide) h (fun h => ?_) (fun h => ?_)
  · refine r_aload_n (x := (a 0)) C dX5_day_93 rfl ?_
    refine gf_X5_14 C dX5_day_94 ?_
    refine gf_X5_80 C (Or.inl rfl) dX5_day_97 h (fun x13 h => ?_)
    refine r_if_ne (tgt := 106) C dX5_day_100 (by decide) h (fun h => ?_) (fun h => ?_)
    · refine r_aload_n (x := (a 0)) C dX5_day_106 rfl ?_
      refine r_aload (x := (a v6)) C dX5_day_107 rfl ?_
      refine r_iload_n (x := p3) C dX5_day_109 rfl ?_
      refine r_iload (x := p4) C dX5_day_110 rfl ?_
      refine r_callVi C [.ref (a v6), .int p3, .int p4] [] (b := 0) (by decide) fX_0 rfl rfl zc_X5_123 zB_X5_refusalOfPairs ⟨rfl, rfl, by decide, by decide⟩ (fun out h => c_X5_refusalOfPairs C.2.2.2.2.2.2.2.1 hv6 h) rfl rfl (Nat.le_of_ble_eq_true rfl) dX5_day_112 h (fun x15 σ14 h => ?_)
      refine r_istore (lv' := [some (.ref (a 0)), none, none, some (.int p3), some (.int p4), some (.int p5), some (.ref (a v6)), some (.int v7), some (.int x15), none]) C dX5_day_115 (by decide) rfl rfl ?_
      refine r_iload (x := x15) C dX5_day_117 rfl ?_
      refine r_if_eq (tgt := 125) C dX5_day_119 (by decide) h (fun h => ?_) (fun h => ?_)
      · refine r_aload_n (x := (a 0)) C dX5_day_125 rfl ?_
        refine r_aload (x := (a v6)) C dX5_day_126 rfl ?_
        refine r_iload_n (x := p3) C dX5_day_128 rfl ?_
        refine r_iload (x := p4) C dX5_day_129 rfl ?_
        refine r_callVi C [.ref (a v6), .int p3, .int p4] [] (b := 0) (by decide) fX_0 rfl rfl zc_X5_126 zB_X5_firstWrong ⟨rfl, rfl, by decide, by decide⟩ (fun out h => c_X5_firstWrong C.2.2.2.2.2.2.2.1 hv6 h) rfl rfl (Nat.le_of_ble_eq_true rfl) dX5_day_131 h (fun x17 σ16 h => ?_)
        refine r_istore (lv' := [some (.ref (a 0)), none, none, some (.int p3), some (.int p4), some (.int p5), some (.ref (a v6)), some (.int v7), some (.int x15), some (.int x17)]) C dX5_day_134 (by decide) rfl rfl ?_
        refine r_iload (x := p5) C dX5_day_136 rfl ?_
        refine r_iconst (v := 1) C dX5_day_138 (by decide) ?_
        refine r_icmp_ne (tgt := 145) C dX5_day_139 (by decide) h (fun h => ?_) (fun h => ?_)
        · refine r_iload (x := x17) C dX5_day_145 rfl ?_
          refine r_bipush (v := -9) C dX5_day_147 (by decide) ?_
          refine r_icmp_ne (tgt := 161) C dX5_day_149 (by decide) h (fun h => ?_) (fun h => ?_)
          · refine r_bipush (v := -100) C dX5_day_161 (by decide) ?_
            refine r_iload (x := x17) C dX5_day_163 rfl ?_
            refine r_isub C dX5_day_165 ?_
            exact r_iret C dX5_day_166 h
          · refine r_aload_n (x := (a 0)) C dX5_day_152 rfl ?_
            refine r_iload (x := p5) C dX5_day_153 rfl ?_
            refine r_callVi C [.int p5] [] (b := 0) (by decide) fX_0 rfl rfl zc_X5_129 zB_X5_ofTrial ⟨rfl, rfl, by decide, by decide⟩ (fun out h => c_X5_ofTrial C.2.2.2.2.2.2.2.1  h) rfl rfl (Nat.le_of_ble_eq_true rfl) dX5_day_155 h (fun x19 σ18 h => ?_)
            refine r_goto (tgt := 166) C dX5_day_158 (by decide) ?_
            exact r_iret C dX5_day_166 h
        · refine r_iload (x := x17) C dX5_day_142 rfl ?_
          exact r_iret C dX5_day_144 h
      · refine r_iload (x := x15) C dX5_day_122 rfl ?_
        exact r_iret C dX5_day_124 h
    · refine r_bipush (v := -3) C dX5_day_103 (by decide) ?_
      exact r_iret C dX5_day_105 h
  · refine r_aload_n (x := (a 0)) C dX5_day_86 rfl ?_
    refine r_iload (x := v7) C dX5_day_87 rfl ?_
    refine r_callVi C [.int v7] [] (b := 0) (by decide) fX_0 rfl rfl zc_X5_61 zB_X5_faulted ⟨rfl, rfl, by decide, by decide⟩ (fun out h => c_X5_faulted C.2.2.2.2.2.2.2.1  h) rfl rfl (Nat.le_of_ble_eq_true rfl) dX5_day_89 h (fun x21 σ20 h => ?_)
    exact r_iret C dX5_day_92 h
set_option maxRecDepth 20000 in
theorem c_X5_day {l : Launch} {D : va_G} {a : Nat → Nat} {cI cO cA : ClassId} (hinj : ∀ i j, i < 51 → j < 51 → a i = a j → i = j) {p1 : Int32} {p2 : Int32} {p3 : Int32} {p4 : Int32} {p5 : Int32} {σ : zSt} {o : Int32 × zSt} (h : M_X5_day p1 p2 p3 p4 p5 σ = some o) : zMi l D (ztys cI cO cA) 51 a (fX a cI cO cA) yX5_day cX5_day 10 (some .int) rm_X5_day [.ref (a 0), .int p1, .int p2, .int p3, .int p4, .int p5] σ o := by
  unfold M_X5_day at h
  refine zmeti (own := RX5) [some (.ref (a 0)), some (.int p1), some (.int p2), some (.int p3), some (.int p4), some (.int p5), none, none, none, none] (by decide) rfl hinj (Nat.le_of_ble_eq_true rfl) rfl (fun p e s m args below meth c C => ?_)
  refine r_aload_n (x := (a 0)) C dX5_day_0 rfl ?_
  refine r_iconst (v := 0) C dX5_day_1 (by decide) ?_
  refine pf_X5_42 C dX5_day_2 h (fun σ1 h => ?_)
  refine r_iload_n (x := p1) C dX5_day_5 rfl ?_
  refine r_callSi C [.int p1] [] zc_X5_46 zB_X5_isSheet ⟨rfl, rfl, by decide, by decide⟩ (fun out h => c_X5_isSheet C.2.2.2.2.2.2.2.1  h) rfl rfl (Nat.le_of_ble_eq_true rfl) dX5_day_6 h (fun x3 σ2 h => ?_)
  refine r_if_ne (tgt := 14) C dX5_day_9 (by decide) h (fun h => ?_) (fun h => ?_)
  · refine r_iload_n (x := p2) C dX5_day_14 rfl ?_
    refine r_callSi C [.int p2] [] zc_X5_50 zB_X5_isLane ⟨rfl, rfl, by decide, by decide⟩ (fun out h => c_X5_isLane C.2.2.2.2.2.2.2.1  h) rfl rfl (Nat.le_of_ble_eq_true rfl) dX5_day_15 h (fun x5 σ4 h => ?_)
    refine r_if_eq (tgt := 41) C dX5_day_18 (by decide) h (fun h => ?_) (fun h => ?_)
    · refine r_bipush (v := -2) C dX5_day_41 (by decide) ?_
      exact r_iret C dX5_day_43 h
    · refine r_iload (x := p4) C dX5_day_21 rfl ?_
      refine r_if_lt (tgt := 41) C dX5_day_23 (by decide) h (fun h => ?_) (fun h => ?_)
      · refine r_bipush (v := -2) C dX5_day_41 (by decide) ?_
        exact r_iret C dX5_day_43 h
      · refine r_iload (x := p4) C dX5_day_26 rfl ?_
        refine r_bipush (v := 20) C dX5_day_28 (by decide) ?_
        refine r_icmp_gt (tgt := 41) C dX5_day_30 (by decide) h (fun h => ?_) (fun h => ?_)
        · refine r_bipush (v := -2) C dX5_day_41 (by decide) ?_
          exact r_iret C dX5_day_43 h
        · refine r_iload (x := p5) C dX5_day_33 rfl ?_
          refine r_callSi C [.int p5] [] zc_X5_120 zB_X5_isOfDay ⟨rfl, rfl, by decide, by decide⟩ (fun out h => c_X5_isOfDay C.2.2.2.2.2.2.2.1  h) rfl rfl (Nat.le_of_ble_eq_true rfl) dX5_day_35 h (fun x7 σ6 h => ?_)
          refine r_if_ne (tgt := 44) C dX5_day_38 (by decide) h (fun h => ?_) (fun h => ?_)
          · refine r_aload_n (x := (a 0)) C dX5_day_44 rfl ?_
            refine gf_X5_37 C dX5_day_45 ?_
            refine r_iload_n (x := p1) C dX5_day_48 rfl ?_
            refine r_aald (t0 := 1) C 1 aX_sheets rfl rfl dX5_day_49 h (fun q8 hq8 lq8 h => ?_)
            refine r_astore (lv' := [some (.ref (a 0)), some (.int p1), some (.int p2), some (.int p3), some (.int p4), some (.int p5), some (.ref (a q8)), none, none, none]) C dX5_day_50 (by decide) rfl rfl ?_
            refine r_aload (x := (a q8)) C dX5_day_52 rfl ?_
            refine r_iload_n (x := p2) C dX5_day_54 rfl ?_
            refine r_callVi C [.int p2] [] (b := q8) (by omega) (fX_sheet ⟨hq8, lq8⟩) rfl rfl zc_X5_53 zB_X2_faultAs ⟨rfl, rfl, by decide, by decide⟩ (fun out h => c_X2_faultAs C.2.2.2.2.2.2.2.1 ⟨hq8, lq8⟩ h) rfl rfl (Nat.le_of_ble_eq_true rfl) dX5_day_55 h (fun x10 σ9 h => ?_)
            refine r_istore (lv' := [some (.ref (a 0)), some (.int p1), some (.int p2), some (.int p3), some (.int p4), some (.int p5), some (.ref (a q8)), some (.int x10), none, none]) C dX5_day_58 (by decide) rfl rfl ?_
            refine r_iload (x := x10) C dX5_day_60 rfl ?_
            refine r_if_ne (tgt := 81) C dX5_day_62 (by decide) h (fun h => ?_) (fun h => ?_)
            · exact r_le (lv' := [some (.ref (a 0)), none, none, some (.int p3), some (.int p4), some (.int p5), some (.ref (a q8)), some (.int x10), none, none]) ⟨rfl, rfl, rfl, rfl, rfl, rfl, trivial⟩ (tB_X5_day_81 C q8 x10 ⟨hq8, lq8⟩ σ9 h)
            · refine r_aload (x := (a q8)) C dX5_day_65 rfl ?_
              refine r_iload_n (x := p3) C dX5_day_67 rfl ?_
              refine r_iconst (v := 2) C dX5_day_68 (by decide) ?_
              refine r_iload (x := p4) C dX5_day_69 rfl ?_
              refine r_imul C dX5_day_71 ?_
              refine r_callVi C [.int p3, .int ((2 : Int32) * p4)] [] (b := q8) (by omega) (fX_sheet ⟨hq8, lq8⟩) rfl rfl zc_X5_57 zB_X2_has ⟨rfl, rfl, by decide, by decide⟩ (fun out h => c_X2_has C.2.2.2.2.2.2.2.1 ⟨hq8, lq8⟩ h) rfl rfl (Nat.le_of_ble_eq_true rfl) dX5_day_72 h (fun x12 σ11 h => ?_)
              refine r_if_ne (tgt := 81) C dX5_day_75 (by decide) h (fun h => ?_) (fun h => ?_)
              · exact r_le (lv' := [some (.ref (a 0)), none, none, some (.int p3), some (.int p4), some (.int p5), some (.ref (a q8)), some (.int x10), none, none]) ⟨rfl, rfl, rfl, rfl, rfl, rfl, trivial⟩ (tB_X5_day_81 C q8 x10 ⟨hq8, lq8⟩ σ11 h)
              · refine r_iconst (v := 3) C dX5_day_78 (by decide) ?_
                refine r_istore (lv' := [some (.ref (a 0)), some (.int p1), some (.int p2), some (.int p3), some (.int p4), some (.int p5), some (.ref (a q8)), some (.int (3 : Int32)), none, none]) C dX5_day_79 (by decide) rfl rfl ?_
                exact r_le (lv' := [some (.ref (a 0)), none, none, some (.int p3), some (.int p4), some (.int p5), some (.ref (a q8)), some (.int (3 : Int32)), none, none]) ⟨rfl, rfl, rfl, rfl, rfl, rfl, trivial⟩ (tB_X5_day_81 C q8 (3 : Int32) ⟨hq8, lq8⟩ σ11 h)
          · refine r_bipush (v := -2) C dX5_day_41 (by decide) ?_
            exact r_iret C dX5_day_43 h
  · refine r_iconst (v := -1) C dX5_day_12 (by decide) ?_
    exact r_iret C dX5_day_13 h
/-! VineRows.far -/
abbrev rm_X5_far : Room := { frames := 1, cells := 0, slots := 0, locals := 21 }
def M_X5_far (p1 : Int32) (p2 : Int32) (σ : zSt) : Option (Int32 × zSt) := zbd (M_X4_isPost 10 p1 σ) (fun x2 σ1 => (if x2 = 0 then some ((-1 : Int32), σ1) else zbd (M_X4_isPost 10 p2 σ1) (fun x4 σ3 => (if x4 = 0 then some ((-1 : Int32), σ3) else zgr p1 8 (10 + 9) (fun q5 => zga (σ3 q5) p2 8 (fun x6 => some (x6, σ3)))))))
set_option maxRecDepth 20000 in
theorem c_X5_far {l : Launch} {D : va_G} {a : Nat → Nat} {cI cO cA : ClassId} (hinj : ∀ i j, i < 51 → j < 51 → a i = a j → i = j) {p1 : Int32} {p2 : Int32} {σ : zSt} {o : Int32 × zSt} (h : M_X5_far p1 p2 σ = some o) : zMi l D (ztys cI cO cA) 51 a (fX a cI cO cA) yX5_far cX5_far 3 (some .int) rm_X5_far [.ref (a 0), .int p1, .int p2] σ o := by
  unfold M_X5_far at h
  refine zmeti (own := RX5) [some (.ref (a 0)), some (.int p1), some (.int p2)] (by decide) rfl hinj (Nat.le_of_ble_eq_true rfl) rfl (fun p e s m args below meth c C => ?_)
  refine r_aload_n (x := (a 0)) C dX5_far_0 rfl ?_
  refine gf_X5_14 C dX5_far_1 ?_
  refine r_iload_n (x := p1) C dX5_far_4 rfl ?_
  refine r_callVi C [.int p1] [] (b := 10) (by decide) (fX_vine (Or.inl rfl)) rfl rfl zc_X5_83 zB_X4_isPost ⟨rfl, rfl, by decide, by decide⟩ (fun out h => c_X4_isPost C.2.2.2.2.2.2.2.1 (Or.inl rfl) h) rfl rfl (Nat.le_of_ble_eq_true rfl) dX5_far_5 h (fun x2 σ1 h => ?_)
  refine r_if_eq (tgt := 36) C dX5_far_8 (by decide) h (fun h => ?_) (fun h => ?_)
  · refine r_iconst (v := -1) C dX5_far_36 (by decide) ?_
    exact r_iret C dX5_far_37 h
  · refine r_aload_n (x := (a 0)) C dX5_far_11 rfl ?_
    refine gf_X5_14 C dX5_far_12 ?_
    refine r_iload_n (x := p2) C dX5_far_15 rfl ?_
    refine r_callVi C [.int p2] [] (b := 10) (by decide) (fX_vine (Or.inl rfl)) rfl rfl zc_X5_83 zB_X4_isPost ⟨rfl, rfl, by decide, by decide⟩ (fun out h => c_X4_isPost C.2.2.2.2.2.2.2.1 (Or.inl rfl) h) rfl rfl (Nat.le_of_ble_eq_true rfl) dX5_far_16 h (fun x4 σ3 h => ?_)
    refine r_if_eq (tgt := 36) C dX5_far_19 (by decide) h (fun h => ?_) (fun h => ?_)
    · refine r_iconst (v := -1) C dX5_far_36 (by decide) ?_
      exact r_iret C dX5_far_37 h
    · refine r_aload_n (x := (a 0)) C dX5_far_22 rfl ?_
      refine gf_X5_14 C dX5_far_23 ?_
      refine gf_X5_158 C (Or.inl rfl) dX5_far_26 ?_
      refine r_iload_n (x := p1) C dX5_far_29 rfl ?_
      refine r_aald (t0 := 2) C (10 + 4) (aX_away (Or.inl rfl)) rfl rfl dX5_far_30 h (fun q5 hq5 lq5 h => ?_)
      refine r_iload_n (x := p2) C dX5_far_31 rfl ?_
      refine r_iald (t0 := 0) C q5 (aX_row (Or.inl rfl) hq5 lq5) rfl dX5_far_32 h (fun x6 h => ?_)
      refine r_goto (tgt := 37) C dX5_far_33 (by decide) ?_
      exact r_iret C dX5_far_37 h
/-! VineRows.way -/
abbrev rm_X5_way : Room := { frames := 1, cells := 0, slots := 0, locals := 23 }
def B_X5_way_85 (p1 : Int32) (p2 : Int32) (p3 : Int32) (K40 : (Int32 → zSt → Option (Int32 × zSt))) (v4 : Int32) (σ : zSt) : Option (Int32 × zSt) := znm (v4 + (1 : Int32)) (fun x10 => K40 x10 σ)
def B_X5_way_40 (p1 : Int32) (p2 : Int32) (p3 : Int32) (K40 : (Int32 → zSt → Option (Int32 × zSt))) (v4 : Int32) (σ : zSt) : Option (Int32 × zSt) := znm (σ 10 0) (fun x5 => (if x5 ≤ v4 then some ((-9 : Int32), σ) else zgr p1 8 (10 + 9) (fun q6 => zga (σ q6) v4 8 (fun x7 => (if x7 = p3 then zbd (M_X4_isOnWay 10 p1 p2 v4 σ) (fun x9 σ8 => (if x9 = 0 then B_X5_way_85 p1 p2 p3 K40 v4 σ8 else some (v4, σ8))) else B_X5_way_85 p1 p2 p3 K40 v4 σ)))))
def L_X5_way_40 (p1 : Int32) (p2 : Int32) (p3 : Int32) (v4 : Int32) (σ : zSt) : Option (Int32 × zSt) := zloop (fun (rec : Int32 × zSt → Option (Int32 × zSt)) x => B_X5_way_40 p1 p2 p3  (fun v4 σ => rec (v4, σ)) x.1 x.2) zFU (v4, σ)
def M_X5_way (p1 : Int32) (p2 : Int32) (p3 : Int32) (σ : zSt) : Option (Int32 × zSt) := zbd (M_X4_isPost 10 p1 σ) (fun x2 σ1 => (if x2 = 0 then some ((-1 : Int32), σ1) else zbd (M_X4_isPost 10 p2 σ1) (fun x4 σ3 => (if x4 = 0 then some ((-1 : Int32), σ3) else (if p3 < 0 then some ((-2 : Int32), σ3) else (if p3 < (8 : Int32) then L_X5_way_40 p1 p2 p3 (0 : Int32) σ3 else some ((-2 : Int32), σ3)))))))
set_option maxRecDepth 20000 in
theorem tB_X5_way_85 {p : Program} {l : Launch} {e : Env} {s : State} {m : MethodId} {args : Array Value} {below : List Frame} {meth : Method} {c : Code} {D : va_G} {a : Nat → Nat} {cI cO cA : ClassId} {o : Int32 × zSt} (C : zC p s m args meth c D (ztys cI cO cA) 51 a cX5_way 5 RX5 (some .int)) {p1 : Int32} {p2 : Int32} {p3 : Int32} {K40 : (Int32 → zSt → Option (Int32 × zSt))} (hK40 : ∀ (v4 : Int32) (σ : zSt), K40 v4 σ = some o → zV p l e rm_X5_way s m args below meth c D 51 a (fX a cI cO cA) 5 (zQi below args s D 51 a (fX a cI cO cA) o) σ 40 [some (.ref (a 0)), some (.int p1), some (.int p2), some (.int p3), some (.int v4)] []) (v4 : Int32) (σ : zSt) (h : B_X5_way_85 p1 p2 p3 K40 v4 σ = some o) : zV p l e rm_X5_way s m args below meth c D 51 a (fX a cI cO cA) 5 (zQi below args s D 51 a (fX a cI cO cA) o) σ 85 [some (.ref (a 0)), some (.int p1), some (.int p2), some (.int p3), some (.int v4)] [] := by
  unfold B_X5_way_85 at h
  refine r_gen h (fun x10 ex10 h => ?_)
  refine r_iinc (x := v4) (v := x10) (lv' := [some (.ref (a 0)), some (.int p1), some (.int p2), some (.int p3), some (.int x10)]) C dX5_way_85 rfl (by rw [← ex10]; rfl) (by decide) rfl rfl ?_
  clear ex10
  refine r_goto (tgt := 40) C dX5_way_88 (by decide) ?_
  exact r_le (lv' := [some (.ref (a 0)), some (.int p1), some (.int p2), some (.int p3), some (.int x10)]) ⟨rfl, rfl, rfl, rfl, rfl, trivial⟩ (hK40 x10 σ h)
set_option maxRecDepth 20000 in
theorem tB_X5_way_40 {p : Program} {l : Launch} {e : Env} {s : State} {m : MethodId} {args : Array Value} {below : List Frame} {meth : Method} {c : Code} {D : va_G} {a : Nat → Nat} {cI cO cA : ClassId} {o : Int32 × zSt} (C : zC p s m args meth c D (ztys cI cO cA) 51 a cX5_way 5 RX5 (some .int)) {p1 : Int32} {p2 : Int32} {p3 : Int32} {K40 : (Int32 → zSt → Option (Int32 × zSt))} (hK40 : ∀ (v4 : Int32) (σ : zSt), K40 v4 σ = some o → zV p l e rm_X5_way s m args below meth c D 51 a (fX a cI cO cA) 5 (zQi below args s D 51 a (fX a cI cO cA) o) σ 40 [some (.ref (a 0)), some (.int p1), some (.int p2), some (.int p3), some (.int v4)] []) (v4 : Int32) (σ : zSt) (h : B_X5_way_40 p1 p2 p3 K40 v4 σ = some o) : zV p l e rm_X5_way s m args below meth c D 51 a (fX a cI cO cA) 5 (zQi below args s D 51 a (fX a cI cO cA) o) σ 40 [some (.ref (a 0)), some (.int p1), some (.int p2), some (.int p3), some (.int v4)] [] := by
  unfold B_X5_way_40 at h
  refine r_iload (x := v4) C dX5_way_40 rfl ?_
  refine r_aload_n (x := (a 0)) C dX5_way_42 rfl ?_
  refine gf_X5_14 C dX5_way_43 ?_
  refine gf_X5_80 C (Or.inl rfl) dX5_way_46 h (fun x5 h => ?_)
  refine r_icmp_ge (tgt := 91) C dX5_way_49 (by decide) h (fun h => ?_) (fun h => ?_)
  · refine r_bipush (v := -9) C dX5_way_91 (by decide) ?_
    exact r_iret C dX5_way_93 h
  · refine r_aload_n (x := (a 0)) C dX5_way_52 rfl ?_
    refine gf_X5_14 C dX5_way_53 ?_
    refine gf_X5_158 C (Or.inl rfl) dX5_way_56 ?_
    refine r_iload_n (x := p1) C dX5_way_59 rfl ?_
    refine r_aald (t0 := 2) C (10 + 4) (aX_away (Or.inl rfl)) rfl rfl dX5_way_60 h (fun q6 hq6 lq6 h => ?_)
    refine r_iload (x := v4) C dX5_way_61 rfl ?_
    refine r_iald (t0 := 0) C q6 (aX_row (Or.inl rfl) hq6 lq6) rfl dX5_way_63 h (fun x7 h => ?_)
    refine r_iload_n (x := p3) C dX5_way_64 rfl ?_
    refine r_icmp_ne (tgt := 85) C dX5_way_65 (by decide) h (fun h => ?_) (fun h => ?_)
    · exact r_le (lv' := [some (.ref (a 0)), some (.int p1), some (.int p2), some (.int p3), some (.int v4)]) ⟨rfl, rfl, rfl, rfl, rfl, trivial⟩ (tB_X5_way_85 C (K40 := K40) hK40 v4 σ h)
    · refine r_aload_n (x := (a 0)) C dX5_way_68 rfl ?_
      refine gf_X5_14 C dX5_way_69 ?_
      refine r_iload_n (x := p1) C dX5_way_72 rfl ?_
      refine r_iload_n (x := p2) C dX5_way_73 rfl ?_
      refine r_iload (x := v4) C dX5_way_74 rfl ?_
      refine r_callVi C [.int p1, .int p2, .int v4] [] (b := 10) (by decide) (fX_vine (Or.inl rfl)) rfl rfl zc_X5_162 zB_X4_isOnWay ⟨rfl, rfl, by decide, by decide⟩ (fun out h => c_X4_isOnWay C.2.2.2.2.2.2.2.1 (Or.inl rfl) h) rfl rfl (Nat.le_of_ble_eq_true rfl) dX5_way_76 h (fun x9 σ8 h => ?_)
      refine r_if_eq (tgt := 85) C dX5_way_79 (by decide) h (fun h => ?_) (fun h => ?_)
      · exact r_le (lv' := [some (.ref (a 0)), some (.int p1), some (.int p2), some (.int p3), some (.int v4)]) ⟨rfl, rfl, rfl, rfl, rfl, trivial⟩ (tB_X5_way_85 C (K40 := K40) hK40 v4 σ8 h)
      · refine r_iload (x := v4) C dX5_way_82 rfl ?_
        exact r_iret C dX5_way_84 h
set_option maxRecDepth 20000 in
theorem tL_X5_way_40 {p : Program} {l : Launch} {e : Env} {s : State} {m : MethodId} {args : Array Value} {below : List Frame} {meth : Method} {c : Code} {D : va_G} {a : Nat → Nat} {cI cO cA : ClassId} {o : Int32 × zSt} (C : zC p s m args meth c D (ztys cI cO cA) 51 a cX5_way 5 RX5 (some .int)) {p1 : Int32} {p2 : Int32} {p3 : Int32}  (v4 : Int32) (σ : zSt) (h : L_X5_way_40 p1 p2 p3  v4 σ = some o) : zV p l e rm_X5_way s m args below meth c D 51 a (fX a cI cO cA) 5 (zQi below args s D 51 a (fX a cI cO cA) o) σ 40 [some (.ref (a 0)), some (.int p1), some (.int p2), some (.int p3), some (.int v4)] [] := by
  unfold L_X5_way_40 at h
  refine zloop_ind (G := fun x => zV p l e rm_X5_way s m args below meth c D 51 a (fX a cI cO cA) 5 (zQi below args s D 51 a (fX a cI cO cA) o) x.2 40 [some (.ref (a 0)), some (.int p1), some (.int p2), some (.int p3), some (.int x.1)] []) ?_ zFU _ h
  intro rec hr x h
  exact tB_X5_way_40 C   (fun v4 σ => hr (v4, σ)) _ _ h
set_option maxRecDepth 20000 in
theorem c_X5_way {l : Launch} {D : va_G} {a : Nat → Nat} {cI cO cA : ClassId} (hinj : ∀ i j, i < 51 → j < 51 → a i = a j → i = j) {p1 : Int32} {p2 : Int32} {p3 : Int32} {σ : zSt} {o : Int32 × zSt} (h : M_X5_way p1 p2 p3 σ = some o) : zMi l D (ztys cI cO cA) 51 a (fX a cI cO cA) yX5_way cX5_way 5 (some .int) rm_X5_way [.ref (a 0), .int p1, .int p2, .int p3] σ o := by
  unfold M_X5_way at h
  refine zmeti (own := RX5) [some (.ref (a 0)), some (.int p1), some (.int p2), some (.int p3), none] (by decide) rfl hinj (Nat.le_of_ble_eq_true rfl) rfl (fun p e s m args below meth c C => ?_)
  refine r_aload_n (x := (a 0)) C dX5_way_0 rfl ?_
  refine gf_X5_14 C dX5_way_1 ?_
  refine r_iload_n (x := p1) C dX5_way_4 rfl ?_
  refine r_callVi C [.int p1] [] (b := 10) (by decide) (fX_vine (Or.inl rfl)) rfl rfl zc_X5_83 zB_X4_isPost ⟨rfl, rfl, by decide, by decide⟩ (fun out h => c_X4_isPost C.2.2.2.2.2.2.2.1 (Or.inl rfl) h) rfl rfl (Nat.le_of_ble_eq_true rfl) dX5_way_5 h (fun x2 σ1 h => ?_)
  refine r_if_eq (tgt := 22) C dX5_way_8 (by decide) h (fun h => ?_) (fun h => ?_)
  · refine r_iconst (v := -1) C dX5_way_22 (by decide) ?_
    exact r_iret C dX5_way_23 h
  · refine r_aload_n (x := (a 0)) C dX5_way_11 rfl ?_
    refine gf_X5_14 C dX5_way_12 ?_
    refine r_iload_n (x := p2) C dX5_way_15 rfl ?_
    refine r_callVi C [.int p2] [] (b := 10) (by decide) (fX_vine (Or.inl rfl)) rfl rfl zc_X5_83 zB_X4_isPost ⟨rfl, rfl, by decide, by decide⟩ (fun out h => c_X4_isPost C.2.2.2.2.2.2.2.1 (Or.inl rfl) h) rfl rfl (Nat.le_of_ble_eq_true rfl) dX5_way_16 h (fun x4 σ3 h => ?_)
    refine r_if_ne (tgt := 24) C dX5_way_19 (by decide) h (fun h => ?_) (fun h => ?_)
    · refine r_iload_n (x := p3) C dX5_way_24 rfl ?_
      refine r_if_lt (tgt := 34) C dX5_way_25 (by decide) h (fun h => ?_) (fun h => ?_)
      · refine r_bipush (v := -2) C dX5_way_34 (by decide) ?_
        exact r_iret C dX5_way_36 h
      · refine r_iload_n (x := p3) C dX5_way_28 rfl ?_
        refine r_bipush (v := 8) C dX5_way_29 (by decide) ?_
        refine r_icmp_lt (tgt := 37) C dX5_way_31 (by decide) h (fun h => ?_) (fun h => ?_)
        · refine r_iconst (v := 0) C dX5_way_37 (by decide) ?_
          refine r_istore (lv' := [some (.ref (a 0)), some (.int p1), some (.int p2), some (.int p3), some (.int (0 : Int32))]) C dX5_way_38 (by decide) rfl rfl ?_
          exact r_le (lv' := [some (.ref (a 0)), some (.int p1), some (.int p2), some (.int p3), some (.int (0 : Int32))]) ⟨rfl, rfl, rfl, rfl, rfl, trivial⟩ (tL_X5_way_40 C (0 : Int32) σ3 h)
        · refine r_bipush (v := -2) C dX5_way_34 (by decide) ?_
          exact r_iret C dX5_way_36 h
    · refine r_iconst (v := -1) C dX5_way_22 (by decide) ?_
      exact r_iret C dX5_way_23 h
end
