noncomputable section
/-! VineRows$Sheet.has -/
abbrev rm_X2_has : Room := { frames := 0, cells := 0, slots := 0, locals := 0 }
def M_X2_has (q : Nat) (p1 : Int32) (p2 : Int32) (σ : zSt) : Option (Int32 × zSt) := (if p1 < 0 then zgz (0 : Int32) σ else znm (σ q 2) (fun x1 => (if x1 < p1 then zgz (0 : Int32) σ else (if p2 < 0 then zgz (0 : Int32) σ else znm (σ q 2) (fun x2 => (if (x2 - p1) < p2 then zgz (0 : Int32) σ else zgz (1 : Int32) σ))))))
set_option maxRecDepth 20000 in
theorem c_X2_has {l : Launch} {D : va_G} {a : Nat → Nat} {cI cO cA : ClassId} (hinj : ∀ i j, i < 51 → j < 51 → a i = a j → i = j) {q : Nat} {p1 : Int32} {p2 : Int32} (hq : 2 ≤ q ∧ q < 6) {σ : zSt} {o : Int32 × zSt} (h : M_X2_has q p1 p2 σ = some o) : zMi l D (ztys cI cO cA) 51 a (fX a cI cO cA) yX2_has cX2_has 3 (some .boolean) rm_X2_has [.ref (a q), .int p1, .int p2] σ o := by
  unfold M_X2_has at h
  refine zmeti (own := RX2) [some (.ref (a q)), some (.int p1), some (.int p2)] (by decide) rfl hinj (Nat.le_of_ble_eq_true rfl) rfl (fun p e s m args below meth c C => ?_)
  refine r_iload_n (x := p1) C dX2_has_0 rfl ?_
  refine r_if_lt (tgt := 30) C dX2_has_1 (by decide) h (fun h => ?_) (fun h => ?_)
  · refine r_iconst (v := 0) C dX2_has_30 (by decide) ?_
    exact r_zret C dX2_has_31 h
  · refine r_iload_n (x := p1) C dX2_has_4 rfl ?_
    refine r_aload_n (x := (a q)) C dX2_has_5 rfl ?_
    refine gf_X2_19 C hq dX2_has_6 h (fun x1 h => ?_)
    refine r_icmp_gt (tgt := 30) C dX2_has_9 (by decide) h (fun h => ?_) (fun h => ?_)
    · refine r_iconst (v := 0) C dX2_has_30 (by decide) ?_
      exact r_zret C dX2_has_31 h
    · refine r_iload_n (x := p2) C dX2_has_12 rfl ?_
      refine r_if_lt (tgt := 30) C dX2_has_13 (by decide) h (fun h => ?_) (fun h => ?_)
      · refine r_iconst (v := 0) C dX2_has_30 (by decide) ?_
        exact r_zret C dX2_has_31 h
      · refine r_iload_n (x := p2) C dX2_has_16 rfl ?_
        refine r_aload_n (x := (a q)) C dX2_has_17 rfl ?_
        refine gf_X2_19 C hq dX2_has_18 h (fun x2 h => ?_)
        refine r_iload_n (x := p1) C dX2_has_21 rfl ?_
        refine r_isub C dX2_has_22 ?_
        refine r_icmp_gt (tgt := 30) C dX2_has_23 (by decide) h (fun h => ?_) (fun h => ?_)
        · refine r_iconst (v := 0) C dX2_has_30 (by decide) ?_
          exact r_zret C dX2_has_31 h
        · refine r_iconst (v := 1) C dX2_has_26 (by decide) ?_
          refine r_goto (tgt := 31) C dX2_has_27 (by decide) ?_
          exact r_zret C dX2_has_31 h
/-! VineRows$Sheet.at -/
abbrev rm_X2_at : Room := { frames := 0, cells := 0, slots := 0, locals := 0 }
def M_X2_at (q : Nat) (p1 : Int32) (σ : zSt) : Option (Int32 × zSt) := (if p1 < 0 then some ((0 : Int32), σ) else znm (σ q 2) (fun x1 => (if x1 ≤ p1 then some ((0 : Int32), σ) else zga (σ (q + 4)) p1 60 (fun x2 => some (x2, σ)))))
set_option maxRecDepth 20000 in
theorem c_X2_at {l : Launch} {D : va_G} {a : Nat → Nat} {cI cO cA : ClassId} (hinj : ∀ i j, i < 51 → j < 51 → a i = a j → i = j) {q : Nat} {p1 : Int32} (hq : 2 ≤ q ∧ q < 6) {σ : zSt} {o : Int32 × zSt} (h : M_X2_at q p1 σ = some o) : zMi l D (ztys cI cO cA) 51 a (fX a cI cO cA) yX2_at cX2_at 2 (some .int) rm_X2_at [.ref (a q), .int p1] σ o := by
  unfold M_X2_at at h
  refine zmeti (own := RX2) [some (.ref (a q)), some (.int p1)] (by decide) rfl hinj (Nat.le_of_ble_eq_true rfl) rfl (fun p e s m args below meth c C => ?_)
  refine r_iload_n (x := p1) C dX2_at_0 rfl ?_
  refine r_if_lt (tgt := 21) C dX2_at_1 (by decide) h (fun h => ?_) (fun h => ?_)
  · refine r_iconst (v := 0) C dX2_at_21 (by decide) ?_
    exact r_iret C dX2_at_22 h
  · refine r_iload_n (x := p1) C dX2_at_4 rfl ?_
    refine r_aload_n (x := (a q)) C dX2_at_5 rfl ?_
    refine gf_X2_19 C hq dX2_at_6 h (fun x1 h => ?_)
    refine r_icmp_ge (tgt := 21) C dX2_at_9 (by decide) h (fun h => ?_) (fun h => ?_)
    · refine r_iconst (v := 0) C dX2_at_21 (by decide) ?_
      exact r_iret C dX2_at_22 h
    · refine r_aload_n (x := (a q)) C dX2_at_12 rfl ?_
      refine gf_X2_9 C hq dX2_at_13 ?_
      refine r_iload_n (x := p1) C dX2_at_16 rfl ?_
      refine r_iald (t0 := 0) C (q + 4) (aX_cells hq) rfl dX2_at_17 h (fun x2 h => ?_)
      refine r_goto (tgt := 22) C dX2_at_18 (by decide) ?_
      exact r_iret C dX2_at_22 h
/-! VineRows$Sheet.cut -/
abbrev rm_X2_cut : Room := { frames := 0, cells := 0, slots := 0, locals := 0 }
def M_X2_cut (q : Nat) (p1 : Int32) (σ : zSt) : Option (Int32 × zSt) := znm (σ q 1) (fun x1 => (if x1 = (0 : Int32) then some ((p1).toInt8.toInt32, σ) else (if x1 = (1 : Int32) then some ((p1).toInt16.toInt32, σ) else (some (p1, σ)))))
set_option maxRecDepth 20000 in
theorem c_X2_cut {l : Launch} {D : va_G} {a : Nat → Nat} {cI cO cA : ClassId} (hinj : ∀ i j, i < 51 → j < 51 → a i = a j → i = j) {q : Nat} {p1 : Int32} (hq : 2 ≤ q ∧ q < 6) {σ : zSt} {o : Int32 × zSt} (h : M_X2_cut q p1 σ = some o) : zMi l D (ztys cI cO cA) 51 a (fX a cI cO cA) yX2_cut cX2_cut 2 (some .int) rm_X2_cut [.ref (a q), .int p1] σ o := by
  unfold M_X2_cut at h
  refine zmeti (own := RX2) [some (.ref (a q)), some (.int p1)] (by decide) rfl hinj (Nat.le_of_ble_eq_true rfl) rfl (fun p e s m args below meth c C => ?_)
  refine r_aload_n (x := (a q)) C dX2_cut_0 rfl ?_
  refine gf_X2_15 C hq dX2_cut_1 h (fun x1 h => ?_)
  by_cases hx0 : x1 = (0 : Int32)
  · rw [if_pos hx0] at h
    refine r_lookup (tgt := 32) (off := 28) C dX2_cut_4 (by decide) (by rw [hx0]; decide) (by decide) ?_
    refine r_iload_n (x := p1) C dX2_cut_32 rfl ?_
    refine r_i2b C dX2_cut_33 ?_
    exact r_iret C dX2_cut_34 h
  · rw [if_neg hx0] at h
    by_cases hx1 : x1 = (1 : Int32)
    · rw [if_pos hx1] at h
      refine r_lookup (tgt := 35) (off := 31) C dX2_cut_4 (by decide) (by rw [hx1]; decide) (by decide) ?_
      refine r_iload_n (x := p1) C dX2_cut_35 rfl ?_
      refine r_i2s C dX2_cut_36 ?_
      exact r_iret C dX2_cut_37 h
    · rw [if_neg hx1] at h
      refine r_lookup (tgt := 38) (off := 34) C dX2_cut_4 (by decide) (by rw [lv_osw hx0 (by decide)]; rw [lv_osw hx1 (by decide)]; rfl) (by decide) ?_
      refine r_iload_n (x := p1) C dX2_cut_38 rfl ?_
      exact r_iret C dX2_cut_39 h
/-! VineRows$Text.kindOf -/
abbrev rm_X3_kindOf : Room := { frames := 0, cells := 0, slots := 0, locals := 0 }
def M_X3_kindOf (p1 : Int32) (σ : zSt) : Option (Int32 × zSt) := (if p1 = (98 : Int32) then some ((1 : Int32), σ) else (if p1 = (100 : Int32) then some ((2 : Int32), σ) else (if p1 = (112 : Int32) then some ((0 : Int32), σ) else (some ((-9 : Int32), σ)))))
set_option maxRecDepth 20000 in
theorem c_X3_kindOf {l : Launch} {D : va_G} {a : Nat → Nat} {cI cO cA : ClassId} (hinj : ∀ i j, i < 51 → j < 51 → a i = a j → i = j) {p1 : Int32} {σ : zSt} {o : Int32 × zSt} (h : M_X3_kindOf p1 σ = some o) : zMi l D (ztys cI cO cA) 51 a (fX a cI cO cA) yX3_kindOf cX3_kindOf 1 (some .int) rm_X3_kindOf [.int p1] σ o := by
  unfold M_X3_kindOf at h
  refine zmeti (own := RX3) [some (.int p1)] (by decide) rfl hinj (Nat.le_of_ble_eq_true rfl) rfl (fun p e s m args below meth c C => ?_)
  refine r_iload_n (x := p1) C dX3_kindOf_0 rfl ?_
  by_cases hx0 : p1 = (98 : Int32)
  · rw [if_pos hx0] at h
    refine r_lookup (tgt := 38) (off := 37) C dX3_kindOf_1 (by decide) (by rw [hx0]; decide) (by decide) ?_
    refine r_iconst (v := 1) C dX3_kindOf_38 (by decide) ?_
    exact r_iret C dX3_kindOf_39 h
  · rw [if_neg hx0] at h
    by_cases hx1 : p1 = (100 : Int32)
    · rw [if_pos hx1] at h
      refine r_lookup (tgt := 40) (off := 39) C dX3_kindOf_1 (by decide) (by rw [hx1]; decide) (by decide) ?_
      refine r_iconst (v := 2) C dX3_kindOf_40 (by decide) ?_
      exact r_iret C dX3_kindOf_41 h
    · rw [if_neg hx1] at h
      by_cases hx2 : p1 = (112 : Int32)
      · rw [if_pos hx2] at h
        refine r_lookup (tgt := 36) (off := 35) C dX3_kindOf_1 (by decide) (by rw [hx2]; decide) (by decide) ?_
        refine r_iconst (v := 0) C dX3_kindOf_36 (by decide) ?_
        exact r_iret C dX3_kindOf_37 h
      · rw [if_neg hx2] at h
        refine r_lookup (tgt := 42) (off := 41) C dX3_kindOf_1 (by decide) (by rw [lv_osw hx0 (by decide)]; rw [lv_osw hx1 (by decide)]; rw [lv_osw hx2 (by decide)]; rfl) (by decide) ?_
        refine r_bipush (v := -9) C dX3_kindOf_42 (by decide) ?_
        exact r_iret C dX3_kindOf_44 h
/-! VineRows$Text.goesOn -/
abbrev rm_X3_goesOn : Room := { frames := 1, cells := 0, slots := 0, locals := 20 }
def B_X3_goesOn_86 (p1 : Int32) (p2 : Int32) (p3 : Int32) (s0 : Int32) (σ : zSt) : Option (Int32 × zSt) := (if s0 = 0 then (if p2 < (48 : Int32) then zgz (0 : Int32) σ else (if (57 : Int32) < p2 then zgz (0 : Int32) σ else zgz (1 : Int32) σ)) else zbd (M_X3_kindOf p2 σ) (fun x3 σ2 => (if x3 = (-9 : Int32) then zgz (0 : Int32) σ2 else zgz (1 : Int32) σ2)))
def M_X3_goesOn (p1 : Int32) (p2 : Int32) (p3 : Int32) (σ : zSt) : Option (Int32 × zSt) := (if p1 = 0 then (if p2 = (118 : Int32) then zgz (1 : Int32) σ else zgz (0 : Int32) σ) else (if p1 = (1 : Int32) then (if p2 < (50 : Int32) then zgz (0 : Int32) σ else (if (56 : Int32) < p2 then zgz (0 : Int32) σ else zgz (1 : Int32) σ)) else (if p3 ≤ p1 then (if p1 < ((3 : Int32) * p3) then zrm (p1 - p3) (2 : Int32) (fun x1 => (if x1 = 0 then B_X3_goesOn_86 p1 p2 p3 (1 : Int32) σ else B_X3_goesOn_86 p1 p2 p3 (0 : Int32) σ)) else zgz (0 : Int32) σ) else (if p2 < (48 : Int32) then zgz (0 : Int32) σ else (if ((48 : Int32) + p3) ≤ p2 then zgz (0 : Int32) σ else zgz (1 : Int32) σ)))))
set_option maxRecDepth 20000 in
theorem tB_X3_goesOn_86 {p : Program} {l : Launch} {e : Env} {s : State} {m : MethodId} {args : Array Value} {below : List Frame} {meth : Method} {c : Code} {D : va_G} {a : Nat → Nat} {cI cO cA : ClassId} {o : Int32 × zSt} (C : zC p s m args meth c D (ztys cI cO cA) 51 a cX3_goesOn 4 RX3 (some .boolean)) {p1 : Int32} {p2 : Int32} {p3 : Int32}  (s0 : Int32) (σ : zSt) (h : B_X3_goesOn_86 p1 p2 p3  s0 σ = some o) : zV p l e rm_X3_goesOn s m args below meth c D 51 a (fX a cI cO cA) 4 (zQi below args s D 51 a (fX a cI cO cA) o) σ 86 [none, some (.int p2), none, none] [.int s0] := by
  unfold B_X3_goesOn_86 at h
  refine r_istore_n (lv' := [none, some (.int p2), none, some (.int s0)]) C dX3_goesOn_86 (by decide) rfl rfl ?_
  refine r_iload_n (x := s0) C dX3_goesOn_87 rfl ?_
  refine r_if_eq (tgt := 108) C dX3_goesOn_88 (by decide) h (fun h => ?_) (fun h => ?_)
  · refine r_iload_n (x := p2) C dX3_goesOn_108 rfl ?_
    refine r_bipush (v := 48) C dX3_goesOn_109 (by decide) ?_
    refine r_icmp_lt (tgt := 124) C dX3_goesOn_111 (by decide) h (fun h => ?_) (fun h => ?_)
    · refine r_iconst (v := 0) C dX3_goesOn_124 (by decide) ?_
      exact r_zret C dX3_goesOn_125 h
    · refine r_iload_n (x := p2) C dX3_goesOn_114 rfl ?_
      refine r_bipush (v := 57) C dX3_goesOn_115 (by decide) ?_
      refine r_icmp_gt (tgt := 124) C dX3_goesOn_117 (by decide) h (fun h => ?_) (fun h => ?_)
      · refine r_iconst (v := 0) C dX3_goesOn_124 (by decide) ?_
        exact r_zret C dX3_goesOn_125 h
      · refine r_iconst (v := 1) C dX3_goesOn_120 (by decide) ?_
        refine r_goto (tgt := 125) C dX3_goesOn_121 (by decide) ?_
        exact r_zret C dX3_goesOn_125 h
  · refine r_iload_n (x := p2) C dX3_goesOn_91 rfl ?_
    refine r_callSi C [.int p2] [] zc_X3_21 zB_X3_kindOf ⟨rfl, rfl, by decide, by decide⟩ (fun out h => c_X3_kindOf C.2.2.2.2.2.2.2.1  h) rfl rfl (Nat.le_of_ble_eq_true rfl) dX3_goesOn_92 h (fun x3 σ2 h => ?_)
    refine r_bipush (v := -9) C dX3_goesOn_95 (by decide) ?_
    refine r_icmp_eq (tgt := 104) C dX3_goesOn_97 (by decide) h (fun h => ?_) (fun h => ?_)
    · refine r_iconst (v := 0) C dX3_goesOn_104 (by decide) ?_
      refine r_goto (tgt := 125) C dX3_goesOn_105 (by decide) ?_
      exact r_zret C dX3_goesOn_125 h
    · refine r_iconst (v := 1) C dX3_goesOn_100 (by decide) ?_
      refine r_goto (tgt := 125) C dX3_goesOn_101 (by decide) ?_
      exact r_zret C dX3_goesOn_125 h
set_option maxRecDepth 20000 in
theorem c_X3_goesOn {l : Launch} {D : va_G} {a : Nat → Nat} {cI cO cA : ClassId} (hinj : ∀ i j, i < 51 → j < 51 → a i = a j → i = j) {p1 : Int32} {p2 : Int32} {p3 : Int32} {σ : zSt} {o : Int32 × zSt} (h : M_X3_goesOn p1 p2 p3 σ = some o) : zMi l D (ztys cI cO cA) 51 a (fX a cI cO cA) yX3_goesOn cX3_goesOn 4 (some .boolean) rm_X3_goesOn [.int p1, .int p2, .int p3] σ o := by
  unfold M_X3_goesOn at h
  refine zmeti (own := RX3) [some (.int p1), some (.int p2), some (.int p3), none] (by decide) rfl hinj (Nat.le_of_ble_eq_true rfl) rfl (fun p e s m args below meth c C => ?_)
  refine r_iload_n (x := p1) C dX3_goesOn_0 rfl ?_
  refine r_if_ne (tgt := 16) C dX3_goesOn_1 (by decide) h (fun h => ?_) (fun h => ?_)
  · refine r_iload_n (x := p1) C dX3_goesOn_16 rfl ?_
    refine r_iconst (v := 1) C dX3_goesOn_17 (by decide) ?_
    refine r_icmp_ne (tgt := 39) C dX3_goesOn_18 (by decide) h (fun h => ?_) (fun h => ?_)
    · refine r_iload_n (x := p1) C dX3_goesOn_39 rfl ?_
      refine r_iload_n (x := p3) C dX3_goesOn_40 rfl ?_
      refine r_icmp_ge (tgt := 64) C dX3_goesOn_41 (by decide) h (fun h => ?_) (fun h => ?_)
      · refine r_iload_n (x := p1) C dX3_goesOn_64 rfl ?_
        refine r_iconst (v := 3) C dX3_goesOn_65 (by decide) ?_
        refine r_iload_n (x := p3) C dX3_goesOn_66 rfl ?_
        refine r_imul C dX3_goesOn_67 ?_
        refine r_icmp_lt (tgt := 73) C dX3_goesOn_68 (by decide) h (fun h => ?_) (fun h => ?_)
        · refine r_iload_n (x := p1) C dX3_goesOn_73 rfl ?_
          refine r_iload_n (x := p3) C dX3_goesOn_74 rfl ?_
          refine r_isub C dX3_goesOn_75 ?_
          refine r_iconst (v := 2) C dX3_goesOn_76 (by decide) ?_
          refine r_irem C dX3_goesOn_77 h (fun x1 h => ?_)
          refine r_if_ne (tgt := 85) C dX3_goesOn_78 (by decide) h (fun h => ?_) (fun h => ?_)
          · refine r_iconst (v := 0) C dX3_goesOn_85 (by decide) ?_
            exact r_le (lv' := [none, some (.int p2), none, none]) ⟨rfl, trivial⟩ (tB_X3_goesOn_86 C (0 : Int32) σ h)
          · refine r_iconst (v := 1) C dX3_goesOn_81 (by decide) ?_
            refine r_goto (tgt := 86) C dX3_goesOn_82 (by decide) ?_
            exact r_le (lv' := [none, some (.int p2), none, none]) ⟨rfl, trivial⟩ (tB_X3_goesOn_86 C (1 : Int32) σ h)
        · refine r_iconst (v := 0) C dX3_goesOn_71 (by decide) ?_
          exact r_zret C dX3_goesOn_72 h
      · refine r_iload_n (x := p2) C dX3_goesOn_44 rfl ?_
        refine r_bipush (v := 48) C dX3_goesOn_45 (by decide) ?_
        refine r_icmp_lt (tgt := 62) C dX3_goesOn_47 (by decide) h (fun h => ?_) (fun h => ?_)
        · refine r_iconst (v := 0) C dX3_goesOn_62 (by decide) ?_
          exact r_zret C dX3_goesOn_63 h
        · refine r_iload_n (x := p2) C dX3_goesOn_50 rfl ?_
          refine r_bipush (v := 48) C dX3_goesOn_51 (by decide) ?_
          refine r_iload_n (x := p3) C dX3_goesOn_53 rfl ?_
          refine r_iadd C dX3_goesOn_54 ?_
          refine r_icmp_ge (tgt := 62) C dX3_goesOn_55 (by decide) h (fun h => ?_) (fun h => ?_)
          · refine r_iconst (v := 0) C dX3_goesOn_62 (by decide) ?_
            exact r_zret C dX3_goesOn_63 h
          · refine r_iconst (v := 1) C dX3_goesOn_58 (by decide) ?_
            refine r_goto (tgt := 63) C dX3_goesOn_59 (by decide) ?_
            exact r_zret C dX3_goesOn_63 h
    · refine r_iload_n (x := p2) C dX3_goesOn_21 rfl ?_
      refine r_bipush (v := 50) C dX3_goesOn_22 (by decide) ?_
      refine r_icmp_lt (tgt := 37) C dX3_goesOn_24 (by decide) h (fun h => ?_) (fun h => ?_)
      · refine r_iconst (v := 0) C dX3_goesOn_37 (by decide) ?_
        exact r_zret C dX3_goesOn_38 h
      · refine r_iload_n (x := p2) C dX3_goesOn_27 rfl ?_
        refine r_bipush (v := 56) C dX3_goesOn_28 (by decide) ?_
        refine r_icmp_gt (tgt := 37) C dX3_goesOn_30 (by decide) h (fun h => ?_) (fun h => ?_)
        · refine r_iconst (v := 0) C dX3_goesOn_37 (by decide) ?_
          exact r_zret C dX3_goesOn_38 h
        · refine r_iconst (v := 1) C dX3_goesOn_33 (by decide) ?_
          refine r_goto (tgt := 38) C dX3_goesOn_34 (by decide) ?_
          exact r_zret C dX3_goesOn_38 h
  · refine r_iload_n (x := p2) C dX3_goesOn_4 rfl ?_
    refine r_bipush (v := 118) C dX3_goesOn_5 (by decide) ?_
    refine r_icmp_ne (tgt := 14) C dX3_goesOn_7 (by decide) h (fun h => ?_) (fun h => ?_)
    · refine r_iconst (v := 0) C dX3_goesOn_14 (by decide) ?_
      exact r_zret C dX3_goesOn_15 h
    · refine r_iconst (v := 1) C dX3_goesOn_10 (by decide) ?_
      refine r_goto (tgt := 15) C dX3_goesOn_11 (by decide) ?_
      exact r_zret C dX3_goesOn_15 h
/-! VineRows$Text.firstFault -/
abbrev rm_X3_firstFault : Room := { frames := 2, cells := 0, slots := 0, locals := 43 }
def B_X3_firstFault_48 (q1 : Nat) (p2 : Int32) (p3 : Int32) (K6 : (Int32 → Int32 → zSt → Option (Int32 × zSt))) (v3 : Int32) (v4 : Int32) (σ : zSt) : Option (Int32 × zSt) := znm (v4 + (1 : Int32)) (fun x6 => K6 v3 x6 σ)
def B_X3_firstFault_6 (q1 : Nat) (p2 : Int32) (p3 : Int32) (K6 : (Int32 → Int32 → zSt → Option (Int32 × zSt))) (v3 : Int32) (v4 : Int32) (σ : zSt) : Option (Int32 × zSt) := (if p3 ≤ v4 then (if p3 = ((3 : Int32) * v3) then some ((-9 : Int32), σ) else some (p3, σ)) else zbd (M_X2_at q1 (p2 + v4) σ) (fun x2 σ1 => zbd (M_X3_goesOn v4 x2 v3 σ1) (fun x4 σ3 => (if x4 = 0 then some (v4, σ3) else (if v4 = (1 : Int32) then znm ((x2 - (48 : Int32))) (fun x5 => B_X3_firstFault_48 q1 p2 p3 K6 x5 v4 σ3) else B_X3_firstFault_48 q1 p2 p3 K6 v3 v4 σ3)))))
def L_X3_firstFault_6 (q1 : Nat) (p2 : Int32) (p3 : Int32) (v3 : Int32) (v4 : Int32) (σ : zSt) : Option (Int32 × zSt) := zloop (fun (rec : Int32 × Int32 × zSt → Option (Int32 × zSt)) x => B_X3_firstFault_6 q1 p2 p3  (fun v3 v4 σ => rec (v3, v4, σ)) x.1 x.2.1 x.2.2) zFU (v3, v4, σ)
def M_X3_firstFault (q1 : Nat) (p2 : Int32) (p3 : Int32) (σ : zSt) : Option (Int32 × zSt) := L_X3_firstFault_6 q1 p2 p3 (8 : Int32) (0 : Int32) σ
set_option maxRecDepth 20000 in
theorem tB_X3_firstFault_48 {p : Program} {l : Launch} {e : Env} {s : State} {m : MethodId} {args : Array Value} {below : List Frame} {meth : Method} {c : Code} {D : va_G} {a : Nat → Nat} {cI cO cA : ClassId} {o : Int32 × zSt} (C : zC p s m args meth c D (ztys cI cO cA) 51 a cX3_firstFault 6 RX3 (some .int)) {q1 : Nat} {p2 : Int32} {p3 : Int32} (hq1 : 2 ≤ q1 ∧ q1 < 6) {K6 : (Int32 → Int32 → zSt → Option (Int32 × zSt))} (hK6 : ∀ (v3 : Int32) (v4 : Int32) (σ : zSt), K6 v3 v4 σ = some o → zV p l e rm_X3_firstFault s m args below meth c D 51 a (fX a cI cO cA) 6 (zQi below args s D 51 a (fX a cI cO cA) o) σ 6 [some (.ref (a q1)), some (.int p2), some (.int p3), some (.int v3), some (.int v4), none] []) (v3 : Int32) (v4 : Int32) (σ : zSt) (h : B_X3_firstFault_48 q1 p2 p3 K6 v3 v4 σ = some o) : zV p l e rm_X3_firstFault s m args below meth c D 51 a (fX a cI cO cA) 6 (zQi below args s D 51 a (fX a cI cO cA) o) σ 48 [some (.ref (a q1)), some (.int p2), some (.int p3), some (.int v3), some (.int v4), none] [] := by
  unfold B_X3_firstFault_48 at h
  refine r_gen h (fun x6 ex6 h => ?_)
  refine r_iinc (x := v4) (v := x6) (lv' := [some (.ref (a q1)), some (.int p2), some (.int p3), some (.int v3), some (.int x6), none]) C dX3_firstFault_48 rfl (by rw [← ex6]; rfl) (by decide) rfl rfl ?_
  clear ex6
  refine r_goto (tgt := 6) C dX3_firstFault_51 (by decide) ?_
  exact r_le (lv' := [some (.ref (a q1)), some (.int p2), some (.int p3), some (.int v3), some (.int x6), none]) ⟨rfl, rfl, rfl, rfl, rfl, trivial⟩ (hK6 v3 x6 σ h)
set_option maxRecDepth 20000 in
theorem tB_X3_firstFault_6 {p : Program} {l : Launch} {e : Env} {s : State} {m : MethodId} {args : Array Value} {below : List Frame} {meth : Method} {c : Code} {D : va_G} {a : Nat → Nat} {cI cO cA : ClassId} {o : Int32 × zSt} (C : zC p s m args meth c D (ztys cI cO cA) 51 a cX3_firstFault 6 RX3 (some .int)) {q1 : Nat} {p2 : Int32} {p3 : Int32} (hq1 : 2 ≤ q1 ∧ q1 < 6) {K6 : (Int32 → Int32 → zSt → Option (Int32 × zSt))} (hK6 : ∀ (v3 : Int32) (v4 : Int32) (σ : zSt), K6 v3 v4 σ = some o → zV p l e rm_X3_firstFault s m args below meth c D 51 a (fX a cI cO cA) 6 (zQi below args s D 51 a (fX a cI cO cA) o) σ 6 [some (.ref (a q1)), some (.int p2), some (.int p3), some (.int v3), some (.int v4), none] []) (v3 : Int32) (v4 : Int32) (σ : zSt) (h : B_X3_firstFault_6 q1 p2 p3 K6 v3 v4 σ = some o) : zV p l e rm_X3_firstFault s m args below meth c D 51 a (fX a cI cO cA) 6 (zQi below args s D 51 a (fX a cI cO cA) o) σ 6 [some (.ref (a q1)), some (.int p2), some (.int p3), some (.int v3), some (.int v4), none] [] := by
  unfold B_X3_firstFault_6 at h
  refine r_iload (x := v4) C dX3_firstFault_6 rfl ?_
  refine r_iload_n (x := p3) C dX3_firstFault_8 rfl ?_
  refine r_icmp_ge (tgt := 54) C dX3_firstFault_9 (by decide) h (fun h => ?_) (fun h => ?_)
  · refine r_iload_n (x := p3) C dX3_firstFault_54 rfl ?_
    refine r_iconst (v := 3) C dX3_firstFault_55 (by decide) ?_
    refine r_iload_n (x := v3) C dX3_firstFault_56 rfl ?_
    refine r_imul C dX3_firstFault_57 ?_
    refine r_icmp_ne (tgt := 66) C dX3_firstFault_58 (by decide) h (fun h => ?_) (fun h => ?_)
    · refine r_iload_n (x := p3) C dX3_firstFault_66 rfl ?_
      exact r_iret C dX3_firstFault_67 h
    · refine r_bipush (v := -9) C dX3_firstFault_61 (by decide) ?_
      refine r_goto (tgt := 67) C dX3_firstFault_63 (by decide) ?_
      exact r_iret C dX3_firstFault_67 h
  · refine r_aload_n (x := (a q1)) C dX3_firstFault_12 rfl ?_
    refine r_iload_n (x := p2) C dX3_firstFault_13 rfl ?_
    refine r_iload (x := v4) C dX3_firstFault_14 rfl ?_
    refine r_iadd C dX3_firstFault_16 ?_
    refine r_callVi C [.int (p2 + v4)] [] (b := q1) (by omega) (fX_sheet hq1) rfl rfl zc_X3_9 zB_X2_at ⟨rfl, rfl, by decide, by decide⟩ (fun out h => c_X2_at C.2.2.2.2.2.2.2.1 hq1 h) rfl rfl (Nat.le_of_ble_eq_true rfl) dX3_firstFault_17 h (fun x2 σ1 h => ?_)
    refine r_istore (lv' := [some (.ref (a q1)), some (.int p2), some (.int p3), some (.int v3), some (.int v4), some (.int x2)]) C dX3_firstFault_20 (by decide) rfl rfl ?_
    refine r_iload (x := v4) C dX3_firstFault_22 rfl ?_
    refine r_iload (x := x2) C dX3_firstFault_24 rfl ?_
    refine r_iload_n (x := v3) C dX3_firstFault_26 rfl ?_
    refine r_callSi C [.int v4, .int x2, .int v3] [] zc_X3_15 zB_X3_goesOn ⟨rfl, rfl, by decide, by decide⟩ (fun out h => c_X3_goesOn C.2.2.2.2.2.2.2.1  h) rfl rfl (Nat.le_of_ble_eq_true rfl) dX3_firstFault_27 h (fun x4 σ3 h => ?_)
    refine r_if_ne (tgt := 36) C dX3_firstFault_30 (by decide) h (fun h => ?_) (fun h => ?_)
    · refine r_iload (x := v4) C dX3_firstFault_36 rfl ?_
      refine r_iconst (v := 1) C dX3_firstFault_38 (by decide) ?_
      refine r_icmp_ne (tgt := 48) C dX3_firstFault_39 (by decide) h (fun h => ?_) (fun h => ?_)
      · exact r_le (lv' := [some (.ref (a q1)), some (.int p2), some (.int p3), some (.int v3), some (.int v4), none]) ⟨rfl, rfl, rfl, rfl, rfl, trivial⟩ (tB_X3_firstFault_48 C hq1 (K6 := K6) hK6 v3 v4 σ3 h)
      · refine r_iload (x := x2) C dX3_firstFault_42 rfl ?_
        refine r_bipush (v := 48) C dX3_firstFault_44 (by decide) ?_
        refine r_isub C dX3_firstFault_46 ?_
        refine r_nm h (fun x5 h => ?_)
        refine r_istore_n (lv' := [some (.ref (a q1)), some (.int p2), some (.int p3), some (.int x5), some (.int v4), some (.int x2)]) C dX3_firstFault_47 (by decide) rfl rfl ?_
        exact r_le (lv' := [some (.ref (a q1)), some (.int p2), some (.int p3), some (.int x5), some (.int v4), none]) ⟨rfl, rfl, rfl, rfl, rfl, trivial⟩ (tB_X3_firstFault_48 C hq1 (K6 := K6) hK6 x5 v4 σ3 h)
    · refine r_iload (x := v4) C dX3_firstFault_33 rfl ?_
      exact r_iret C dX3_firstFault_35 h
set_option maxRecDepth 20000 in
theorem tL_X3_firstFault_6 {p : Program} {l : Launch} {e : Env} {s : State} {m : MethodId} {args : Array Value} {below : List Frame} {meth : Method} {c : Code} {D : va_G} {a : Nat → Nat} {cI cO cA : ClassId} {o : Int32 × zSt} (C : zC p s m args meth c D (ztys cI cO cA) 51 a cX3_firstFault 6 RX3 (some .int)) {q1 : Nat} {p2 : Int32} {p3 : Int32} (hq1 : 2 ≤ q1 ∧ q1 < 6)  (v3 : Int32) (v4 : Int32) (σ : zSt) (h : L_X3_firstFault_6 q1 p2 p3  v3 v4 σ = some o) : zV p l e rm_X3_firstFault s m args below meth c D 51 a (fX a cI cO cA) 6 (zQi below args s D 51 a (fX a cI cO cA) o) σ 6 [some (.ref (a q1)), some (.int p2), some (.int p3), some (.int v3), some (.int v4), none] [] := by
  unfold L_X3_firstFault_6 at h
  refine zloop_ind (G := fun x => zV p l e rm_X3_firstFault s m args below meth c D 51 a (fX a cI cO cA) 6 (zQi below args s D 51 a (fX a cI cO cA) o) x.2.2 6 [some (.ref (a q1)), some (.int p2), some (.int p3), some (.int x.1), some (.int x.2.1), none] []) ?_ zFU _ h
  intro rec hr x h
  exact tB_X3_firstFault_6 C hq1  (fun v3 v4 σ => hr (v3, v4, σ)) _ _ _ h
set_option maxRecDepth 20000 in
theorem c_X3_firstFault {l : Launch} {D : va_G} {a : Nat → Nat} {cI cO cA : ClassId} (hinj : ∀ i j, i < 51 → j < 51 → a i = a j → i = j) {q1 : Nat} {p2 : Int32} {p3 : Int32} (hq1 : 2 ≤ q1 ∧ q1 < 6) {σ : zSt} {o : Int32 × zSt} (h : M_X3_firstFault q1 p2 p3 σ = some o) : zMi l D (ztys cI cO cA) 51 a (fX a cI cO cA) yX3_firstFault cX3_firstFault 6 (some .int) rm_X3_firstFault [.ref (a q1), .int p2, .int p3] σ o := by
  unfold M_X3_firstFault at h
  refine zmeti (own := RX3) [some (.ref (a q1)), some (.int p2), some (.int p3), none, none, none] (by decide) rfl hinj (Nat.le_of_ble_eq_true rfl) rfl (fun p e s m args below meth c C => ?_)
  refine r_bipush (v := 8) C dX3_firstFault_0 (by decide) ?_
  refine r_istore_n (lv' := [some (.ref (a q1)), some (.int p2), some (.int p3), some (.int (8 : Int32)), none, none]) C dX3_firstFault_2 (by decide) rfl rfl ?_
  refine r_iconst (v := 0) C dX3_firstFault_3 (by decide) ?_
  refine r_istore (lv' := [some (.ref (a q1)), some (.int p2), some (.int p3), some (.int (8 : Int32)), some (.int (0 : Int32)), none]) C dX3_firstFault_4 (by decide) rfl rfl ?_
  exact r_le (lv' := [some (.ref (a q1)), some (.int p2), some (.int p3), some (.int (8 : Int32)), some (.int (0 : Int32)), none]) ⟨rfl, rfl, rfl, rfl, rfl, trivial⟩ (tL_X3_firstFault_6 C hq1 (8 : Int32) (0 : Int32) σ h)
/-! VineRows$Text.digitAt -/
abbrev rm_X3_digitAt : Room := { frames := 1, cells := 0, slots := 0, locals := 21 }
def M_X3_digitAt (q1 : Nat) (p2 : Int32) (p3 : Int32) (σ : zSt) : Option (Int32 × zSt) := zbd (M_X2_at q1 p2 σ) (fun x2 σ1 => some ((if (0 : Int32) < (if (x2 - (48 : Int32)) < p3 then (x2 - (48 : Int32)) else p3) then (if (x2 - (48 : Int32)) < p3 then (x2 - (48 : Int32)) else p3) else (0 : Int32)), σ1))
set_option maxRecDepth 20000 in
theorem c_X3_digitAt {l : Launch} {D : va_G} {a : Nat → Nat} {cI cO cA : ClassId} (hinj : ∀ i j, i < 51 → j < 51 → a i = a j → i = j) {q1 : Nat} {p2 : Int32} {p3 : Int32} (hq1 : 2 ≤ q1 ∧ q1 < 6) {σ : zSt} {o : Int32 × zSt} (h : M_X3_digitAt q1 p2 p3 σ = some o) : zMi l D (ztys cI cO cA) 51 a (fX a cI cO cA) yX3_digitAt cX3_digitAt 3 (some .int) rm_X3_digitAt [.ref (a q1), .int p2, .int p3] σ o := by
  unfold M_X3_digitAt at h
  refine zmeti (own := RX3) [some (.ref (a q1)), some (.int p2), some (.int p3)] (by decide) rfl hinj (Nat.le_of_ble_eq_true rfl) rfl (fun p e s m args below meth c C => ?_)
  refine r_iconst (v := 0) C dX3_digitAt_0 (by decide) ?_
  refine r_iload_n (x := p3) C dX3_digitAt_1 rfl ?_
  refine r_aload_n (x := (a q1)) C dX3_digitAt_2 rfl ?_
  refine r_iload_n (x := p2) C dX3_digitAt_3 rfl ?_
  refine r_callVi C [.int p2] [.int p3, .int (0 : Int32)] (b := q1) (by omega) (fX_sheet hq1) rfl rfl zc_X3_9 zB_X2_at ⟨rfl, rfl, by decide, by decide⟩ (fun out h => c_X2_at C.2.2.2.2.2.2.2.1 hq1 h) rfl rfl (Nat.le_of_ble_eq_true rfl) dX3_digitAt_4 h (fun x2 σ1 h => ?_)
  refine r_bipush (v := 48) C dX3_digitAt_7 (by decide) ?_
  refine r_isub C dX3_digitAt_9 ?_
  refine r_mmin C ⟨zw75, zw76, zw77, zw78⟩ (by decide) (Nat.le_of_ble_eq_true rfl) dX3_digitAt_10 ?_
  refine r_mmax C ⟨zw79, zw80, zw77, zw81⟩ (by decide) (Nat.le_of_ble_eq_true rfl) dX3_digitAt_13 ?_
  exact r_iret C dX3_digitAt_16 h
/-! VineRows$Vine.isPost -/
abbrev rm_X4_isPost : Room := { frames := 0, cells := 0, slots := 0, locals := 0 }
def M_X4_isPost (b : Nat) (p1 : Int32) (σ : zSt) : Option (Int32 × zSt) := (if p1 < 0 then zgz (0 : Int32) σ else znm (σ b 0) (fun x1 => (if x1 ≤ p1 then zgz (0 : Int32) σ else zgz (1 : Int32) σ)))
set_option maxRecDepth 20000 in
theorem c_X4_isPost {l : Launch} {D : va_G} {a : Nat → Nat} {cI cO cA : ClassId} (hinj : ∀ i j, i < 51 → j < 51 → a i = a j → i = j) {b : Nat} {p1 : Int32} (hb : b = 10 ∨ b = 27) {σ : zSt} {o : Int32 × zSt} (h : M_X4_isPost b p1 σ = some o) : zMi l D (ztys cI cO cA) 51 a (fX a cI cO cA) yX4_isPost cX4_isPost 2 (some .boolean) rm_X4_isPost [.ref (a b), .int p1] σ o := by
  unfold M_X4_isPost at h
  refine zmeti (own := RX4) [some (.ref (a b)), some (.int p1)] (by decide) rfl hinj (Nat.le_of_ble_eq_true rfl) rfl (fun p e s m args below meth c C => ?_)
  refine r_iload_n (x := p1) C dX4_isPost_0 rfl ?_
  refine r_if_lt (tgt := 16) C dX4_isPost_1 (by decide) h (fun h => ?_) (fun h => ?_)
  · refine r_iconst (v := 0) C dX4_isPost_16 (by decide) ?_
    exact r_zret C dX4_isPost_17 h
  · refine r_iload_n (x := p1) C dX4_isPost_4 rfl ?_
    refine r_aload_n (x := (a b)) C dX4_isPost_5 rfl ?_
    refine gf_X4_38 C hb dX4_isPost_6 h (fun x1 h => ?_)
    refine r_icmp_ge (tgt := 16) C dX4_isPost_9 (by decide) h (fun h => ?_) (fun h => ?_)
    · refine r_iconst (v := 0) C dX4_isPost_16 (by decide) ?_
      exact r_zret C dX4_isPost_17 h
    · refine r_iconst (v := 1) C dX4_isPost_12 (by decide) ?_
      refine r_goto (tgt := 17) C dX4_isPost_13 (by decide) ?_
      exact r_zret C dX4_isPost_17 h
/-! VineRows$Vine.isEnd -/
abbrev rm_X4_isEnd : Room := { frames := 1, cells := 0, slots := 0, locals := 20 }
def M_X4_isEnd (b : Nat) (p1 : Int32) (σ : zSt) : Option (Int32 × zSt) := zga (σ (b + 3)) p1 8 (fun x1 => zbd (M_J6_bitCount_0f7a4 x1 σ) (fun x3 σ2 => (if x3 = (1 : Int32) then zgz (1 : Int32) σ2 else zgz (0 : Int32) σ2)))
set_option maxRecDepth 20000 in
theorem c_X4_isEnd {l : Launch} {D : va_G} {a : Nat → Nat} {cI cO cA : ClassId} (hinj : ∀ i j, i < 51 → j < 51 → a i = a j → i = j) {b : Nat} {p1 : Int32} (hb : b = 10 ∨ b = 27) {σ : zSt} {o : Int32 × zSt} (h : M_X4_isEnd b p1 σ = some o) : zMi l D (ztys cI cO cA) 51 a (fX a cI cO cA) yX4_isEnd cX4_isEnd 2 (some .boolean) rm_X4_isEnd [.ref (a b), .int p1] σ o := by
  unfold M_X4_isEnd at h
  refine zmeti (own := RX4) [some (.ref (a b)), some (.int p1)] (by decide) rfl hinj (Nat.le_of_ble_eq_true rfl) rfl (fun p e s m args below meth c C => ?_)
  refine r_aload_n (x := (a b)) C dX4_isEnd_0 rfl ?_
  refine gf_X4_18 C hb dX4_isEnd_1 ?_
  refine r_iload_n (x := p1) C dX4_isEnd_4 rfl ?_
  refine r_iald (t0 := 0) C (b + 3) (aX_v3 hb) rfl dX4_isEnd_5 h (fun x1 h => ?_)
  refine r_callSi C [.int x1] [] zc_X4_42 zB_J6_bitCount_0f7a4 ⟨rfl, rfl, by decide, by decide⟩ (fun out h => c_J6_bitCount_0f7a4 C.2.2.2.2.2.2.2.1  h) rfl rfl (Nat.le_of_ble_eq_true rfl) dX4_isEnd_6 h (fun x3 σ2 h => ?_)
  refine r_iconst (v := 1) C dX4_isEnd_9 (by decide) ?_
  refine r_icmp_ne (tgt := 17) C dX4_isEnd_10 (by decide) h (fun h => ?_) (fun h => ?_)
  · refine r_iconst (v := 0) C dX4_isEnd_17 (by decide) ?_
    exact r_zret C dX4_isEnd_18 h
  · refine r_iconst (v := 1) C dX4_isEnd_13 (by decide) ?_
    refine r_goto (tgt := 18) C dX4_isEnd_14 (by decide) ?_
    exact r_zret C dX4_isEnd_18 h
/-! VineRows$Vine.worthOfAll -/
abbrev rm_X4_worthOfAll : Room := { frames := 2, cells := 0, slots := 0, locals := 42 }
def B_X4_worthOfAll_4 (b : Nat) (K4 : (Int32 → Int32 → zSt → Option (Int32 × zSt))) (v1 : Int32) (v2 : Int32) (σ : zSt) : Option (Int32 × zSt) := znm (σ b 0) (fun x1 => (if x1 ≤ v2 then some (v1, σ) else zbd (M_X4_worth b v2 σ) (fun x3 σ2 => znm ((v1 + x3)) (fun x4 => znm (v2 + (1 : Int32)) (fun x5 => K4 x4 x5 σ2)))))
def L_X4_worthOfAll_4 (b : Nat) (v1 : Int32) (v2 : Int32) (σ : zSt) : Option (Int32 × zSt) := zloop (fun (rec : Int32 × Int32 × zSt → Option (Int32 × zSt)) x => B_X4_worthOfAll_4 b  (fun v1 v2 σ => rec (v1, v2, σ)) x.1 x.2.1 x.2.2) zFU (v1, v2, σ)
def M_X4_worthOfAll (b : Nat) (σ : zSt) : Option (Int32 × zSt) := L_X4_worthOfAll_4 b (0 : Int32) (0 : Int32) σ
set_option maxRecDepth 20000 in
theorem tB_X4_worthOfAll_4 {p : Program} {l : Launch} {e : Env} {s : State} {m : MethodId} {args : Array Value} {below : List Frame} {meth : Method} {c : Code} {D : va_G} {a : Nat → Nat} {cI cO cA : ClassId} {o : Int32 × zSt} (C : zC p s m args meth c D (ztys cI cO cA) 51 a cX4_worthOfAll 3 RX4 (some .int)) {b : Nat} (hb : b = 10 ∨ b = 27) {K4 : (Int32 → Int32 → zSt → Option (Int32 × zSt))} (hK4 : ∀ (v1 : Int32) (v2 : Int32) (σ : zSt), K4 v1 v2 σ = some o → zV p l e rm_X4_worthOfAll s m args below meth c D 51 a (fX a cI cO cA) 3 (zQi below args s D 51 a (fX a cI cO cA) o) σ 4 [some (.ref (a b)), some (.int v1), some (.int v2)] []) (v1 : Int32) (v2 : Int32) (σ : zSt) (h : B_X4_worthOfAll_4 b K4 v1 v2 σ = some o) : zV p l e rm_X4_worthOfAll s m args below meth c D 51 a (fX a cI cO cA) 3 (zQi below args s D 51 a (fX a cI cO cA) o) σ 4 [some (.ref (a b)), some (.int v1), some (.int v2)] [] := by
  unfold B_X4_worthOfAll_4 at h
  refine r_iload_n (x := v2) C dX4_worthOfAll_4 rfl ?_
  refine r_aload_n (x := (a b)) C dX4_worthOfAll_5 rfl ?_
  refine gf_X4_38 C hb dX4_worthOfAll_6 h (fun x1 h => ?_)
  refine r_icmp_ge (tgt := 26) C dX4_worthOfAll_9 (by decide) h (fun h => ?_) (fun h => ?_)
  · refine r_iload_n (x := v1) C dX4_worthOfAll_26 rfl ?_
    exact r_iret C dX4_worthOfAll_27 h
  · refine r_iload_n (x := v1) C dX4_worthOfAll_12 rfl ?_
    refine r_aload_n (x := (a b)) C dX4_worthOfAll_13 rfl ?_
    refine r_iload_n (x := v2) C dX4_worthOfAll_14 rfl ?_
    refine r_callVi C [.int v2] [.int v1] (b := b) (by omega) (fX_vine hb) rfl rfl zc_X4_52 zB_X4_worth ⟨rfl, rfl, by decide, by decide⟩ (fun out h => c_X4_worth C.2.2.2.2.2.2.2.1 hb h) rfl rfl (Nat.le_of_ble_eq_true rfl) dX4_worthOfAll_15 h (fun x3 σ2 h => ?_)
    refine r_iadd C dX4_worthOfAll_18 ?_
    refine r_nm h (fun x4 h => ?_)
    refine r_istore_n (lv' := [some (.ref (a b)), some (.int x4), some (.int v2)]) C dX4_worthOfAll_19 (by decide) rfl rfl ?_
    refine r_gen h (fun x5 ex5 h => ?_)
    refine r_iinc (x := v2) (v := x5) (lv' := [some (.ref (a b)), some (.int x4), some (.int x5)]) C dX4_worthOfAll_20 rfl (by rw [← ex5]; rfl) (by decide) rfl rfl ?_
    clear ex5
    refine r_goto (tgt := 4) C dX4_worthOfAll_23 (by decide) ?_
    exact r_le (lv' := [some (.ref (a b)), some (.int x4), some (.int x5)]) ⟨rfl, rfl, rfl, trivial⟩ (hK4 x4 x5 σ2 h)
set_option maxRecDepth 20000 in
theorem tL_X4_worthOfAll_4 {p : Program} {l : Launch} {e : Env} {s : State} {m : MethodId} {args : Array Value} {below : List Frame} {meth : Method} {c : Code} {D : va_G} {a : Nat → Nat} {cI cO cA : ClassId} {o : Int32 × zSt} (C : zC p s m args meth c D (ztys cI cO cA) 51 a cX4_worthOfAll 3 RX4 (some .int)) {b : Nat} (hb : b = 10 ∨ b = 27)  (v1 : Int32) (v2 : Int32) (σ : zSt) (h : L_X4_worthOfAll_4 b  v1 v2 σ = some o) : zV p l e rm_X4_worthOfAll s m args below meth c D 51 a (fX a cI cO cA) 3 (zQi below args s D 51 a (fX a cI cO cA) o) σ 4 [some (.ref (a b)), some (.int v1), some (.int v2)] [] := by
  unfold L_X4_worthOfAll_4 at h
  refine zloop_ind (G := fun x => zV p l e rm_X4_worthOfAll s m args below meth c D 51 a (fX a cI cO cA) 3 (zQi below args s D 51 a (fX a cI cO cA) o) x.2.2 4 [some (.ref (a b)), some (.int x.1), some (.int x.2.1)] []) ?_ zFU _ h
  intro rec hr x h
  exact tB_X4_worthOfAll_4 C hb  (fun v1 v2 σ => hr (v1, v2, σ)) _ _ _ h
set_option maxRecDepth 20000 in
theorem c_X4_worthOfAll {l : Launch} {D : va_G} {a : Nat → Nat} {cI cO cA : ClassId} (hinj : ∀ i j, i < 51 → j < 51 → a i = a j → i = j) {b : Nat} (hb : b = 10 ∨ b = 27) {σ : zSt} {o : Int32 × zSt} (h : M_X4_worthOfAll b σ = some o) : zMi l D (ztys cI cO cA) 51 a (fX a cI cO cA) yX4_worthOfAll cX4_worthOfAll 3 (some .int) rm_X4_worthOfAll [.ref (a b)] σ o := by
  unfold M_X4_worthOfAll at h
  refine zmeti (own := RX4) [some (.ref (a b)), none, none] (by decide) rfl hinj (Nat.le_of_ble_eq_true rfl) rfl (fun p e s m args below meth c C => ?_)
  refine r_iconst (v := 0) C dX4_worthOfAll_0 (by decide) ?_
  refine r_istore_n (lv' := [some (.ref (a b)), some (.int (0 : Int32)), none]) C dX4_worthOfAll_1 (by decide) rfl rfl ?_
  refine r_iconst (v := 0) C dX4_worthOfAll_2 (by decide) ?_
  refine r_istore_n (lv' := [some (.ref (a b)), some (.int (0 : Int32)), some (.int (0 : Int32))]) C dX4_worthOfAll_3 (by decide) rfl rfl ?_
  exact r_le (lv' := [some (.ref (a b)), some (.int (0 : Int32)), some (.int (0 : Int32))]) ⟨rfl, rfl, rfl, trivial⟩ (tL_X4_worthOfAll_4 C hb (0 : Int32) (0 : Int32) σ h)
/-! VineRows$Vine.ends -/
abbrev rm_X4_ends : Room := { frames := 2, cells := 0, slots := 0, locals := 41 }
def B_X4_ends_26 (b : Nat) (K4 : (Int32 → Int32 → zSt → Option (Int32 × zSt))) (v1 : Int32) (v2 : Int32) (σ : zSt) : Option (Int32 × zSt) := znm (v2 + (1 : Int32)) (fun x5 => K4 v1 x5 σ)
def B_X4_ends_4 (b : Nat) (K4 : (Int32 → Int32 → zSt → Option (Int32 × zSt))) (v1 : Int32) (v2 : Int32) (σ : zSt) : Option (Int32 × zSt) := znm (σ b 0) (fun x1 => (if x1 ≤ v2 then some (v1, σ) else zbd (M_X4_isEnd b v2 σ) (fun x3 σ2 => (if x3 = 0 then B_X4_ends_26 b K4 v1 v2 σ2 else znm ((v1 ||| (zon v2))) (fun x4 => B_X4_ends_26 b K4 x4 v2 σ2)))))
def L_X4_ends_4 (b : Nat) (v1 : Int32) (v2 : Int32) (σ : zSt) : Option (Int32 × zSt) := zloop (fun (rec : Int32 × Int32 × zSt → Option (Int32 × zSt)) x => B_X4_ends_4 b  (fun v1 v2 σ => rec (v1, v2, σ)) x.1 x.2.1 x.2.2) zFU (v1, v2, σ)
def M_X4_ends (b : Nat) (σ : zSt) : Option (Int32 × zSt) := L_X4_ends_4 b (0 : Int32) (0 : Int32) σ
set_option maxRecDepth 20000 in
theorem tB_X4_ends_26 {p : Program} {l : Launch} {e : Env} {s : State} {m : MethodId} {args : Array Value} {below : List Frame} {meth : Method} {c : Code} {D : va_G} {a : Nat → Nat} {cI cO cA : ClassId} {o : Int32 × zSt} (C : zC p s m args meth c D (ztys cI cO cA) 51 a cX4_ends 3 RX4 (some .int)) {b : Nat} (hb : b = 10 ∨ b = 27) {K4 : (Int32 → Int32 → zSt → Option (Int32 × zSt))} (hK4 : ∀ (v1 : Int32) (v2 : Int32) (σ : zSt), K4 v1 v2 σ = some o → zV p l e rm_X4_ends s m args below meth c D 51 a (fX a cI cO cA) 3 (zQi below args s D 51 a (fX a cI cO cA) o) σ 4 [some (.ref (a b)), some (.int v1), some (.int v2)] []) (v1 : Int32) (v2 : Int32) (σ : zSt) (h : B_X4_ends_26 b K4 v1 v2 σ = some o) : zV p l e rm_X4_ends s m args below meth c D 51 a (fX a cI cO cA) 3 (zQi below args s D 51 a (fX a cI cO cA) o) σ 26 [some (.ref (a b)), some (.int v1), some (.int v2)] [] := by
  unfold B_X4_ends_26 at h
  refine r_gen h (fun x5 ex5 h => ?_)
  refine r_iinc (x := v2) (v := x5) (lv' := [some (.ref (a b)), some (.int v1), some (.int x5)]) C dX4_ends_26 rfl (by rw [← ex5]; rfl) (by decide) rfl rfl ?_
  clear ex5
  refine r_goto (tgt := 4) C dX4_ends_29 (by decide) ?_
  exact r_le (lv' := [some (.ref (a b)), some (.int v1), some (.int x5)]) ⟨rfl, rfl, rfl, trivial⟩ (hK4 v1 x5 σ h)
set_option maxRecDepth 20000 in
theorem tB_X4_ends_4 {p : Program} {l : Launch} {e : Env} {s : State} {m : MethodId} {args : Array Value} {below : List Frame} {meth : Method} {c : Code} {D : va_G} {a : Nat → Nat} {cI cO cA : ClassId} {o : Int32 × zSt} (C : zC p s m args meth c D (ztys cI cO cA) 51 a cX4_ends 3 RX4 (some .int)) {b : Nat} (hb : b = 10 ∨ b = 27) {K4 : (Int32 → Int32 → zSt → Option (Int32 × zSt))} (hK4 : ∀ (v1 : Int32) (v2 : Int32) (σ : zSt), K4 v1 v2 σ = some o → zV p l e rm_X4_ends s m args below meth c D 51 a (fX a cI cO cA) 3 (zQi below args s D 51 a (fX a cI cO cA) o) σ 4 [some (.ref (a b)), some (.int v1), some (.int v2)] []) (v1 : Int32) (v2 : Int32) (σ : zSt) (h : B_X4_ends_4 b K4 v1 v2 σ = some o) : zV p l e rm_X4_ends s m args below meth c D 51 a (fX a cI cO cA) 3 (zQi below args s D 51 a (fX a cI cO cA) o) σ 4 [some (.ref (a b)), some (.int v1), some (.int v2)] [] := by
  unfold B_X4_ends_4 at h
  refine r_iload_n (x := v2) C dX4_ends_4 rfl ?_
  refine r_aload_n (x := (a b)) C dX4_ends_5 rfl ?_
  refine gf_X4_38 C hb dX4_ends_6 h (fun x1 h => ?_)
  refine r_icmp_ge (tgt := 32) C dX4_ends_9 (by decide) h (fun h => ?_) (fun h => ?_)
  · refine r_iload_n (x := v1) C dX4_ends_32 rfl ?_
    exact r_iret C dX4_ends_33 h
  · refine r_aload_n (x := (a b)) C dX4_ends_12 rfl ?_
    refine r_iload_n (x := v2) C dX4_ends_13 rfl ?_
    refine r_callVi C [.int v2] [] (b := b) (by omega) (fX_vine hb) rfl rfl zc_X4_55 zB_X4_isEnd ⟨rfl, rfl, by decide, by decide⟩ (fun out h => c_X4_isEnd C.2.2.2.2.2.2.2.1 hb h) rfl rfl (Nat.le_of_ble_eq_true rfl) dX4_ends_14 h (fun x3 σ2 h => ?_)
    refine r_if_eq (tgt := 26) C dX4_ends_17 (by decide) h (fun h => ?_) (fun h => ?_)
    · exact r_le (lv' := [some (.ref (a b)), some (.int v1), some (.int v2)]) ⟨rfl, rfl, rfl, trivial⟩ (tB_X4_ends_26 C hb (K4 := K4) hK4 v1 v2 σ2 h)
    · refine r_iload_n (x := v1) C dX4_ends_20 rfl ?_
      refine r_iconst (v := 1) C dX4_ends_21 (by decide) ?_
      refine r_iload_n (x := v2) C dX4_ends_22 rfl ?_
      refine r_ishl C dX4_ends_23 ?_
      refine r_ior C dX4_ends_24 ?_
      refine r_nm h (fun x4 h => ?_)
      refine r_istore_n (lv' := [some (.ref (a b)), some (.int x4), some (.int v2)]) C dX4_ends_25 (by decide) rfl rfl ?_
      exact r_le (lv' := [some (.ref (a b)), some (.int x4), some (.int v2)]) ⟨rfl, rfl, rfl, trivial⟩ (tB_X4_ends_26 C hb (K4 := K4) hK4 x4 v2 σ2 h)
set_option maxRecDepth 20000 in
theorem tL_X4_ends_4 {p : Program} {l : Launch} {e : Env} {s : State} {m : MethodId} {args : Array Value} {below : List Frame} {meth : Method} {c : Code} {D : va_G} {a : Nat → Nat} {cI cO cA : ClassId} {o : Int32 × zSt} (C : zC p s m args meth c D (ztys cI cO cA) 51 a cX4_ends 3 RX4 (some .int)) {b : Nat} (hb : b = 10 ∨ b = 27)  (v1 : Int32) (v2 : Int32) (σ : zSt) (h : L_X4_ends_4 b  v1 v2 σ = some o) : zV p l e rm_X4_ends s m args below meth c D 51 a (fX a cI cO cA) 3 (zQi below args s D 51 a (fX a cI cO cA) o) σ 4 [some (.ref (a b)), some (.int v1), some (.int v2)] [] := by
  unfold L_X4_ends_4 at h
  refine zloop_ind (G := fun x => zV p l e rm_X4_ends s m args below meth c D 51 a (fX a cI cO cA) 3 (zQi below args s D 51 a (fX a cI cO cA) o) x.2.2 4 [some (.ref (a b)), some (.int x.1), some (.int x.2.1)] []) ?_ zFU _ h
  intro rec hr x h
  exact tB_X4_ends_4 C hb  (fun v1 v2 σ => hr (v1, v2, σ)) _ _ _ h
set_option maxRecDepth 20000 in
theorem c_X4_ends {l : Launch} {D : va_G} {a : Nat → Nat} {cI cO cA : ClassId} (hinj : ∀ i j, i < 51 → j < 51 → a i = a j → i = j) {b : Nat} (hb : b = 10 ∨ b = 27) {σ : zSt} {o : Int32 × zSt} (h : M_X4_ends b σ = some o) : zMi l D (ztys cI cO cA) 51 a (fX a cI cO cA) yX4_ends cX4_ends 3 (some .int) rm_X4_ends [.ref (a b)] σ o := by
  unfold M_X4_ends at h
  refine zmeti (own := RX4) [some (.ref (a b)), none, none] (by decide) rfl hinj (Nat.le_of_ble_eq_true rfl) rfl (fun p e s m args below meth c C => ?_)
  refine r_iconst (v := 0) C dX4_ends_0 (by decide) ?_
  refine r_istore_n (lv' := [some (.ref (a b)), some (.int (0 : Int32)), none]) C dX4_ends_1 (by decide) rfl rfl ?_
  refine r_iconst (v := 0) C dX4_ends_2 (by decide) ?_
  refine r_istore_n (lv' := [some (.ref (a b)), some (.int (0 : Int32)), some (.int (0 : Int32))]) C dX4_ends_3 (by decide) rfl rfl ?_
  exact r_le (lv' := [some (.ref (a b)), some (.int (0 : Int32)), some (.int (0 : Int32))]) ⟨rfl, rfl, rfl, trivial⟩ (tL_X4_ends_4 C hb (0 : Int32) (0 : Int32) σ h)
/-! VineRows$Vine.farthest -/
abbrev rm_X4_farthest : Room := { frames := 1, cells := 0, slots := 0, locals := 21 }
def B_X4_farthest_4 (b : Nat) (p1 : Int32) (K4 : (Int32 → Int32 → zSt → Option (Int32 × zSt))) (v2 : Int32) (v3 : Int32) (σ : zSt) : Option (Int32 × zSt) := znm (σ b 0) (fun x1 => (if x1 ≤ v3 then some (v2, σ) else zgr p1 8 (b + 9) (fun q2 => zga (σ q2) v3 8 (fun x3 => znm ((if v2 < x3 then x3 else v2)) (fun x4 => znm (v3 + (1 : Int32)) (fun x5 => K4 x4 x5 σ))))))
def L_X4_farthest_4 (b : Nat) (p1 : Int32) (v2 : Int32) (v3 : Int32) (σ : zSt) : Option (Int32 × zSt) := zloop (fun (rec : Int32 × Int32 × zSt → Option (Int32 × zSt)) x => B_X4_farthest_4 b p1  (fun v2 v3 σ => rec (v2, v3, σ)) x.1 x.2.1 x.2.2) zFU (v2, v3, σ)
def M_X4_farthest (b : Nat) (p1 : Int32) (σ : zSt) : Option (Int32 × zSt) := L_X4_farthest_4 b p1 (0 : Int32) (0 : Int32) σ
set_option maxRecDepth 20000 in
theorem tB_X4_farthest_4 {p : Program} {l : Launch} {e : Env} {s : State} {m : MethodId} {args : Array Value} {below : List Frame} {meth : Method} {c : Code} {D : va_G} {a : Nat → Nat} {cI cO cA : ClassId} {o : Int32 × zSt} (C : zC p s m args meth c D (ztys cI cO cA) 51 a cX4_farthest 4 RX4 (some .int)) {b : Nat} {p1 : Int32} (hb : b = 10 ∨ b = 27) {K4 : (Int32 → Int32 → zSt → Option (Int32 × zSt))} (hK4 : ∀ (v2 : Int32) (v3 : Int32) (σ : zSt), K4 v2 v3 σ = some o → zV p l e rm_X4_farthest s m args below meth c D 51 a (fX a cI cO cA) 4 (zQi below args s D 51 a (fX a cI cO cA) o) σ 4 [some (.ref (a b)), some (.int p1), some (.int v2), some (.int v3)] []) (v2 : Int32) (v3 : Int32) (σ : zSt) (h : B_X4_farthest_4 b p1 K4 v2 v3 σ = some o) : zV p l e rm_X4_farthest s m args below meth c D 51 a (fX a cI cO cA) 4 (zQi below args s D 51 a (fX a cI cO cA) o) σ 4 [some (.ref (a b)), some (.int p1), some (.int v2), some (.int v3)] [] := by
  unfold B_X4_farthest_4 at h
  refine r_iload_n (x := v3) C dX4_farthest_4 rfl ?_
  refine r_aload_n (x := (a b)) C dX4_farthest_5 rfl ?_
  refine gf_X4_38 C hb dX4_farthest_6 h (fun x1 h => ?_)
  refine r_icmp_ge (tgt := 31) C dX4_farthest_9 (by decide) h (fun h => ?_) (fun h => ?_)
  · refine r_iload_n (x := v2) C dX4_farthest_31 rfl ?_
    exact r_iret C dX4_farthest_32 h
  · refine r_iload_n (x := v2) C dX4_farthest_12 rfl ?_
    refine r_aload_n (x := (a b)) C dX4_farthest_13 rfl ?_
    refine gf_X4_23 C hb dX4_farthest_14 ?_
    refine r_iload_n (x := p1) C dX4_farthest_17 rfl ?_
    refine r_aald (t0 := 2) C (b + 4) (aX_away hb) rfl rfl dX4_farthest_18 h (fun q2 hq2 lq2 h => ?_)
    refine r_iload_n (x := v3) C dX4_farthest_19 rfl ?_
    refine r_iald (t0 := 0) C q2 (aX_row hb hq2 lq2) rfl dX4_farthest_20 h (fun x3 h => ?_)
    refine r_mmax C ⟨zw91, zw80, zw77, zw81⟩ (by decide) (Nat.le_of_ble_eq_true rfl) dX4_farthest_21 ?_
    refine r_nm h (fun x4 h => ?_)
    refine r_istore_n (lv' := [some (.ref (a b)), some (.int p1), some (.int x4), some (.int v3)]) C dX4_farthest_24 (by decide) rfl rfl ?_
    refine r_gen h (fun x5 ex5 h => ?_)
    refine r_iinc (x := v3) (v := x5) (lv' := [some (.ref (a b)), some (.int p1), some (.int x4), some (.int x5)]) C dX4_farthest_25 rfl (by rw [← ex5]; rfl) (by decide) rfl rfl ?_
    clear ex5
    refine r_goto (tgt := 4) C dX4_farthest_28 (by decide) ?_
    exact r_le (lv' := [some (.ref (a b)), some (.int p1), some (.int x4), some (.int x5)]) ⟨rfl, rfl, rfl, rfl, trivial⟩ (hK4 x4 x5 σ h)
set_option maxRecDepth 20000 in
theorem tL_X4_farthest_4 {p : Program} {l : Launch} {e : Env} {s : State} {m : MethodId} {args : Array Value} {below : List Frame} {meth : Method} {c : Code} {D : va_G} {a : Nat → Nat} {cI cO cA : ClassId} {o : Int32 × zSt} (C : zC p s m args meth c D (ztys cI cO cA) 51 a cX4_farthest 4 RX4 (some .int)) {b : Nat} {p1 : Int32} (hb : b = 10 ∨ b = 27)  (v2 : Int32) (v3 : Int32) (σ : zSt) (h : L_X4_farthest_4 b p1  v2 v3 σ = some o) : zV p l e rm_X4_farthest s m args below meth c D 51 a (fX a cI cO cA) 4 (zQi below args s D 51 a (fX a cI cO cA) o) σ 4 [some (.ref (a b)), some (.int p1), some (.int v2), some (.int v3)] [] := by
  unfold L_X4_farthest_4 at h
  refine zloop_ind (G := fun x => zV p l e rm_X4_farthest s m args below meth c D 51 a (fX a cI cO cA) 4 (zQi below args s D 51 a (fX a cI cO cA) o) x.2.2 4 [some (.ref (a b)), some (.int p1), some (.int x.1), some (.int x.2.1)] []) ?_ zFU _ h
  intro rec hr x h
  exact tB_X4_farthest_4 C hb  (fun v2 v3 σ => hr (v2, v3, σ)) _ _ _ h
set_option maxRecDepth 20000 in
theorem c_X4_farthest {l : Launch} {D : va_G} {a : Nat → Nat} {cI cO cA : ClassId} (hinj : ∀ i j, i < 51 → j < 51 → a i = a j → i = j) {b : Nat} {p1 : Int32} (hb : b = 10 ∨ b = 27) {σ : zSt} {o : Int32 × zSt} (h : M_X4_farthest b p1 σ = some o) : zMi l D (ztys cI cO cA) 51 a (fX a cI cO cA) yX4_farthest cX4_farthest 4 (some .int) rm_X4_farthest [.ref (a b), .int p1] σ o := by
  unfold M_X4_farthest at h
  refine zmeti (own := RX4) [some (.ref (a b)), some (.int p1), none, none] (by decide) rfl hinj (Nat.le_of_ble_eq_true rfl) rfl (fun p e s m args below meth c C => ?_)
  refine r_iconst (v := 0) C dX4_farthest_0 (by decide) ?_
  refine r_istore_n (lv' := [some (.ref (a b)), some (.int p1), some (.int (0 : Int32)), none]) C dX4_farthest_1 (by decide) rfl rfl ?_
  refine r_iconst (v := 0) C dX4_farthest_2 (by decide) ?_
  refine r_istore_n (lv' := [some (.ref (a b)), some (.int p1), some (.int (0 : Int32)), some (.int (0 : Int32))]) C dX4_farthest_3 (by decide) rfl rfl ?_
  exact r_le (lv' := [some (.ref (a b)), some (.int p1), some (.int (0 : Int32)), some (.int (0 : Int32))]) ⟨rfl, rfl, rfl, rfl, trivial⟩ (tL_X4_farthest_4 C hb (0 : Int32) (0 : Int32) σ h)
/-! VineRows$Vine.longest -/
abbrev rm_X4_longest : Room := { frames := 2, cells := 0, slots := 0, locals := 44 }
def B_X4_longest_4 (b : Nat) (K4 : (Int32 → Int32 → zSt → Option (Int32 × zSt))) (v1 : Int32) (v2 : Int32) (σ : zSt) : Option (Int32 × zSt) := znm (σ b 0) (fun x1 => (if x1 ≤ v2 then some (v1, σ) else zbd (M_X4_farthest b v2 σ) (fun x3 σ2 => znm ((if v1 < x3 then x3 else v1)) (fun x4 => znm (v2 + (1 : Int32)) (fun x5 => K4 x4 x5 σ2)))))
def L_X4_longest_4 (b : Nat) (v1 : Int32) (v2 : Int32) (σ : zSt) : Option (Int32 × zSt) := zloop (fun (rec : Int32 × Int32 × zSt → Option (Int32 × zSt)) x => B_X4_longest_4 b  (fun v1 v2 σ => rec (v1, v2, σ)) x.1 x.2.1 x.2.2) zFU (v1, v2, σ)
def M_X4_longest (b : Nat) (σ : zSt) : Option (Int32 × zSt) := L_X4_longest_4 b (0 : Int32) (0 : Int32) σ
set_option maxRecDepth 20000 in
theorem tB_X4_longest_4 {p : Program} {l : Launch} {e : Env} {s : State} {m : MethodId} {args : Array Value} {below : List Frame} {meth : Method} {c : Code} {D : va_G} {a : Nat → Nat} {cI cO cA : ClassId} {o : Int32 × zSt} (C : zC p s m args meth c D (ztys cI cO cA) 51 a cX4_longest 3 RX4 (some .int)) {b : Nat} (hb : b = 10 ∨ b = 27) {K4 : (Int32 → Int32 → zSt → Option (Int32 × zSt))} (hK4 : ∀ (v1 : Int32) (v2 : Int32) (σ : zSt), K4 v1 v2 σ = some o → zV p l e rm_X4_longest s m args below meth c D 51 a (fX a cI cO cA) 3 (zQi below args s D 51 a (fX a cI cO cA) o) σ 4 [some (.ref (a b)), some (.int v1), some (.int v2)] []) (v1 : Int32) (v2 : Int32) (σ : zSt) (h : B_X4_longest_4 b K4 v1 v2 σ = some o) : zV p l e rm_X4_longest s m args below meth c D 51 a (fX a cI cO cA) 3 (zQi below args s D 51 a (fX a cI cO cA) o) σ 4 [some (.ref (a b)), some (.int v1), some (.int v2)] [] := by
  unfold B_X4_longest_4 at h
  refine r_iload_n (x := v2) C dX4_longest_4 rfl ?_
  refine r_aload_n (x := (a b)) C dX4_longest_5 rfl ?_
  refine gf_X4_38 C hb dX4_longest_6 h (fun x1 h => ?_)
  refine r_icmp_ge (tgt := 28) C dX4_longest_9 (by decide) h (fun h => ?_) (fun h => ?_)
  · refine r_iload_n (x := v1) C dX4_longest_28 rfl ?_
    exact r_iret C dX4_longest_29 h
  · refine r_iload_n (x := v1) C dX4_longest_12 rfl ?_
    refine r_aload_n (x := (a b)) C dX4_longest_13 rfl ?_
    refine r_iload_n (x := v2) C dX4_longest_14 rfl ?_
    refine r_callVi C [.int v2] [.int v1] (b := b) (by omega) (fX_vine hb) rfl rfl zc_X4_64 zB_X4_farthest ⟨rfl, rfl, by decide, by decide⟩ (fun out h => c_X4_farthest C.2.2.2.2.2.2.2.1 hb h) rfl rfl (Nat.le_of_ble_eq_true rfl) dX4_longest_15 h (fun x3 σ2 h => ?_)
    refine r_mmax C ⟨zw91, zw80, zw77, zw81⟩ (by decide) (Nat.le_of_ble_eq_true rfl) dX4_longest_18 ?_
    refine r_nm h (fun x4 h => ?_)
    refine r_istore_n (lv' := [some (.ref (a b)), some (.int x4), some (.int v2)]) C dX4_longest_21 (by decide) rfl rfl ?_
    refine r_gen h (fun x5 ex5 h => ?_)
    refine r_iinc (x := v2) (v := x5) (lv' := [some (.ref (a b)), some (.int x4), some (.int x5)]) C dX4_longest_22 rfl (by rw [← ex5]; rfl) (by decide) rfl rfl ?_
    clear ex5
    refine r_goto (tgt := 4) C dX4_longest_25 (by decide) ?_
    exact r_le (lv' := [some (.ref (a b)), some (.int x4), some (.int x5)]) ⟨rfl, rfl, rfl, trivial⟩ (hK4 x4 x5 σ2 h)
set_option maxRecDepth 20000 in
theorem tL_X4_longest_4 {p : Program} {l : Launch} {e : Env} {s : State} {m : MethodId} {args : Array Value} {below : List Frame} {meth : Method} {c : Code} {D : va_G} {a : Nat → Nat} {cI cO cA : ClassId} {o : Int32 × zSt} (C : zC p s m args meth c D (ztys cI cO cA) 51 a cX4_longest 3 RX4 (some .int)) {b : Nat} (hb : b = 10 ∨ b = 27)  (v1 : Int32) (v2 : Int32) (σ : zSt) (h : L_X4_longest_4 b  v1 v2 σ = some o) : zV p l e rm_X4_longest s m args below meth c D 51 a (fX a cI cO cA) 3 (zQi below args s D 51 a (fX a cI cO cA) o) σ 4 [some (.ref (a b)), some (.int v1), some (.int v2)] [] := by
  unfold L_X4_longest_4 at h
  refine zloop_ind (G := fun x => zV p l e rm_X4_longest s m args below meth c D 51 a (fX a cI cO cA) 3 (zQi below args s D 51 a (fX a cI cO cA) o) x.2.2 4 [some (.ref (a b)), some (.int x.1), some (.int x.2.1)] []) ?_ zFU _ h
  intro rec hr x h
  exact tB_X4_longest_4 C hb  (fun v1 v2 σ => hr (v1, v2, σ)) _ _ _ h
set_option maxRecDepth 20000 in
theorem c_X4_longest {l : Launch} {D : va_G} {a : Nat → Nat} {cI cO cA : ClassId} (hinj : ∀ i j, i < 51 → j < 51 → a i = a j → i = j) {b : Nat} (hb : b = 10 ∨ b = 27) {σ : zSt} {o : Int32 × zSt} (h : M_X4_longest b σ = some o) : zMi l D (ztys cI cO cA) 51 a (fX a cI cO cA) yX4_longest cX4_longest 3 (some .int) rm_X4_longest [.ref (a b)] σ o := by
  unfold M_X4_longest at h
  refine zmeti (own := RX4) [some (.ref (a b)), none, none] (by decide) rfl hinj (Nat.le_of_ble_eq_true rfl) rfl (fun p e s m args below meth c C => ?_)
  refine r_iconst (v := 0) C dX4_longest_0 (by decide) ?_
  refine r_istore_n (lv' := [some (.ref (a b)), some (.int (0 : Int32)), none]) C dX4_longest_1 (by decide) rfl rfl ?_
  refine r_iconst (v := 0) C dX4_longest_2 (by decide) ?_
  refine r_istore_n (lv' := [some (.ref (a b)), some (.int (0 : Int32)), some (.int (0 : Int32))]) C dX4_longest_3 (by decide) rfl rfl ?_
  exact r_le (lv' := [some (.ref (a b)), some (.int (0 : Int32)), some (.int (0 : Int32))]) ⟨rfl, rfl, rfl, trivial⟩ (tL_X4_longest_4 C hb (0 : Int32) (0 : Int32) σ h)
/-! VineRows$Vine.middles -/
abbrev rm_X4_middles : Room := { frames := 2, cells := 0, slots := 0, locals := 44 }
def B_X4_middles_45 (b : Nat) (K7 : (Int32 → Int32 → Int32 → zSt → Option (Int32 × zSt))) (v1 : Int32) (v2 : Int32) (v3 : Int32) (σ : zSt) : Option (Int32 × zSt) := znm (v3 + (1 : Int32)) (fun x5 => K7 v1 v2 x5 σ)
def B_X4_middles_33 (b : Nat) (K7 : (Int32 → Int32 → Int32 → zSt → Option (Int32 × zSt))) (v1 : Int32) (v2 : Int32) (v3 : Int32) (v4 : Int32) (σ : zSt) : Option (Int32 × zSt) := (if v4 = v1 then znm ((v2 ||| (zon v3))) (fun x4 => B_X4_middles_45 b K7 v1 x4 v3 σ) else B_X4_middles_45 b K7 v1 v2 v3 σ)
def B_X4_middles_7 (b : Nat) (K7 : (Int32 → Int32 → Int32 → zSt → Option (Int32 × zSt))) (v1 : Int32) (v2 : Int32) (v3 : Int32) (σ : zSt) : Option (Int32 × zSt) := znm (σ b 0) (fun x1 => (if x1 ≤ v3 then some (v2, σ) else zbd (M_X4_farthest b v3 σ) (fun x3 σ2 => (if v1 ≤ x3 then B_X4_middles_33 b K7 v1 v2 v3 x3 σ2 else B_X4_middles_33 b K7 x3 (0 : Int32) v3 x3 σ2))))
def L_X4_middles_7 (b : Nat) (v1 : Int32) (v2 : Int32) (v3 : Int32) (σ : zSt) : Option (Int32 × zSt) := zloop (fun (rec : Int32 × Int32 × Int32 × zSt → Option (Int32 × zSt)) x => B_X4_middles_7 b  (fun v1 v2 v3 σ => rec (v1, v2, v3, σ)) x.1 x.2.1 x.2.2.1 x.2.2.2) zFU (v1, v2, v3, σ)
def M_X4_middles (b : Nat) (σ : zSt) : Option (Int32 × zSt) := L_X4_middles_7 b (8 : Int32) (0 : Int32) (0 : Int32) σ
set_option maxRecDepth 20000 in
theorem tB_X4_middles_45 {p : Program} {l : Launch} {e : Env} {s : State} {m : MethodId} {args : Array Value} {below : List Frame} {meth : Method} {c : Code} {D : va_G} {a : Nat → Nat} {cI cO cA : ClassId} {o : Int32 × zSt} (C : zC p s m args meth c D (ztys cI cO cA) 51 a cX4_middles 5 RX4 (some .int)) {b : Nat} (hb : b = 10 ∨ b = 27) {K7 : (Int32 → Int32 → Int32 → zSt → Option (Int32 × zSt))} (hK7 : ∀ (v1 : Int32) (v2 : Int32) (v3 : Int32) (σ : zSt), K7 v1 v2 v3 σ = some o → zV p l e rm_X4_middles s m args below meth c D 51 a (fX a cI cO cA) 5 (zQi below args s D 51 a (fX a cI cO cA) o) σ 7 [some (.ref (a b)), some (.int v1), some (.int v2), some (.int v3), none] []) (v1 : Int32) (v2 : Int32) (v3 : Int32) (σ : zSt) (h : B_X4_middles_45 b K7 v1 v2 v3 σ = some o) : zV p l e rm_X4_middles s m args below meth c D 51 a (fX a cI cO cA) 5 (zQi below args s D 51 a (fX a cI cO cA) o) σ 45 [some (.ref (a b)), some (.int v1), some (.int v2), some (.int v3), none] [] := by
  unfold B_X4_middles_45 at h
  refine r_gen h (fun x5 ex5 h => ?_)
  refine r_iinc (x := v3) (v := x5) (lv' := [some (.ref (a b)), some (.int v1), some (.int v2), some (.int x5), none]) C dX4_middles_45 rfl (by rw [← ex5]; rfl) (by decide) rfl rfl ?_
  clear ex5
  refine r_goto (tgt := 7) C dX4_middles_48 (by decide) ?_
  exact r_le (lv' := [some (.ref (a b)), some (.int v1), some (.int v2), some (.int x5), none]) ⟨rfl, rfl, rfl, rfl, trivial⟩ (hK7 v1 v2 x5 σ h)
set_option maxRecDepth 20000 in
theorem tB_X4_middles_33 {p : Program} {l : Launch} {e : Env} {s : State} {m : MethodId} {args : Array Value} {below : List Frame} {meth : Method} {c : Code} {D : va_G} {a : Nat → Nat} {cI cO cA : ClassId} {o : Int32 × zSt} (C : zC p s m args meth c D (ztys cI cO cA) 51 a cX4_middles 5 RX4 (some .int)) {b : Nat} (hb : b = 10 ∨ b = 27) {K7 : (Int32 → Int32 → Int32 → zSt → Option (Int32 × zSt))} (hK7 : ∀ (v1 : Int32) (v2 : Int32) (v3 : Int32) (σ : zSt), K7 v1 v2 v3 σ = some o → zV p l e rm_X4_middles s m args below meth c D 51 a (fX a cI cO cA) 5 (zQi below args s D 51 a (fX a cI cO cA) o) σ 7 [some (.ref (a b)), some (.int v1), some (.int v2), some (.int v3), none] []) (v1 : Int32) (v2 : Int32) (v3 : Int32) (v4 : Int32) (σ : zSt) (h : B_X4_middles_33 b K7 v1 v2 v3 v4 σ = some o) : zV p l e rm_X4_middles s m args below meth c D 51 a (fX a cI cO cA) 5 (zQi below args s D 51 a (fX a cI cO cA) o) σ 33 [some (.ref (a b)), some (.int v1), some (.int v2), some (.int v3), some (.int v4)] [] := by
  unfold B_X4_middles_33 at h
  refine r_iload (x := v4) C dX4_middles_33 rfl ?_
  refine r_iload_n (x := v1) C dX4_middles_35 rfl ?_
  refine r_icmp_ne (tgt := 45) C dX4_middles_36 (by decide) h (fun h => ?_) (fun h => ?_)
  · exact r_le (lv' := [some (.ref (a b)), some (.int v1), some (.int v2), some (.int v3), none]) ⟨rfl, rfl, rfl, rfl, trivial⟩ (tB_X4_middles_45 C hb (K7 := K7) hK7 v1 v2 v3 σ h)
  · refine r_iload_n (x := v2) C dX4_middles_39 rfl ?_
    refine r_iconst (v := 1) C dX4_middles_40 (by decide) ?_
    refine r_iload_n (x := v3) C dX4_middles_41 rfl ?_
    refine r_ishl C dX4_middles_42 ?_
    refine r_ior C dX4_middles_43 ?_
    refine r_nm h (fun x4 h => ?_)
    refine r_istore_n (lv' := [some (.ref (a b)), some (.int v1), some (.int x4), some (.int v3), some (.int v4)]) C dX4_middles_44 (by decide) rfl rfl ?_
    exact r_le (lv' := [some (.ref (a b)), some (.int v1), some (.int x4), some (.int v3), none]) ⟨rfl, rfl, rfl, rfl, trivial⟩ (tB_X4_middles_45 C hb (K7 := K7) hK7 v1 x4 v3 σ h)
set_option maxRecDepth 20000 in
theorem tB_X4_middles_7 {p : Program} {l : Launch} {e : Env} {s : State} {m : MethodId} {args : Array Value} {below : List Frame} {meth : Method} {c : Code} {D : va_G} {a : Nat → Nat} {cI cO cA : ClassId} {o : Int32 × zSt} (C : zC p s m args meth c D (ztys cI cO cA) 51 a cX4_middles 5 RX4 (some .int)) {b : Nat} (hb : b = 10 ∨ b = 27) {K7 : (Int32 → Int32 → Int32 → zSt → Option (Int32 × zSt))} (hK7 : ∀ (v1 : Int32) (v2 : Int32) (v3 : Int32) (σ : zSt), K7 v1 v2 v3 σ = some o → zV p l e rm_X4_middles s m args below meth c D 51 a (fX a cI cO cA) 5 (zQi below args s D 51 a (fX a cI cO cA) o) σ 7 [some (.ref (a b)), some (.int v1), some (.int v2), some (.int v3), none] []) (v1 : Int32) (v2 : Int32) (v3 : Int32) (σ : zSt) (h : B_X4_middles_7 b K7 v1 v2 v3 σ = some o) : zV p l e rm_X4_middles s m args below meth c D 51 a (fX a cI cO cA) 5 (zQi below args s D 51 a (fX a cI cO cA) o) σ 7 [some (.ref (a b)), some (.int v1), some (.int v2), some (.int v3), none] [] := by
  unfold B_X4_middles_7 at h
  refine r_iload_n (x := v3) C dX4_middles_7 rfl ?_
  refine r_aload_n (x := (a b)) C dX4_middles_8 rfl ?_
  refine gf_X4_38 C hb dX4_middles_9 h (fun x1 h => ?_)
  refine r_icmp_ge (tgt := 51) C dX4_middles_12 (by decide) h (fun h => ?_) (fun h => ?_)
  · refine r_iload_n (x := v2) C dX4_middles_51 rfl ?_
    exact r_iret C dX4_middles_52 h
  · refine r_aload_n (x := (a b)) C dX4_middles_15 rfl ?_
    refine r_iload_n (x := v3) C dX4_middles_16 rfl ?_
    refine r_callVi C [.int v3] [] (b := b) (by omega) (fX_vine hb) rfl rfl zc_X4_64 zB_X4_farthest ⟨rfl, rfl, by decide, by decide⟩ (fun out h => c_X4_farthest C.2.2.2.2.2.2.2.1 hb h) rfl rfl (Nat.le_of_ble_eq_true rfl) dX4_middles_17 h (fun x3 σ2 h => ?_)
    refine r_istore (lv' := [some (.ref (a b)), some (.int v1), some (.int v2), some (.int v3), some (.int x3)]) C dX4_middles_20 (by decide) rfl rfl ?_
    refine r_iload (x := x3) C dX4_middles_22 rfl ?_
    refine r_iload_n (x := v1) C dX4_middles_24 rfl ?_
    refine r_icmp_ge (tgt := 33) C dX4_middles_25 (by decide) h (fun h => ?_) (fun h => ?_)
    · exact r_le (lv' := [some (.ref (a b)), some (.int v1), some (.int v2), some (.int v3), some (.int x3)]) ⟨rfl, rfl, rfl, rfl, rfl, trivial⟩ (tB_X4_middles_33 C hb (K7 := K7) hK7 v1 v2 v3 x3 σ2 h)
    · refine r_iload (x := x3) C dX4_middles_28 rfl ?_
      refine r_istore_n (lv' := [some (.ref (a b)), some (.int x3), some (.int v2), some (.int v3), some (.int x3)]) C dX4_middles_30 (by decide) rfl rfl ?_
      refine r_iconst (v := 0) C dX4_middles_31 (by decide) ?_
      refine r_istore_n (lv' := [some (.ref (a b)), some (.int x3), some (.int (0 : Int32)), some (.int v3), some (.int x3)]) C dX4_middles_32 (by decide) rfl rfl ?_
      exact r_le (lv' := [some (.ref (a b)), some (.int x3), some (.int (0 : Int32)), some (.int v3), some (.int x3)]) ⟨rfl, rfl, rfl, rfl, rfl, trivial⟩ (tB_X4_middles_33 C hb (K7 := K7) hK7 x3 (0 : Int32) v3 x3 σ2 h)
set_option maxRecDepth 20000 in
theorem tL_X4_middles_7 {p : Program} {l : Launch} {e : Env} {s : State} {m : MethodId} {args : Array Value} {below : List Frame} {meth : Method} {c : Code} {D : va_G} {a : Nat → Nat} {cI cO cA : ClassId} {o : Int32 × zSt} (C : zC p s m args meth c D (ztys cI cO cA) 51 a cX4_middles 5 RX4 (some .int)) {b : Nat} (hb : b = 10 ∨ b = 27)  (v1 : Int32) (v2 : Int32) (v3 : Int32) (σ : zSt) (h : L_X4_middles_7 b  v1 v2 v3 σ = some o) : zV p l e rm_X4_middles s m args below meth c D 51 a (fX a cI cO cA) 5 (zQi below args s D 51 a (fX a cI cO cA) o) σ 7 [some (.ref (a b)), some (.int v1), some (.int v2), some (.int v3), none] [] := by
  unfold L_X4_middles_7 at h
  refine zloop_ind (G := fun x => zV p l e rm_X4_middles s m args below meth c D 51 a (fX a cI cO cA) 5 (zQi below args s D 51 a (fX a cI cO cA) o) x.2.2.2 7 [some (.ref (a b)), some (.int x.1), some (.int x.2.1), some (.int x.2.2.1), none] []) ?_ zFU _ h
  intro rec hr x h
  exact tB_X4_middles_7 C hb  (fun v1 v2 v3 σ => hr (v1, v2, v3, σ)) _ _ _ _ h
set_option maxRecDepth 20000 in
theorem c_X4_middles {l : Launch} {D : va_G} {a : Nat → Nat} {cI cO cA : ClassId} (hinj : ∀ i j, i < 51 → j < 51 → a i = a j → i = j) {b : Nat} (hb : b = 10 ∨ b = 27) {σ : zSt} {o : Int32 × zSt} (h : M_X4_middles b σ = some o) : zMi l D (ztys cI cO cA) 51 a (fX a cI cO cA) yX4_middles cX4_middles 5 (some .int) rm_X4_middles [.ref (a b)] σ o := by
  unfold M_X4_middles at h
  refine zmeti (own := RX4) [some (.ref (a b)), none, none, none, none] (by decide) rfl hinj (Nat.le_of_ble_eq_true rfl) rfl (fun p e s m args below meth c C => ?_)
  refine r_bipush (v := 8) C dX4_middles_0 (by decide) ?_
  refine r_istore_n (lv' := [some (.ref (a b)), some (.int (8 : Int32)), none, none, none]) C dX4_middles_2 (by decide) rfl rfl ?_
  refine r_iconst (v := 0) C dX4_middles_3 (by decide) ?_
  refine r_istore_n (lv' := [some (.ref (a b)), some (.int (8 : Int32)), some (.int (0 : Int32)), none, none]) C dX4_middles_4 (by decide) rfl rfl ?_
  refine r_iconst (v := 0) C dX4_middles_5 (by decide) ?_
  refine r_istore_n (lv' := [some (.ref (a b)), some (.int (8 : Int32)), some (.int (0 : Int32)), some (.int (0 : Int32)), none]) C dX4_middles_6 (by decide) rfl rfl ?_
  exact r_le (lv' := [some (.ref (a b)), some (.int (8 : Int32)), some (.int (0 : Int32)), some (.int (0 : Int32)), none]) ⟨rfl, rfl, rfl, rfl, trivial⟩ (tL_X4_middles_7 C hb (8 : Int32) (0 : Int32) (0 : Int32) σ h)
/-! VineRows$Vine.twosWithin -/
abbrev rm_X4_twosWithin : Room := { frames := 0, cells := 0, slots := 0, locals := 0 }
def B_X4_twosWithin_37 (b : Nat) (p1 : Int32) (K4 : (Int32 → Int32 → zSt → Option (Int32 × zSt))) (K15 : (Int32 → Int32 → Int32 → zSt → Option (Int32 × zSt))) (v2 : Int32) (v3 : Int32) (v4 : Int32) (σ : zSt) : Option (Int32 × zSt) := znm (v4 + (1 : Int32)) (fun x6 => K15 v2 v3 x6 σ)
def B_X4_twosWithin_15 (b : Nat) (p1 : Int32) (K4 : (Int32 → Int32 → zSt → Option (Int32 × zSt))) (K15 : (Int32 → Int32 → Int32 → zSt → Option (Int32 × zSt))) (v2 : Int32) (v3 : Int32) (v4 : Int32) (σ : zSt) : Option (Int32 × zSt) := (if v3 ≤ v4 then znm (v3 + (1 : Int32)) (fun x2 => K4 v2 x2 σ) else zgr v3 8 (b + 9) (fun q3 => zga (σ q3) v4 8 (fun x4 => (if p1 < x4 then B_X4_twosWithin_37 b p1 K4 K15 v2 v3 v4 σ else znm (v2 + (1 : Int32)) (fun x5 => B_X4_twosWithin_37 b p1 K4 K15 x5 v3 v4 σ)))))
def L_X4_twosWithin_15 (b : Nat) (p1 : Int32) (K4 : (Int32 → Int32 → zSt → Option (Int32 × zSt))) (v2 : Int32) (v3 : Int32) (v4 : Int32) (σ : zSt) : Option (Int32 × zSt) := zloop (fun (rec : Int32 × Int32 × Int32 × zSt → Option (Int32 × zSt)) x => B_X4_twosWithin_15 b p1 K4 (fun v2 v3 v4 σ => rec (v2, v3, v4, σ)) x.1 x.2.1 x.2.2.1 x.2.2.2) zFU (v2, v3, v4, σ)
def B_X4_twosWithin_4 (b : Nat) (p1 : Int32) (K4 : (Int32 → Int32 → zSt → Option (Int32 × zSt))) (v2 : Int32) (v3 : Int32) (σ : zSt) : Option (Int32 × zSt) := znm (σ b 0) (fun x1 => (if x1 ≤ v3 then some (v2, σ) else L_X4_twosWithin_15 b p1 K4 v2 v3 (0 : Int32) σ))
def L_X4_twosWithin_4 (b : Nat) (p1 : Int32) (v2 : Int32) (v3 : Int32) (σ : zSt) : Option (Int32 × zSt) := zloop (fun (rec : Int32 × Int32 × zSt → Option (Int32 × zSt)) x => B_X4_twosWithin_4 b p1  (fun v2 v3 σ => rec (v2, v3, σ)) x.1 x.2.1 x.2.2) zFU (v2, v3, σ)
def M_X4_twosWithin (b : Nat) (p1 : Int32) (σ : zSt) : Option (Int32 × zSt) := L_X4_twosWithin_4 b p1 (0 : Int32) (0 : Int32) σ
set_option maxRecDepth 20000 in
theorem tB_X4_twosWithin_37 {p : Program} {l : Launch} {e : Env} {s : State} {m : MethodId} {args : Array Value} {below : List Frame} {meth : Method} {c : Code} {D : va_G} {a : Nat → Nat} {cI cO cA : ClassId} {o : Int32 × zSt} (C : zC p s m args meth c D (ztys cI cO cA) 51 a cX4_twosWithin 5 RX4 (some .int)) {b : Nat} {p1 : Int32} (hb : b = 10 ∨ b = 27) {K4 : (Int32 → Int32 → zSt → Option (Int32 × zSt))} {K15 : (Int32 → Int32 → Int32 → zSt → Option (Int32 × zSt))} (hK4 : ∀ (v2 : Int32) (v3 : Int32) (σ : zSt), K4 v2 v3 σ = some o → zV p l e rm_X4_twosWithin s m args below meth c D 51 a (fX a cI cO cA) 5 (zQi below args s D 51 a (fX a cI cO cA) o) σ 4 [some (.ref (a b)), some (.int p1), some (.int v2), some (.int v3), none] []) (hK15 : ∀ (v2 : Int32) (v3 : Int32) (v4 : Int32) (σ : zSt), K15 v2 v3 v4 σ = some o → zV p l e rm_X4_twosWithin s m args below meth c D 51 a (fX a cI cO cA) 5 (zQi below args s D 51 a (fX a cI cO cA) o) σ 15 [some (.ref (a b)), some (.int p1), some (.int v2), some (.int v3), some (.int v4)] []) (v2 : Int32) (v3 : Int32) (v4 : Int32) (σ : zSt) (h : B_X4_twosWithin_37 b p1 K4 K15 v2 v3 v4 σ = some o) : zV p l e rm_X4_twosWithin s m args below meth c D 51 a (fX a cI cO cA) 5 (zQi below args s D 51 a (fX a cI cO cA) o) σ 37 [some (.ref (a b)), some (.int p1), some (.int v2), some (.int v3), some (.int v4)] [] := by
  unfold B_X4_twosWithin_37 at h
  refine r_gen h (fun x6 ex6 h => ?_)
  refine r_iinc (x := v4) (v := x6) (lv' := [some (.ref (a b)), some (.int p1), some (.int v2), some (.int v3), some (.int x6)]) C dX4_twosWithin_37 rfl (by rw [← ex6]; rfl) (by decide) rfl rfl ?_
  clear ex6
  refine r_goto (tgt := 15) C dX4_twosWithin_40 (by decide) ?_
  exact r_le (lv' := [some (.ref (a b)), some (.int p1), some (.int v2), some (.int v3), some (.int x6)]) ⟨rfl, rfl, rfl, rfl, rfl, trivial⟩ (hK15 v2 v3 x6 σ h)
set_option maxRecDepth 20000 in
theorem tB_X4_twosWithin_15 {p : Program} {l : Launch} {e : Env} {s : State} {m : MethodId} {args : Array Value} {below : List Frame} {meth : Method} {c : Code} {D : va_G} {a : Nat → Nat} {cI cO cA : ClassId} {o : Int32 × zSt} (C : zC p s m args meth c D (ztys cI cO cA) 51 a cX4_twosWithin 5 RX4 (some .int)) {b : Nat} {p1 : Int32} (hb : b = 10 ∨ b = 27) {K4 : (Int32 → Int32 → zSt → Option (Int32 × zSt))} {K15 : (Int32 → Int32 → Int32 → zSt → Option (Int32 × zSt))} (hK4 : ∀ (v2 : Int32) (v3 : Int32) (σ : zSt), K4 v2 v3 σ = some o → zV p l e rm_X4_twosWithin s m args below meth c D 51 a (fX a cI cO cA) 5 (zQi below args s D 51 a (fX a cI cO cA) o) σ 4 [some (.ref (a b)), some (.int p1), some (.int v2), some (.int v3), none] []) (hK15 : ∀ (v2 : Int32) (v3 : Int32) (v4 : Int32) (σ : zSt), K15 v2 v3 v4 σ = some o → zV p l e rm_X4_twosWithin s m args below meth c D 51 a (fX a cI cO cA) 5 (zQi below args s D 51 a (fX a cI cO cA) o) σ 15 [some (.ref (a b)), some (.int p1), some (.int v2), some (.int v3), some (.int v4)] []) (v2 : Int32) (v3 : Int32) (v4 : Int32) (σ : zSt) (h : B_X4_twosWithin_15 b p1 K4 K15 v2 v3 v4 σ = some o) : zV p l e rm_X4_twosWithin s m args below meth c D 51 a (fX a cI cO cA) 5 (zQi below args s D 51 a (fX a cI cO cA) o) σ 15 [some (.ref (a b)), some (.int p1), some (.int v2), some (.int v3), some (.int v4)] [] := by
  unfold B_X4_twosWithin_15 at h
  refine r_iload (x := v4) C dX4_twosWithin_15 rfl ?_
  refine r_iload_n (x := v3) C dX4_twosWithin_17 rfl ?_
  refine r_icmp_ge (tgt := 43) C dX4_twosWithin_18 (by decide) h (fun h => ?_) (fun h => ?_)
  · refine r_gen h (fun x2 ex2 h => ?_)
    refine r_iinc (x := v3) (v := x2) (lv' := [some (.ref (a b)), some (.int p1), some (.int v2), some (.int x2), some (.int v4)]) C dX4_twosWithin_43 rfl (by rw [← ex2]; rfl) (by decide) rfl rfl ?_
    clear ex2
    refine r_goto (tgt := 4) C dX4_twosWithin_46 (by decide) ?_
    exact r_le (lv' := [some (.ref (a b)), some (.int p1), some (.int v2), some (.int x2), none]) ⟨rfl, rfl, rfl, rfl, trivial⟩ (hK4 v2 x2 σ h)
  · refine r_aload_n (x := (a b)) C dX4_twosWithin_21 rfl ?_
    refine gf_X4_23 C hb dX4_twosWithin_22 ?_
    refine r_iload_n (x := v3) C dX4_twosWithin_25 rfl ?_
    refine r_aald (t0 := 2) C (b + 4) (aX_away hb) rfl rfl dX4_twosWithin_26 h (fun q3 hq3 lq3 h => ?_)
    refine r_iload (x := v4) C dX4_twosWithin_27 rfl ?_
    refine r_iald (t0 := 0) C q3 (aX_row hb hq3 lq3) rfl dX4_twosWithin_29 h (fun x4 h => ?_)
    refine r_iload_n (x := p1) C dX4_twosWithin_30 rfl ?_
    refine r_icmp_gt (tgt := 37) C dX4_twosWithin_31 (by decide) h (fun h => ?_) (fun h => ?_)
    · exact r_le (lv' := [some (.ref (a b)), some (.int p1), some (.int v2), some (.int v3), some (.int v4)]) ⟨rfl, rfl, rfl, rfl, rfl, trivial⟩ (tB_X4_twosWithin_37 C hb (K4 := K4) (K15 := K15) hK4 hK15 v2 v3 v4 σ h)
    · refine r_gen h (fun x5 ex5 h => ?_)
      refine r_iinc (x := v2) (v := x5) (lv' := [some (.ref (a b)), some (.int p1), some (.int x5), some (.int v3), some (.int v4)]) C dX4_twosWithin_34 rfl (by rw [← ex5]; rfl) (by decide) rfl rfl ?_
      clear ex5
      exact r_le (lv' := [some (.ref (a b)), some (.int p1), some (.int x5), some (.int v3), some (.int v4)]) ⟨rfl, rfl, rfl, rfl, rfl, trivial⟩ (tB_X4_twosWithin_37 C hb (K4 := K4) (K15 := K15) hK4 hK15 x5 v3 v4 σ h)
set_option maxRecDepth 20000 in
theorem tL_X4_twosWithin_15 {p : Program} {l : Launch} {e : Env} {s : State} {m : MethodId} {args : Array Value} {below : List Frame} {meth : Method} {c : Code} {D : va_G} {a : Nat → Nat} {cI cO cA : ClassId} {o : Int32 × zSt} (C : zC p s m args meth c D (ztys cI cO cA) 51 a cX4_twosWithin 5 RX4 (some .int)) {b : Nat} {p1 : Int32} (hb : b = 10 ∨ b = 27) {K4 : (Int32 → Int32 → zSt → Option (Int32 × zSt))} (hK4 : ∀ (v2 : Int32) (v3 : Int32) (σ : zSt), K4 v2 v3 σ = some o → zV p l e rm_X4_twosWithin s m args below meth c D 51 a (fX a cI cO cA) 5 (zQi below args s D 51 a (fX a cI cO cA) o) σ 4 [some (.ref (a b)), some (.int p1), some (.int v2), some (.int v3), none] []) (v2 : Int32) (v3 : Int32) (v4 : Int32) (σ : zSt) (h : L_X4_twosWithin_15 b p1 K4 v2 v3 v4 σ = some o) : zV p l e rm_X4_twosWithin s m args below meth c D 51 a (fX a cI cO cA) 5 (zQi below args s D 51 a (fX a cI cO cA) o) σ 15 [some (.ref (a b)), some (.int p1), some (.int v2), some (.int v3), some (.int v4)] [] := by
  unfold L_X4_twosWithin_15 at h
  refine zloop_ind (G := fun x => zV p l e rm_X4_twosWithin s m args below meth c D 51 a (fX a cI cO cA) 5 (zQi below args s D 51 a (fX a cI cO cA) o) x.2.2.2 15 [some (.ref (a b)), some (.int p1), some (.int x.1), some (.int x.2.1), some (.int x.2.2.1)] []) ?_ zFU _ h
  intro rec hr x h
  exact tB_X4_twosWithin_15 C hb hK4 (fun v2 v3 v4 σ => hr (v2, v3, v4, σ)) _ _ _ _ h
set_option maxRecDepth 20000 in
theorem tB_X4_twosWithin_4 {p : Program} {l : Launch} {e : Env} {s : State} {m : MethodId} {args : Array Value} {below : List Frame} {meth : Method} {c : Code} {D : va_G} {a : Nat → Nat} {cI cO cA : ClassId} {o : Int32 × zSt} (C : zC p s m args meth c D (ztys cI cO cA) 51 a cX4_twosWithin 5 RX4 (some .int)) {b : Nat} {p1 : Int32} (hb : b = 10 ∨ b = 27) {K4 : (Int32 → Int32 → zSt → Option (Int32 × zSt))} (hK4 : ∀ (v2 : Int32) (v3 : Int32) (σ : zSt), K4 v2 v3 σ = some o → zV p l e rm_X4_twosWithin s m args below meth c D 51 a (fX a cI cO cA) 5 (zQi below args s D 51 a (fX a cI cO cA) o) σ 4 [some (.ref (a b)), some (.int p1), some (.int v2), some (.int v3), none] []) (v2 : Int32) (v3 : Int32) (σ : zSt) (h : B_X4_twosWithin_4 b p1 K4 v2 v3 σ = some o) : zV p l e rm_X4_twosWithin s m args below meth c D 51 a (fX a cI cO cA) 5 (zQi below args s D 51 a (fX a cI cO cA) o) σ 4 [some (.ref (a b)), some (.int p1), some (.int v2), some (.int v3), none] [] := by
  unfold B_X4_twosWithin_4 at h
  refine r_iload_n (x := v3) C dX4_twosWithin_4 rfl ?_
  refine r_aload_n (x := (a b)) C dX4_twosWithin_5 rfl ?_
  refine gf_X4_38 C hb dX4_twosWithin_6 h (fun x1 h => ?_)
  refine r_icmp_ge (tgt := 49) C dX4_twosWithin_9 (by decide) h (fun h => ?_) (fun h => ?_)
  · refine r_iload_n (x := v2) C dX4_twosWithin_49 rfl ?_
    exact r_iret C dX4_twosWithin_50 h
  · refine r_iconst (v := 0) C dX4_twosWithin_12 (by decide) ?_
    refine r_istore (lv' := [some (.ref (a b)), some (.int p1), some (.int v2), some (.int v3), some (.int (0 : Int32))]) C dX4_twosWithin_13 (by decide) rfl rfl ?_
    exact r_le (lv' := [some (.ref (a b)), some (.int p1), some (.int v2), some (.int v3), some (.int (0 : Int32))]) ⟨rfl, rfl, rfl, rfl, rfl, trivial⟩ (tL_X4_twosWithin_15 C hb (K4 := K4) hK4 v2 v3 (0 : Int32) σ h)
set_option maxRecDepth 20000 in
theorem tL_X4_twosWithin_4 {p : Program} {l : Launch} {e : Env} {s : State} {m : MethodId} {args : Array Value} {below : List Frame} {meth : Method} {c : Code} {D : va_G} {a : Nat → Nat} {cI cO cA : ClassId} {o : Int32 × zSt} (C : zC p s m args meth c D (ztys cI cO cA) 51 a cX4_twosWithin 5 RX4 (some .int)) {b : Nat} {p1 : Int32} (hb : b = 10 ∨ b = 27)  (v2 : Int32) (v3 : Int32) (σ : zSt) (h : L_X4_twosWithin_4 b p1  v2 v3 σ = some o) : zV p l e rm_X4_twosWithin s m args below meth c D 51 a (fX a cI cO cA) 5 (zQi below args s D 51 a (fX a cI cO cA) o) σ 4 [some (.ref (a b)), some (.int p1), some (.int v2), some (.int v3), none] [] := by
  unfold L_X4_twosWithin_4 at h
  refine zloop_ind (G := fun x => zV p l e rm_X4_twosWithin s m args below meth c D 51 a (fX a cI cO cA) 5 (zQi below args s D 51 a (fX a cI cO cA) o) x.2.2 4 [some (.ref (a b)), some (.int p1), some (.int x.1), some (.int x.2.1), none] []) ?_ zFU _ h
  intro rec hr x h
  exact tB_X4_twosWithin_4 C hb  (fun v2 v3 σ => hr (v2, v3, σ)) _ _ _ h
set_option maxRecDepth 20000 in
theorem c_X4_twosWithin {l : Launch} {D : va_G} {a : Nat → Nat} {cI cO cA : ClassId} (hinj : ∀ i j, i < 51 → j < 51 → a i = a j → i = j) {b : Nat} {p1 : Int32} (hb : b = 10 ∨ b = 27) {σ : zSt} {o : Int32 × zSt} (h : M_X4_twosWithin b p1 σ = some o) : zMi l D (ztys cI cO cA) 51 a (fX a cI cO cA) yX4_twosWithin cX4_twosWithin 5 (some .int) rm_X4_twosWithin [.ref (a b), .int p1] σ o := by
  unfold M_X4_twosWithin at h
  refine zmeti (own := RX4) [some (.ref (a b)), some (.int p1), none, none, none] (by decide) rfl hinj (Nat.le_of_ble_eq_true rfl) rfl (fun p e s m args below meth c C => ?_)
  refine r_iconst (v := 0) C dX4_twosWithin_0 (by decide) ?_
  refine r_istore_n (lv' := [some (.ref (a b)), some (.int p1), some (.int (0 : Int32)), none, none]) C dX4_twosWithin_1 (by decide) rfl rfl ?_
  refine r_iconst (v := 0) C dX4_twosWithin_2 (by decide) ?_
  refine r_istore_n (lv' := [some (.ref (a b)), some (.int p1), some (.int (0 : Int32)), some (.int (0 : Int32)), none]) C dX4_twosWithin_3 (by decide) rfl rfl ?_
  exact r_le (lv' := [some (.ref (a b)), some (.int p1), some (.int (0 : Int32)), some (.int (0 : Int32)), none]) ⟨rfl, rfl, rfl, rfl, trivial⟩ (tL_X4_twosWithin_4 C hb (0 : Int32) (0 : Int32) σ h)
/-! VineRows$Vine.become -/
abbrev rm_X4_become : Room := { frames := 1, cells := 0, slots := 0, locals := 38 }
def B_X4_become_10 (b : Nat) (b1 : Nat) (K10 : (Int32 → zSt → Option (zSt))) (v2 : Int32) (σ : zSt) : Option (zSt) := znm (σ b 0) (fun x3 => (if x3 ≤ v2 then some σ else zga (σ (b1 + 1)) v2 8 (fun x4 => zgs σ (b + 1) v2 8 x4 (fun σ5 => zga (σ5 (b1 + 2)) v2 8 (fun x6 => zgs σ5 (b + 2) v2 8 x6 (fun σ7 => zga (σ7 (b1 + 3)) v2 8 (fun x8 => zgs σ7 (b + 3) v2 8 x8 (fun σ9 => zgr v2 8 (b1 + 9) (fun q10 => zgr v2 8 (b + 9) (fun q11 => znm (σ9 b 0) (fun x12 => zcp σ9 q10 q11 8 8 (0 : Int32) (0 : Int32) x12 (fun σ13 => znm (v2 + (1 : Int32)) (fun x14 => K10 x14 σ13)))))))))))))
def L_X4_become_10 (b : Nat) (b1 : Nat) (v2 : Int32) (σ : zSt) : Option (zSt) := zloop (fun (rec : Int32 × zSt → Option (zSt)) x => B_X4_become_10 b b1  (fun v2 σ => rec (v2, σ)) x.1 x.2) zFU (v2, σ)
def M_X4_become (b : Nat) (b1 : Nat) (σ : zSt) : Option (zSt) := znm (σ b1 0) (fun x1 => znm (zsu σ b (upd (σ b) 0 x1)) (fun σ2 => L_X4_become_10 b b1 (0 : Int32) σ2))
set_option maxRecDepth 20000 in
theorem tB_X4_become_10 {p : Program} {l : Launch} {e : Env} {s : State} {m : MethodId} {args : Array Value} {below : List Frame} {meth : Method} {c : Code} {D : va_G} {a : Nat → Nat} {cI cO cA : ClassId} {o : zSt} (C : zC p s m args meth c D (ztys cI cO cA) 51 a cX4_become 3 RX4 none) {b : Nat} {b1 : Nat} (hb : b = 10 ∨ b = 27) (hb1 : b1 = 10 ∨ b1 = 27) {K10 : (Int32 → zSt → Option (zSt))} (hK10 : ∀ (v2 : Int32) (σ : zSt), K10 v2 σ = some o → zV p l e rm_X4_become s m args below meth c D 51 a (fX a cI cO cA) 3 (zQv below args s D 51 a (fX a cI cO cA) o) σ 10 [some (.ref (a b)), some (.ref (a b1)), some (.int v2)] []) (v2 : Int32) (σ : zSt) (h : B_X4_become_10 b b1 K10 v2 σ = some o) : zV p l e rm_X4_become s m args below meth c D 51 a (fX a cI cO cA) 3 (zQv below args s D 51 a (fX a cI cO cA) o) σ 10 [some (.ref (a b)), some (.ref (a b1)), some (.int v2)] [] := by
  unfold B_X4_become_10 at h
  refine r_iload_n (x := v2) C dX4_become_10 rfl ?_
  refine r_aload_n (x := (a b)) C dX4_become_11 rfl ?_
  refine gf_X4_38 C hb dX4_become_12 h (fun x3 h => ?_)
  refine r_icmp_ge (tgt := 81) C dX4_become_15 (by decide) h (fun h => ?_) (fun h => ?_)
  · exact r_vret C dX4_become_81 h
  · refine r_aload_n (x := (a b)) C dX4_become_18 rfl ?_
    refine gf_X4_9 C hb dX4_become_19 ?_
    refine r_iload_n (x := v2) C dX4_become_22 rfl ?_
    refine r_aload_n (x := (a b1)) C dX4_become_23 rfl ?_
    refine gf_X4_9 C hb1 dX4_become_24 ?_
    refine r_iload_n (x := v2) C dX4_become_27 rfl ?_
    refine r_iald (t0 := 0) C (b1 + 1) (aX_v1 hb1) rfl dX4_become_28 h (fun x4 h => ?_)
    refine r_iast (t0 := 0) C (b + 1) (aX_v1 hb) rfl dX4_become_29 h (fun σ5 h => ?_)
    refine r_aload_n (x := (a b)) C dX4_become_30 rfl ?_
    refine gf_X4_15 C hb dX4_become_31 ?_
    refine r_iload_n (x := v2) C dX4_become_34 rfl ?_
    refine r_aload_n (x := (a b1)) C dX4_become_35 rfl ?_
    refine gf_X4_15 C hb1 dX4_become_36 ?_
    refine r_iload_n (x := v2) C dX4_become_39 rfl ?_
    refine r_iald (t0 := 0) C (b1 + 2) (aX_v2 hb1) rfl dX4_become_40 h (fun x6 h => ?_)
    refine r_iast (t0 := 0) C (b + 2) (aX_v2 hb) rfl dX4_become_41 h (fun σ7 h => ?_)
    refine r_aload_n (x := (a b)) C dX4_become_42 rfl ?_
    refine gf_X4_18 C hb dX4_become_43 ?_
    refine r_iload_n (x := v2) C dX4_become_46 rfl ?_
    refine r_aload_n (x := (a b1)) C dX4_become_47 rfl ?_
    refine gf_X4_18 C hb1 dX4_become_48 ?_
    refine r_iload_n (x := v2) C dX4_become_51 rfl ?_
    refine r_iald (t0 := 0) C (b1 + 3) (aX_v3 hb1) rfl dX4_become_52 h (fun x8 h => ?_)
    refine r_iast (t0 := 0) C (b + 3) (aX_v3 hb) rfl dX4_become_53 h (fun σ9 h => ?_)
    refine r_aload_n (x := (a b1)) C dX4_become_54 rfl ?_
    refine gf_X4_23 C hb1 dX4_become_55 ?_
    refine r_iload_n (x := v2) C dX4_become_58 rfl ?_
    refine r_aald (t0 := 2) C (b1 + 4) (aX_away hb1) rfl rfl dX4_become_59 h (fun q10 hq10 lq10 h => ?_)
    refine r_iconst (v := 0) C dX4_become_60 (by decide) ?_
    refine r_aload_n (x := (a b)) C dX4_become_61 rfl ?_
    refine gf_X4_23 C hb dX4_become_62 ?_
    refine r_iload_n (x := v2) C dX4_become_65 rfl ?_
    refine r_aald (t0 := 2) C (b + 4) (aX_away hb) rfl rfl dX4_become_66 h (fun q11 hq11 lq11 h => ?_)
    refine r_iconst (v := 0) C dX4_become_67 (by decide) ?_
    refine r_aload_n (x := (a b)) C dX4_become_68 rfl ?_
    refine gf_X4_38 C hb dX4_become_69 h (fun x12 h => ?_)
    refine r_copy (t0 := 0) C q10 q11 (aX_row hb1 hq10 lq10) (aX_row hb hq11 lq11) rfl ⟨zw97, zw98, zw99, zw100⟩ (by decide) (Nat.le_of_ble_eq_true (by decide +kernel)) dX4_become_72 h (fun σ13 h => ?_)
    refine r_gen h (fun x14 ex14 h => ?_)
    refine r_iinc (x := v2) (v := x14) (lv' := [some (.ref (a b)), some (.ref (a b1)), some (.int x14)]) C dX4_become_75 rfl (by rw [← ex14]; rfl) (by decide) rfl rfl ?_
    clear ex14
    refine r_goto (tgt := 10) C dX4_become_78 (by decide) ?_
    exact r_le (lv' := [some (.ref (a b)), some (.ref (a b1)), some (.int x14)]) ⟨rfl, rfl, rfl, trivial⟩ (hK10 x14 σ13 h)
set_option maxRecDepth 20000 in
theorem tL_X4_become_10 {p : Program} {l : Launch} {e : Env} {s : State} {m : MethodId} {args : Array Value} {below : List Frame} {meth : Method} {c : Code} {D : va_G} {a : Nat → Nat} {cI cO cA : ClassId} {o : zSt} (C : zC p s m args meth c D (ztys cI cO cA) 51 a cX4_become 3 RX4 none) {b : Nat} {b1 : Nat} (hb : b = 10 ∨ b = 27) (hb1 : b1 = 10 ∨ b1 = 27)  (v2 : Int32) (σ : zSt) (h : L_X4_become_10 b b1  v2 σ = some o) : zV p l e rm_X4_become s m args below meth c D 51 a (fX a cI cO cA) 3 (zQv below args s D 51 a (fX a cI cO cA) o) σ 10 [some (.ref (a b)), some (.ref (a b1)), some (.int v2)] [] := by
  unfold L_X4_become_10 at h
  refine zloop_ind (G := fun x => zV p l e rm_X4_become s m args below meth c D 51 a (fX a cI cO cA) 3 (zQv below args s D 51 a (fX a cI cO cA) o) x.2 10 [some (.ref (a b)), some (.ref (a b1)), some (.int x.1)] []) ?_ zFU _ h
  intro rec hr x h
  exact tB_X4_become_10 C hb hb1  (fun v2 σ => hr (v2, σ)) _ _ h
set_option maxRecDepth 20000 in
theorem c_X4_become {l : Launch} {D : va_G} {a : Nat → Nat} {cI cO cA : ClassId} (hinj : ∀ i j, i < 51 → j < 51 → a i = a j → i = j) {b : Nat} {b1 : Nat} (hb : b = 10 ∨ b = 27) (hb1 : b1 = 10 ∨ b1 = 27) {σ : zSt} {o : zSt} (h : M_X4_become b b1 σ = some o) : zMv l D (ztys cI cO cA) 51 a (fX a cI cO cA) yX4_become cX4_become 3 none rm_X4_become [.ref (a b), .ref (a b1)] σ o := by
  unfold M_X4_become at h
  refine zmetv (own := RX4) [some (.ref (a b)), some (.ref (a b1)), none] (by decide) rfl hinj (Nat.le_of_ble_eq_true rfl) rfl (fun p e s m args below meth c C => ?_)
  refine r_aload_n (x := (a b)) C dX4_become_0 rfl ?_
  refine r_aload_n (x := (a b1)) C dX4_become_1 rfl ?_
  refine gf_X4_38 C hb1 dX4_become_2 h (fun x1 h => ?_)
  refine pf_X4_38 C hb dX4_become_5 h (fun σ2 h => ?_)
  refine r_iconst (v := 0) C dX4_become_8 (by decide) ?_
  refine r_istore_n (lv' := [some (.ref (a b)), some (.ref (a b1)), some (.int (0 : Int32))]) C dX4_become_9 (by decide) rfl rfl ?_
  exact r_le (lv' := [some (.ref (a b)), some (.ref (a b1)), some (.int (0 : Int32))]) ⟨rfl, rfl, rfl, trivial⟩ (tL_X4_become_10 C hb hb1 (0 : Int32) σ2 h)
/-! VineRows.leastOf -/
abbrev rm_X5_leastOf : Room := { frames := 0, cells := 0, slots := 0, locals := 0 }
def B_X5_leastOf_2 (p1 : Int32) (K2 : (Int32 → zSt → Option (Int32 × zSt))) (v1 : Int32) (σ : zSt) : Option (Int32 × zSt) := (if (8 : Int32) ≤ v1 then some ((0 : Int32), σ) else (if (zbt p1 v1) = 0 then znm (v1 + (1 : Int32)) (fun x1 => K2 x1 σ) else some (v1, σ)))
def L_X5_leastOf_2 (p1 : Int32) (v1 : Int32) (σ : zSt) : Option (Int32 × zSt) := zloop (fun (rec : Int32 × zSt → Option (Int32 × zSt)) x => B_X5_leastOf_2 p1  (fun v1 σ => rec (v1, σ)) x.1 x.2) zFU (v1, σ)
def M_X5_leastOf (p1 : Int32) (σ : zSt) : Option (Int32 × zSt) := L_X5_leastOf_2 p1 (0 : Int32) σ
set_option maxRecDepth 20000 in
theorem tB_X5_leastOf_2 {p : Program} {l : Launch} {e : Env} {s : State} {m : MethodId} {args : Array Value} {below : List Frame} {meth : Method} {c : Code} {D : va_G} {a : Nat → Nat} {cI cO cA : ClassId} {o : Int32 × zSt} (C : zC p s m args meth c D (ztys cI cO cA) 51 a cX5_leastOf 2 RX5 (some .int)) {p1 : Int32} {K2 : (Int32 → zSt → Option (Int32 × zSt))} (hK2 : ∀ (v1 : Int32) (σ : zSt), K2 v1 σ = some o → zV p l e rm_X5_leastOf s m args below meth c D 51 a (fX a cI cO cA) 2 (zQi below args s D 51 a (fX a cI cO cA) o) σ 2 [some (.int p1), some (.int v1)] []) (v1 : Int32) (σ : zSt) (h : B_X5_leastOf_2 p1 K2 v1 σ = some o) : zV p l e rm_X5_leastOf s m args below meth c D 51 a (fX a cI cO cA) 2 (zQi below args s D 51 a (fX a cI cO cA) o) σ 2 [some (.int p1), some (.int v1)] [] := by
  unfold B_X5_leastOf_2 at h
  refine r_iload_n (x := v1) C dX5_leastOf_2 rfl ?_
  refine r_bipush (v := 8) C dX5_leastOf_3 (by decide) ?_
  refine r_icmp_ge (tgt := 24) C dX5_leastOf_5 (by decide) h (fun h => ?_) (fun h => ?_)
  · refine r_iconst (v := 0) C dX5_leastOf_24 (by decide) ?_
    exact r_iret C dX5_leastOf_25 h
  · refine r_iload_n (x := p1) C dX5_leastOf_8 rfl ?_
    refine r_iload_n (x := v1) C dX5_leastOf_9 rfl ?_
    refine r_ishr C dX5_leastOf_10 ?_
    refine r_iconst (v := 1) C dX5_leastOf_11 (by decide) ?_
    refine r_iand C dX5_leastOf_12 ?_
    refine r_if_eq (tgt := 18) C dX5_leastOf_13 (by decide) h (fun h => ?_) (fun h => ?_)
    · refine r_gen h (fun x1 ex1 h => ?_)
      refine r_iinc (x := v1) (v := x1) (lv' := [some (.int p1), some (.int x1)]) C dX5_leastOf_18 rfl (by rw [← ex1]; rfl) (by decide) rfl rfl ?_
      clear ex1
      refine r_goto (tgt := 2) C dX5_leastOf_21 (by decide) ?_
      exact r_le (lv' := [some (.int p1), some (.int x1)]) ⟨rfl, rfl, trivial⟩ (hK2 x1 σ h)
    · refine r_iload_n (x := v1) C dX5_leastOf_16 rfl ?_
      exact r_iret C dX5_leastOf_17 h
set_option maxRecDepth 20000 in
theorem tL_X5_leastOf_2 {p : Program} {l : Launch} {e : Env} {s : State} {m : MethodId} {args : Array Value} {below : List Frame} {meth : Method} {c : Code} {D : va_G} {a : Nat → Nat} {cI cO cA : ClassId} {o : Int32 × zSt} (C : zC p s m args meth c D (ztys cI cO cA) 51 a cX5_leastOf 2 RX5 (some .int)) {p1 : Int32}  (v1 : Int32) (σ : zSt) (h : L_X5_leastOf_2 p1  v1 σ = some o) : zV p l e rm_X5_leastOf s m args below meth c D 51 a (fX a cI cO cA) 2 (zQi below args s D 51 a (fX a cI cO cA) o) σ 2 [some (.int p1), some (.int v1)] [] := by
  unfold L_X5_leastOf_2 at h
  refine zloop_ind (G := fun x => zV p l e rm_X5_leastOf s m args below meth c D 51 a (fX a cI cO cA) 2 (zQi below args s D 51 a (fX a cI cO cA) o) x.2 2 [some (.int p1), some (.int x.1)] []) ?_ zFU _ h
  intro rec hr x h
  exact tB_X5_leastOf_2 C   (fun v1 σ => hr (v1, σ)) _ _ h
set_option maxRecDepth 20000 in
theorem c_X5_leastOf {l : Launch} {D : va_G} {a : Nat → Nat} {cI cO cA : ClassId} (hinj : ∀ i j, i < 51 → j < 51 → a i = a j → i = j) {p1 : Int32} {σ : zSt} {o : Int32 × zSt} (h : M_X5_leastOf p1 σ = some o) : zMi l D (ztys cI cO cA) 51 a (fX a cI cO cA) yX5_leastOf cX5_leastOf 2 (some .int) rm_X5_leastOf [.int p1] σ o := by
  unfold M_X5_leastOf at h
  refine zmeti (own := RX5) [some (.int p1), none] (by decide) rfl hinj (Nat.le_of_ble_eq_true rfl) rfl (fun p e s m args below meth c C => ?_)
  refine r_iconst (v := 0) C dX5_leastOf_0 (by decide) ?_
  refine r_istore_n (lv' := [some (.int p1), some (.int (0 : Int32))]) C dX5_leastOf_1 (by decide) rfl rfl ?_
  exact r_le (lv' := [some (.int p1), some (.int (0 : Int32))]) ⟨rfl, rfl, trivial⟩ (tL_X5_leastOf_2 C (0 : Int32) σ h)
/-! VineRows$Vine.namedFrom -/
abbrev rm_X4_namedFrom : Room := { frames := 0, cells := 0, slots := 0, locals := 0 }
def B_X4_namedFrom_4 (b : Nat) (p1 : Int32) (K4 : (Int32 → Int32 → zSt → Option (Int32 × zSt))) (v2 : Int32) (v3 : Int32) (σ : zSt) : Option (Int32 × zSt) := znm (σ b 0) (fun x1 => (if (x1 - (2 : Int32)) ≤ v3 then some (v2, σ) else zga (σ (b + 6)) v3 8 (fun x2 => znm ((v2 ||| (zon x2))) (fun x3 => znm (v3 + (1 : Int32)) (fun x4 => K4 x3 x4 σ)))))
def L_X4_namedFrom_4 (b : Nat) (p1 : Int32) (v2 : Int32) (v3 : Int32) (σ : zSt) : Option (Int32 × zSt) := zloop (fun (rec : Int32 × Int32 × zSt → Option (Int32 × zSt)) x => B_X4_namedFrom_4 b p1  (fun v2 v3 σ => rec (v2, v3, σ)) x.1 x.2.1 x.2.2) zFU (v2, v3, σ)
def M_X4_namedFrom (b : Nat) (p1 : Int32) (σ : zSt) : Option (Int32 × zSt) := L_X4_namedFrom_4 b p1 (0 : Int32) p1 σ
set_option maxRecDepth 20000 in
theorem tB_X4_namedFrom_4 {p : Program} {l : Launch} {e : Env} {s : State} {m : MethodId} {args : Array Value} {below : List Frame} {meth : Method} {c : Code} {D : va_G} {a : Nat → Nat} {cI cO cA : ClassId} {o : Int32 × zSt} (C : zC p s m args meth c D (ztys cI cO cA) 51 a cX4_namedFrom 4 RX4 (some .int)) {b : Nat} {p1 : Int32} (hb : b = 10 ∨ b = 27) {K4 : (Int32 → Int32 → zSt → Option (Int32 × zSt))} (hK4 : ∀ (v2 : Int32) (v3 : Int32) (σ : zSt), K4 v2 v3 σ = some o → zV p l e rm_X4_namedFrom s m args below meth c D 51 a (fX a cI cO cA) 4 (zQi below args s D 51 a (fX a cI cO cA) o) σ 4 [some (.ref (a b)), none, some (.int v2), some (.int v3)] []) (v2 : Int32) (v3 : Int32) (σ : zSt) (h : B_X4_namedFrom_4 b p1 K4 v2 v3 σ = some o) : zV p l e rm_X4_namedFrom s m args below meth c D 51 a (fX a cI cO cA) 4 (zQi below args s D 51 a (fX a cI cO cA) o) σ 4 [some (.ref (a b)), none, some (.int v2), some (.int v3)] [] := by
  unfold B_X4_namedFrom_4 at h
  refine r_iload_n (x := v3) C dX4_namedFrom_4 rfl ?_
  refine r_aload_n (x := (a b)) C dX4_namedFrom_5 rfl ?_
  refine gf_X4_38 C hb dX4_namedFrom_6 h (fun x1 h => ?_)
  refine r_iconst (v := 2) C dX4_namedFrom_9 (by decide) ?_
  refine r_isub C dX4_namedFrom_10 ?_
  refine r_icmp_ge (tgt := 31) C dX4_namedFrom_11 (by decide) h (fun h => ?_) (fun h => ?_)
  · refine r_iload_n (x := v2) C dX4_namedFrom_31 rfl ?_
    exact r_iret C dX4_namedFrom_32 h
  · refine r_iload_n (x := v2) C dX4_namedFrom_14 rfl ?_
    refine r_iconst (v := 1) C dX4_namedFrom_15 (by decide) ?_
    refine r_aload_n (x := (a b)) C dX4_namedFrom_16 rfl ?_
    refine gf_X4_29 C hb dX4_namedFrom_17 ?_
    refine r_iload_n (x := v3) C dX4_namedFrom_20 rfl ?_
    refine r_iald (t0 := 0) C (b + 6) (aX_v6 hb) rfl dX4_namedFrom_21 h (fun x2 h => ?_)
    refine r_ishl C dX4_namedFrom_22 ?_
    refine r_ior C dX4_namedFrom_23 ?_
    refine r_nm h (fun x3 h => ?_)
    refine r_istore_n (lv' := [some (.ref (a b)), none, some (.int x3), some (.int v3)]) C dX4_namedFrom_24 (by decide) rfl rfl ?_
    refine r_gen h (fun x4 ex4 h => ?_)
    refine r_iinc (x := v3) (v := x4) (lv' := [some (.ref (a b)), none, some (.int x3), some (.int x4)]) C dX4_namedFrom_25 rfl (by rw [← ex4]; rfl) (by decide) rfl rfl ?_
    clear ex4
    refine r_goto (tgt := 4) C dX4_namedFrom_28 (by decide) ?_
    exact r_le (lv' := [some (.ref (a b)), none, some (.int x3), some (.int x4)]) ⟨rfl, rfl, rfl, trivial⟩ (hK4 x3 x4 σ h)
set_option maxRecDepth 20000 in
theorem tL_X4_namedFrom_4 {p : Program} {l : Launch} {e : Env} {s : State} {m : MethodId} {args : Array Value} {below : List Frame} {meth : Method} {c : Code} {D : va_G} {a : Nat → Nat} {cI cO cA : ClassId} {o : Int32 × zSt} (C : zC p s m args meth c D (ztys cI cO cA) 51 a cX4_namedFrom 4 RX4 (some .int)) {b : Nat} {p1 : Int32} (hb : b = 10 ∨ b = 27)  (v2 : Int32) (v3 : Int32) (σ : zSt) (h : L_X4_namedFrom_4 b p1  v2 v3 σ = some o) : zV p l e rm_X4_namedFrom s m args below meth c D 51 a (fX a cI cO cA) 4 (zQi below args s D 51 a (fX a cI cO cA) o) σ 4 [some (.ref (a b)), none, some (.int v2), some (.int v3)] [] := by
  unfold L_X4_namedFrom_4 at h
  refine zloop_ind (G := fun x => zV p l e rm_X4_namedFrom s m args below meth c D 51 a (fX a cI cO cA) 4 (zQi below args s D 51 a (fX a cI cO cA) o) x.2.2 4 [some (.ref (a b)), none, some (.int x.1), some (.int x.2.1)] []) ?_ zFU _ h
  intro rec hr x h
  exact tB_X4_namedFrom_4 C hb  (fun v2 v3 σ => hr (v2, v3, σ)) _ _ _ h
set_option maxRecDepth 20000 in
theorem c_X4_namedFrom {l : Launch} {D : va_G} {a : Nat → Nat} {cI cO cA : ClassId} (hinj : ∀ i j, i < 51 → j < 51 → a i = a j → i = j) {b : Nat} {p1 : Int32} (hb : b = 10 ∨ b = 27) {σ : zSt} {o : Int32 × zSt} (h : M_X4_namedFrom b p1 σ = some o) : zMi l D (ztys cI cO cA) 51 a (fX a cI cO cA) yX4_namedFrom cX4_namedFrom 4 (some .int) rm_X4_namedFrom [.ref (a b), .int p1] σ o := by
  unfold M_X4_namedFrom at h
  refine zmeti (own := RX4) [some (.ref (a b)), some (.int p1), none, none] (by decide) rfl hinj (Nat.le_of_ble_eq_true rfl) rfl (fun p e s m args below meth c C => ?_)
  refine r_iconst (v := 0) C dX4_namedFrom_0 (by decide) ?_
  refine r_istore_n (lv' := [some (.ref (a b)), some (.int p1), some (.int (0 : Int32)), none]) C dX4_namedFrom_1 (by decide) rfl rfl ?_
  refine r_iload_n (x := p1) C dX4_namedFrom_2 rfl ?_
  refine r_istore_n (lv' := [some (.ref (a b)), some (.int p1), some (.int (0 : Int32)), some (.int p1)]) C dX4_namedFrom_3 (by decide) rfl rfl ?_
  exact r_le (lv' := [some (.ref (a b)), none, some (.int (0 : Int32)), some (.int p1)]) ⟨rfl, rfl, rfl, trivial⟩ (tL_X4_namedFrom_4 C hb (0 : Int32) p1 σ h)
/-! VineRows$Vine.findTaken -/
abbrev rm_X4_findTaken : Room := { frames := 1, cells := 0, slots := 0, locals := 23 }
def B_X4_findTaken_11 (b : Nat) (K11 : (Int32 → Int32 → zSt → Option (zSt))) (v1 : Int32) (v2 : Int32) (σ : zSt) : Option (zSt) := znm (σ b 0) (fun x3 => (if (x3 - (2 : Int32)) ≤ v2 then znm (σ b 0) (fun x4 => (if x4 < (2 : Int32) then some σ else znm (σ b 0) (fun x5 => zbd (M_X5_leastOf v1 σ) (fun x7 σ6 => zgs σ6 (b + 5) (x5 - (2 : Int32)) 8 x7 (fun σ8 => znm (σ8 b 0) (fun x9 => znm (σ8 b 0) (fun x10 => zga (σ8 (b + 5)) (x10 - (2 : Int32)) 8 (fun x11 => zbd (M_X5_leastOf (v1 &&& (znt (zon x11))) σ8) (fun x13 σ12 => zgs σ12 (b + 6) (x9 - (2 : Int32)) 8 x13 (fun σ14 => some σ14)))))))))) else zbd (M_X4_namedFrom b v2 σ) (fun x16 σ15 => zbd (M_X5_leastOf (v1 &&& (znt x16)) σ15) (fun x18 σ17 => zgs σ17 (b + 5) v2 8 x18 (fun σ19 => zga (σ19 (b + 5)) v2 8 (fun x20 => znm ((v1 &&& (znt (zon x20)))) (fun x21 => znm (v2 + (1 : Int32)) (fun x22 => K11 x21 x22 σ19))))))))
def L_X4_findTaken_11 (b : Nat) (v1 : Int32) (v2 : Int32) (σ : zSt) : Option (zSt) := zloop (fun (rec : Int32 × Int32 × zSt → Option (zSt)) x => B_X4_findTaken_11 b  (fun v1 v2 σ => rec (v1, v2, σ)) x.1 x.2.1 x.2.2) zFU (v1, v2, σ)
def M_X4_findTaken (b : Nat) (σ : zSt) : Option (zSt) := znm (σ b 0) (fun x1 => znm (((zon x1) - (1 : Int32))) (fun x2 => L_X4_findTaken_11 b x2 (0 : Int32) σ))
set_option maxRecDepth 20000 in
theorem tB_X4_findTaken_11 {p : Program} {l : Launch} {e : Env} {s : State} {m : MethodId} {args : Array Value} {below : List Frame} {meth : Method} {c : Code} {D : va_G} {a : Nat → Nat} {cI cO cA : ClassId} {o : zSt} (C : zC p s m args meth c D (ztys cI cO cA) 51 a cX4_findTaken 3 RX4 none) {b : Nat} (hb : b = 10 ∨ b = 27) {K11 : (Int32 → Int32 → zSt → Option (zSt))} (hK11 : ∀ (v1 : Int32) (v2 : Int32) (σ : zSt), K11 v1 v2 σ = some o → zV p l e rm_X4_findTaken s m args below meth c D 51 a (fX a cI cO cA) 3 (zQv below args s D 51 a (fX a cI cO cA) o) σ 11 [some (.ref (a b)), some (.int v1), some (.int v2)] []) (v1 : Int32) (v2 : Int32) (σ : zSt) (h : B_X4_findTaken_11 b K11 v1 v2 σ = some o) : zV p l e rm_X4_findTaken s m args below meth c D 51 a (fX a cI cO cA) 3 (zQv below args s D 51 a (fX a cI cO cA) o) σ 11 [some (.ref (a b)), some (.int v1), some (.int v2)] [] := by
  unfold B_X4_findTaken_11 at h
  refine r_iload_n (x := v2) C dX4_findTaken_11 rfl ?_
  refine r_aload_n (x := (a b)) C dX4_findTaken_12 rfl ?_
  refine gf_X4_38 C hb dX4_findTaken_13 h (fun x3 h => ?_)
  refine r_iconst (v := 2) C dX4_findTaken_16 (by decide) ?_
  refine r_isub C dX4_findTaken_17 ?_
  refine r_icmp_ge (tgt := 58) C dX4_findTaken_18 (by decide) h (fun h => ?_) (fun h => ?_)
  · refine r_aload_n (x := (a b)) C dX4_findTaken_58 rfl ?_
    refine gf_X4_38 C hb dX4_findTaken_59 h (fun x4 h => ?_)
    refine r_iconst (v := 2) C dX4_findTaken_62 (by decide) ?_
    refine r_icmp_lt (tgt := 112) C dX4_findTaken_63 (by decide) h (fun h => ?_) (fun h => ?_)
    · exact r_vret C dX4_findTaken_112 h
    · refine r_aload_n (x := (a b)) C dX4_findTaken_66 rfl ?_
      refine gf_X4_26 C hb dX4_findTaken_67 ?_
      refine r_aload_n (x := (a b)) C dX4_findTaken_70 rfl ?_
      refine gf_X4_38 C hb dX4_findTaken_71 h (fun x5 h => ?_)
      refine r_iconst (v := 2) C dX4_findTaken_74 (by decide) ?_
      refine r_isub C dX4_findTaken_75 ?_
      refine r_iload_n (x := v1) C dX4_findTaken_76 rfl ?_
      refine r_callNi C [.int v1] [.int (x5 - (2 : Int32)), .ref (a (b + 5))] "VineRows" (List.mem_cons_of_mem _ List.mem_cons_self) zc_X4_97 zB_X5_leastOf ⟨rfl, rfl, by decide, by decide⟩ (fun out h => c_X5_leastOf C.2.2.2.2.2.2.2.1  h) rfl rfl (Nat.le_of_ble_eq_true rfl) dX4_findTaken_77 h (fun x7 σ6 h => ?_)
      refine r_iast (t0 := 0) C (b + 5) (aX_v5 hb) rfl dX4_findTaken_80 h (fun σ8 h => ?_)
      refine r_aload_n (x := (a b)) C dX4_findTaken_81 rfl ?_
      refine gf_X4_29 C hb dX4_findTaken_82 ?_
      refine r_aload_n (x := (a b)) C dX4_findTaken_85 rfl ?_
      refine gf_X4_38 C hb dX4_findTaken_86 h (fun x9 h => ?_)
      refine r_iconst (v := 2) C dX4_findTaken_89 (by decide) ?_
      refine r_isub C dX4_findTaken_90 ?_
      refine r_iload_n (x := v1) C dX4_findTaken_91 rfl ?_
      refine r_iconst (v := 1) C dX4_findTaken_92 (by decide) ?_
      refine r_aload_n (x := (a b)) C dX4_findTaken_93 rfl ?_
      refine gf_X4_26 C hb dX4_findTaken_94 ?_
      refine r_aload_n (x := (a b)) C dX4_findTaken_97 rfl ?_
      refine gf_X4_38 C hb dX4_findTaken_98 h (fun x10 h => ?_)
      refine r_iconst (v := 2) C dX4_findTaken_101 (by decide) ?_
      refine r_isub C dX4_findTaken_102 ?_
      refine r_iald (t0 := 0) C (b + 5) (aX_v5 hb) rfl dX4_findTaken_103 h (fun x11 h => ?_)
      refine r_ishl C dX4_findTaken_104 ?_
      refine r_iconst (v := -1) C dX4_findTaken_105 (by decide) ?_
      refine r_ixor C dX4_findTaken_106 ?_
      refine r_iand C dX4_findTaken_107 ?_
      refine r_callNi C [.int (v1 &&& (znt (zon x11)))] [.int (x9 - (2 : Int32)), .ref (a (b + 6))] "VineRows" (List.mem_cons_of_mem _ List.mem_cons_self) zc_X4_97 zB_X5_leastOf ⟨rfl, rfl, by decide, by decide⟩ (fun out h => c_X5_leastOf C.2.2.2.2.2.2.2.1  h) rfl rfl (Nat.le_of_ble_eq_true rfl) dX4_findTaken_108 h (fun x13 σ12 h => ?_)
      refine r_iast (t0 := 0) C (b + 6) (aX_v6 hb) rfl dX4_findTaken_111 h (fun σ14 h => ?_)
      exact r_vret C dX4_findTaken_112 h
  · refine r_aload_n (x := (a b)) C dX4_findTaken_21 rfl ?_
    refine gf_X4_26 C hb dX4_findTaken_22 ?_
    refine r_iload_n (x := v2) C dX4_findTaken_25 rfl ?_
    refine r_iload_n (x := v1) C dX4_findTaken_26 rfl ?_
    refine r_aload_n (x := (a b)) C dX4_findTaken_27 rfl ?_
    refine r_iload_n (x := v2) C dX4_findTaken_28 rfl ?_
    refine r_callVi C [.int v2] [.int v1, .int v2, .ref (a (b + 5))] (b := b) (by omega) (fX_vine hb) rfl rfl zc_X4_94 zB_X4_namedFrom ⟨rfl, rfl, by decide, by decide⟩ (fun out h => c_X4_namedFrom C.2.2.2.2.2.2.2.1 hb h) rfl rfl (Nat.le_of_ble_eq_true rfl) dX4_findTaken_29 h (fun x16 σ15 h => ?_)
    refine r_iconst (v := -1) C dX4_findTaken_32 (by decide) ?_
    refine r_ixor C dX4_findTaken_33 ?_
    refine r_iand C dX4_findTaken_34 ?_
    refine r_callNi C [.int (v1 &&& (znt x16))] [.int v2, .ref (a (b + 5))] "VineRows" (List.mem_cons_of_mem _ List.mem_cons_self) zc_X4_97 zB_X5_leastOf ⟨rfl, rfl, by decide, by decide⟩ (fun out h => c_X5_leastOf C.2.2.2.2.2.2.2.1  h) rfl rfl (Nat.le_of_ble_eq_true rfl) dX4_findTaken_35 h (fun x18 σ17 h => ?_)
    refine r_iast (t0 := 0) C (b + 5) (aX_v5 hb) rfl dX4_findTaken_38 h (fun σ19 h => ?_)
    refine r_iload_n (x := v1) C dX4_findTaken_39 rfl ?_
    refine r_iconst (v := 1) C dX4_findTaken_40 (by decide) ?_
    refine r_aload_n (x := (a b)) C dX4_findTaken_41 rfl ?_
    refine gf_X4_26 C hb dX4_findTaken_42 ?_
    refine r_iload_n (x := v2) C dX4_findTaken_45 rfl ?_
    refine r_iald (t0 := 0) C (b + 5) (aX_v5 hb) rfl dX4_findTaken_46 h (fun x20 h => ?_)
    refine r_ishl C dX4_findTaken_47 ?_
    refine r_iconst (v := -1) C dX4_findTaken_48 (by decide) ?_
    refine r_ixor C dX4_findTaken_49 ?_
    refine r_iand C dX4_findTaken_50 ?_
    refine r_nm h (fun x21 h => ?_)
    refine r_istore_n (lv' := [some (.ref (a b)), some (.int x21), some (.int v2)]) C dX4_findTaken_51 (by decide) rfl rfl ?_
    refine r_gen h (fun x22 ex22 h => ?_)
    refine r_iinc (x := v2) (v := x22) (lv' := [some (.ref (a b)), some (.int x21), some (.int x22)]) C dX4_findTaken_52 rfl (by rw [← ex22]; rfl) (by decide) rfl rfl ?_
    clear ex22
    refine r_goto (tgt := 11) C dX4_findTaken_55 (by decide) ?_
    exact r_le (lv' := [some (.ref (a b)), some (.int x21), some (.int x22)]) ⟨rfl, rfl, rfl, trivial⟩ (hK11 x21 x22 σ19 h)
set_option maxRecDepth 20000 in
theorem tL_X4_findTaken_11 {p : Program} {l : Launch} {e : Env} {s : State} {m : MethodId} {args : Array Value} {below : List Frame} {meth : Method} {c : Code} {D : va_G} {a : Nat → Nat} {cI cO cA : ClassId} {o : zSt} (C : zC p s m args meth c D (ztys cI cO cA) 51 a cX4_findTaken 3 RX4 none) {b : Nat} (hb : b = 10 ∨ b = 27)  (v1 : Int32) (v2 : Int32) (σ : zSt) (h : L_X4_findTaken_11 b  v1 v2 σ = some o) : zV p l e rm_X4_findTaken s m args below meth c D 51 a (fX a cI cO cA) 3 (zQv below args s D 51 a (fX a cI cO cA) o) σ 11 [some (.ref (a b)), some (.int v1), some (.int v2)] [] := by
  unfold L_X4_findTaken_11 at h
  refine zloop_ind (G := fun x => zV p l e rm_X4_findTaken s m args below meth c D 51 a (fX a cI cO cA) 3 (zQv below args s D 51 a (fX a cI cO cA) o) x.2.2 11 [some (.ref (a b)), some (.int x.1), some (.int x.2.1)] []) ?_ zFU _ h
  intro rec hr x h
  exact tB_X4_findTaken_11 C hb  (fun v1 v2 σ => hr (v1, v2, σ)) _ _ _ h
set_option maxRecDepth 20000 in
theorem c_X4_findTaken {l : Launch} {D : va_G} {a : Nat → Nat} {cI cO cA : ClassId} (hinj : ∀ i j, i < 51 → j < 51 → a i = a j → i = j) {b : Nat} (hb : b = 10 ∨ b = 27) {σ : zSt} {o : zSt} (h : M_X4_findTaken b σ = some o) : zMv l D (ztys cI cO cA) 51 a (fX a cI cO cA) yX4_findTaken cX4_findTaken 3 none rm_X4_findTaken [.ref (a b)] σ o := by
  unfold M_X4_findTaken at h
  refine zmetv (own := RX4) [some (.ref (a b)), none, none] (by decide) rfl hinj (Nat.le_of_ble_eq_true rfl) rfl (fun p e s m args below meth c C => ?_)
  refine r_iconst (v := 1) C dX4_findTaken_0 (by decide) ?_
  refine r_aload_n (x := (a b)) C dX4_findTaken_1 rfl ?_
  refine gf_X4_38 C hb dX4_findTaken_2 h (fun x1 h => ?_)
  refine r_ishl C dX4_findTaken_5 ?_
  refine r_iconst (v := 1) C dX4_findTaken_6 (by decide) ?_
  refine r_isub C dX4_findTaken_7 ?_
  refine r_nm h (fun x2 h => ?_)
  refine r_istore_n (lv' := [some (.ref (a b)), some (.int x2), none]) C dX4_findTaken_8 (by decide) rfl rfl ?_
  refine r_iconst (v := 0) C dX4_findTaken_9 (by decide) ?_
  refine r_istore_n (lv' := [some (.ref (a b)), some (.int x2), some (.int (0 : Int32))]) C dX4_findTaken_10 (by decide) rfl rfl ?_
  exact r_le (lv' := [some (.ref (a b)), some (.int x2), some (.int (0 : Int32))]) ⟨rfl, rfl, rfl, trivial⟩ (tL_X4_findTaken_11 C hb x2 (0 : Int32) σ h)
end
