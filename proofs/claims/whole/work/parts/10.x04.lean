noncomputable section
/-! VineRows.middle -/
abbrev rm_X5_middle : Room := { frames := 3, cells := 0, slots := 0, locals := 68 }
def M_X5_middle (p1 : Int32) (σ : zSt) : Option (Int32 × zSt) := (if p1 < 0 then some ((-2 : Int32), σ) else (if p1 ≤ (1 : Int32) then znm (σ 10 0) (fun x1 => (if x1 = 0 then some ((-3 : Int32), σ) else (if p1 = 0 then zbd (M_X4_middles 10 σ) (fun x5 σ4 => some (x5, σ4)) else zbd (M_X4_longest 10 σ) (fun x3 σ2 => some (x3, σ2))))) else some ((-2 : Int32), σ)))
set_option maxRecDepth 20000 in
theorem c_X5_middle {l : Launch} {D : va_G} {a : Nat → Nat} {cI cO cA : ClassId} (hinj : ∀ i j, i < 51 → j < 51 → a i = a j → i = j) {p1 : Int32} {σ : zSt} {o : Int32 × zSt} (h : M_X5_middle p1 σ = some o) : zMi l D (ztys cI cO cA) 51 a (fX a cI cO cA) yX5_middle cX5_middle 2 (some .int) rm_X5_middle [.ref (a 0), .int p1] σ o := by
  unfold M_X5_middle at h
  refine zmeti (own := RX5) [some (.ref (a 0)), some (.int p1)] (by decide) rfl hinj (Nat.le_of_ble_eq_true rfl) rfl (fun p e s m args below meth c C => ?_)
  refine r_iload_n (x := p1) C dX5_middle_0 rfl ?_
  refine r_if_lt (tgt := 9) C dX5_middle_1 (by decide) h (fun h => ?_) (fun h => ?_)
  · refine r_bipush (v := -2) C dX5_middle_9 (by decide) ?_
    exact r_iret C dX5_middle_11 h
  · refine r_iload_n (x := p1) C dX5_middle_4 rfl ?_
    refine r_iconst (v := 1) C dX5_middle_5 (by decide) ?_
    refine r_icmp_le (tgt := 12) C dX5_middle_6 (by decide) h (fun h => ?_) (fun h => ?_)
    · refine r_aload_n (x := (a 0)) C dX5_middle_12 rfl ?_
      refine gf_X5_14 C dX5_middle_13 ?_
      refine gf_X5_80 C (Or.inl rfl) dX5_middle_16 h (fun x1 h => ?_)
      refine r_if_ne (tgt := 25) C dX5_middle_19 (by decide) h (fun h => ?_) (fun h => ?_)
      · refine r_iload_n (x := p1) C dX5_middle_25 rfl ?_
        refine r_if_ne (tgt := 39) C dX5_middle_26 (by decide) h (fun h => ?_) (fun h => ?_)
        · refine r_aload_n (x := (a 0)) C dX5_middle_39 rfl ?_
          refine gf_X5_14 C dX5_middle_40 ?_
          refine r_callVi C [] [] (b := 10) (by decide) (fX_vine (Or.inl rfl)) rfl rfl zc_X5_145 zB_X4_longest ⟨rfl, rfl, by decide, by decide⟩ (fun out h => c_X4_longest C.2.2.2.2.2.2.2.1 (Or.inl rfl) h) rfl rfl (Nat.le_of_ble_eq_true rfl) dX5_middle_43 h (fun x3 σ2 h => ?_)
          exact r_iret C dX5_middle_46 h
        · refine r_aload_n (x := (a 0)) C dX5_middle_29 rfl ?_
          refine gf_X5_14 C dX5_middle_30 ?_
          refine r_callVi C [] [] (b := 10) (by decide) (fX_vine (Or.inl rfl)) rfl rfl zc_X5_166 zB_X4_middles ⟨rfl, rfl, by decide, by decide⟩ (fun out h => c_X4_middles C.2.2.2.2.2.2.2.1 (Or.inl rfl) h) rfl rfl (Nat.le_of_ble_eq_true rfl) dX5_middle_33 h (fun x5 σ4 h => ?_)
          refine r_goto (tgt := 46) C dX5_middle_36 (by decide) ?_
          exact r_iret C dX5_middle_46 h
      · refine r_bipush (v := -3) C dX5_middle_22 (by decide) ?_
        exact r_iret C dX5_middle_24 h
    · refine r_bipush (v := -2) C dX5_middle_9 (by decide) ?_
      exact r_iret C dX5_middle_11 h
/-! VineRows.number -/
abbrev rm_X5_number : Room := { frames := 4, cells := 0, slots := 0, locals := 86 }
def M_X5_number (σ : zSt) : Option (Int32 × zSt) := znm (σ 10 0) (fun x1 => (if x1 = 0 then some ((-3 : Int32), σ) else zbd (M_X4_numberOfRow 10 σ) (fun x3 σ2 => some (x3, σ2))))
set_option maxRecDepth 20000 in
theorem c_X5_number {l : Launch} {D : va_G} {a : Nat → Nat} {cI cO cA : ClassId} (hinj : ∀ i j, i < 51 → j < 51 → a i = a j → i = j) {σ : zSt} {o : Int32 × zSt} (h : M_X5_number  σ = some o) : zMi l D (ztys cI cO cA) 51 a (fX a cI cO cA) yX5_number cX5_number 1 (some .int) rm_X5_number [.ref (a 0)] σ o := by
  unfold M_X5_number at h
  refine zmeti (own := RX5) [some (.ref (a 0))] (by decide) rfl hinj (Nat.le_of_ble_eq_true rfl) rfl (fun p e s m args below meth c C => ?_)
  refine r_aload_n (x := (a 0)) C dX5_number_0 rfl ?_
  refine gf_X5_14 C dX5_number_1 ?_
  refine gf_X5_80 C (Or.inl rfl) dX5_number_4 h (fun x1 h => ?_)
  refine r_if_ne (tgt := 15) C dX5_number_7 (by decide) h (fun h => ?_) (fun h => ?_)
  · refine r_aload_n (x := (a 0)) C dX5_number_15 rfl ?_
    refine gf_X5_14 C dX5_number_16 ?_
    refine r_callVi C [] [] (b := 10) (by decide) (fX_vine (Or.inl rfl)) rfl rfl zc_X5_149 zB_X4_numberOfRow ⟨rfl, rfl, by decide, by decide⟩ (fun out h => c_X4_numberOfRow C.2.2.2.2.2.2.2.1 (Or.inl rfl) h) rfl rfl (Nat.le_of_ble_eq_true rfl) dX5_number_19 h (fun x3 σ2 h => ?_)
    exact r_iret C dX5_number_22 h
  · refine r_bipush (v := -3) C dX5_number_10 (by decide) ?_
    refine r_goto (tgt := 22) C dX5_number_12 (by decide) ?_
    exact r_iret C dX5_number_22 h
/-! VineRows.alike -/
abbrev rm_X5_alike : Room := { frames := 4, cells := 0, slots := 0, locals := 98 }
def M_X5_alike (σ : zSt) : Option (Int32 × zSt) := znm (σ 10 0) (fun x1 => (if x1 = 0 then some ((-3 : Int32), σ) else zbd (M_X1_sameShape 10 σ) (fun x3 σ2 => some (x3, σ2))))
set_option maxRecDepth 20000 in
theorem c_X5_alike {l : Launch} {D : va_G} {a : Nat → Nat} {cI cO cA : ClassId} (hinj : ∀ i j, i < 51 → j < 51 → a i = a j → i = j) {σ : zSt} {o : Int32 × zSt} (h : M_X5_alike  σ = some o) : zMi l D (ztys cI cO cA) 51 a (fX a cI cO cA) yX5_alike cX5_alike 1 (some .int) rm_X5_alike [.ref (a 0)] σ o := by
  unfold M_X5_alike at h
  refine zmeti (own := RX5) [some (.ref (a 0))] (by decide) rfl hinj (Nat.le_of_ble_eq_true rfl) rfl (fun p e s m args below meth c C => ?_)
  refine r_aload_n (x := (a 0)) C dX5_alike_0 rfl ?_
  refine gf_X5_14 C dX5_alike_1 ?_
  refine gf_X5_80 C (Or.inl rfl) dX5_alike_4 h (fun x1 h => ?_)
  refine r_if_ne (tgt := 15) C dX5_alike_7 (by decide) h (fun h => ?_) (fun h => ?_)
  · refine r_aload_n (x := (a 0)) C dX5_alike_15 rfl ?_
    refine gf_X5_24 C dX5_alike_16 ?_
    refine r_aload_n (x := (a 0)) C dX5_alike_19 rfl ?_
    refine gf_X5_14 C dX5_alike_20 ?_
    refine r_callVi C [.ref (a 10)] [] (b := 44) (by decide) fX_44 rfl rfl zc_X5_169 zB_X1_sameShape ⟨rfl, rfl, by decide, by decide⟩ (fun out h => c_X1_sameShape C.2.2.2.2.2.2.2.1 (Or.inl rfl) h) rfl rfl (Nat.le_of_ble_eq_true rfl) dX5_alike_23 h (fun x3 σ2 h => ?_)
    exact r_iret C dX5_alike_26 h
  · refine r_bipush (v := -3) C dX5_alike_10 (by decide) ?_
    refine r_goto (tgt := 26) C dX5_alike_12 (by decide) ?_
    exact r_iret C dX5_alike_26 h
/-! VineRows.pairs -/
abbrev rm_X5_pairs : Room := { frames := 4, cells := 0, slots := 0, locals := 88 }
def M_X5_pairs (σ : zSt) : Option (Int32 × zSt) := znm (σ 10 0) (fun x1 => (if x1 = 0 then some ((-3 : Int32), σ) else zbd (M_X4_twigsApart 10 σ) (fun x3 σ2 => some (x3, σ2))))
set_option maxRecDepth 20000 in
theorem c_X5_pairs {l : Launch} {D : va_G} {a : Nat → Nat} {cI cO cA : ClassId} (hinj : ∀ i j, i < 51 → j < 51 → a i = a j → i = j) {σ : zSt} {o : Int32 × zSt} (h : M_X5_pairs  σ = some o) : zMi l D (ztys cI cO cA) 51 a (fX a cI cO cA) yX5_pairs cX5_pairs 1 (some .int) rm_X5_pairs [.ref (a 0)] σ o := by
  unfold M_X5_pairs at h
  refine zmeti (own := RX5) [some (.ref (a 0))] (by decide) rfl hinj (Nat.le_of_ble_eq_true rfl) rfl (fun p e s m args below meth c C => ?_)
  refine r_aload_n (x := (a 0)) C dX5_pairs_0 rfl ?_
  refine gf_X5_14 C dX5_pairs_1 ?_
  refine gf_X5_80 C (Or.inl rfl) dX5_pairs_4 h (fun x1 h => ?_)
  refine r_if_ne (tgt := 15) C dX5_pairs_7 (by decide) h (fun h => ?_) (fun h => ?_)
  · refine r_aload_n (x := (a 0)) C dX5_pairs_15 rfl ?_
    refine gf_X5_14 C dX5_pairs_16 ?_
    refine r_callVi C [] [] (b := 10) (by decide) (fX_vine (Or.inl rfl)) rfl rfl zc_X5_173 zB_X4_twigsApart ⟨rfl, rfl, by decide, by decide⟩ (fun out h => c_X4_twigsApart C.2.2.2.2.2.2.2.1 (Or.inl rfl) h) rfl rfl (Nat.le_of_ble_eq_true rfl) dX5_pairs_19 h (fun x3 σ2 h => ?_)
    exact r_iret C dX5_pairs_22 h
  · refine r_bipush (v := -3) C dX5_pairs_10 (by decide) ?_
    refine r_goto (tgt := 22) C dX5_pairs_12 (by decide) ?_
    exact r_iret C dX5_pairs_22 h
/-! VineRows.loners -/
abbrev rm_X5_loners : Room := { frames := 4, cells := 0, slots := 0, locals := 87 }
def M_X5_loners (p1 : Int32) (σ : zSt) : Option (Int32 × zSt) := (if p1 < 0 then some ((-2 : Int32), σ) else (if p1 ≤ (1 : Int32) then znm (σ 10 0) (fun x1 => (if x1 = 0 then some ((-3 : Int32), σ) else zbd (M_X4_bestApart 10 σ) (fun x3 σ2 => zdv ((x3 + (256 : Int32)) - (1 : Int32)) (256 : Int32) (fun x4 => (if p1 = 0 then some (x4, σ2) else some (((x4 * (256 : Int32)) - x3), σ2)))))) else some ((-2 : Int32), σ)))
set_option maxRecDepth 20000 in
theorem c_X5_loners {l : Launch} {D : va_G} {a : Nat → Nat} {cI cO cA : ClassId} (hinj : ∀ i j, i < 51 → j < 51 → a i = a j → i = j) {p1 : Int32} {σ : zSt} {o : Int32 × zSt} (h : M_X5_loners p1 σ = some o) : zMi l D (ztys cI cO cA) 51 a (fX a cI cO cA) yX5_loners cX5_loners 4 (some .int) rm_X5_loners [.ref (a 0), .int p1] σ o := by
  unfold M_X5_loners at h
  refine zmeti (own := RX5) [some (.ref (a 0)), some (.int p1), none, none] (by decide) rfl hinj (Nat.le_of_ble_eq_true rfl) rfl (fun p e s m args below meth c C => ?_)
  refine r_iload_n (x := p1) C dX5_loners_0 rfl ?_
  refine r_if_lt (tgt := 9) C dX5_loners_1 (by decide) h (fun h => ?_) (fun h => ?_)
  · refine r_bipush (v := -2) C dX5_loners_9 (by decide) ?_
    exact r_iret C dX5_loners_11 h
  · refine r_iload_n (x := p1) C dX5_loners_4 rfl ?_
    refine r_iconst (v := 1) C dX5_loners_5 (by decide) ?_
    refine r_icmp_le (tgt := 12) C dX5_loners_6 (by decide) h (fun h => ?_) (fun h => ?_)
    · refine r_aload_n (x := (a 0)) C dX5_loners_12 rfl ?_
      refine gf_X5_14 C dX5_loners_13 ?_
      refine gf_X5_80 C (Or.inl rfl) dX5_loners_16 h (fun x1 h => ?_)
      refine r_if_ne (tgt := 25) C dX5_loners_19 (by decide) h (fun h => ?_) (fun h => ?_)
      · refine r_aload_n (x := (a 0)) C dX5_loners_25 rfl ?_
        refine gf_X5_14 C dX5_loners_26 ?_
        refine r_callVi C [] [] (b := 10) (by decide) (fX_vine (Or.inl rfl)) rfl rfl zc_X5_176 zB_X4_bestApart ⟨rfl, rfl, by decide, by decide⟩ (fun out h => c_X4_bestApart C.2.2.2.2.2.2.2.1 (Or.inl rfl) h) rfl rfl (Nat.le_of_ble_eq_true rfl) dX5_loners_29 h (fun x3 σ2 h => ?_)
        refine r_istore_n (lv' := [some (.ref (a 0)), some (.int p1), some (.int x3), none]) C dX5_loners_32 (by decide) rfl rfl ?_
        refine r_iload_n (x := x3) C dX5_loners_33 rfl ?_
        refine r_sipush (v := 256) C dX5_loners_34 (by decide) ?_
        refine r_iadd C dX5_loners_37 ?_
        refine r_iconst (v := 1) C dX5_loners_38 (by decide) ?_
        refine r_isub C dX5_loners_39 ?_
        refine r_sipush (v := 256) C dX5_loners_40 (by decide) ?_
        refine r_idiv C dX5_loners_43 h (fun x4 h => ?_)
        refine r_istore_n (lv' := [some (.ref (a 0)), some (.int p1), some (.int x3), some (.int x4)]) C dX5_loners_44 (by decide) rfl rfl ?_
        refine r_iload_n (x := p1) C dX5_loners_45 rfl ?_
        refine r_if_ne (tgt := 53) C dX5_loners_46 (by decide) h (fun h => ?_) (fun h => ?_)
        · refine r_iload_n (x := x4) C dX5_loners_53 rfl ?_
          refine r_sipush (v := 256) C dX5_loners_54 (by decide) ?_
          refine r_imul C dX5_loners_57 ?_
          refine r_iload_n (x := x3) C dX5_loners_58 rfl ?_
          refine r_isub C dX5_loners_59 ?_
          exact r_iret C dX5_loners_60 h
        · refine r_iload_n (x := x4) C dX5_loners_49 rfl ?_
          refine r_goto (tgt := 60) C dX5_loners_50 (by decide) ?_
          exact r_iret C dX5_loners_60 h
      · refine r_bipush (v := -3) C dX5_loners_22 (by decide) ?_
        exact r_iret C dX5_loners_24 h
    · refine r_bipush (v := -2) C dX5_loners_9 (by decide) ?_
      exact r_iret C dX5_loners_11 h
/-! VineRows.part -/
abbrev rm_X5_part : Room := { frames := 2, cells := 0, slots := 0, locals := 42 }
def B_X5_part_90 (p1 : Int32) (p2 : Int32) (K52 : (Int32 → Int32 → zSt → Option (Int32 × zSt))) (v3 : Int32) (v4 : Int32) (σ : zSt) : Option (Int32 × zSt) := znm (v4 + (1 : Int32)) (fun x13 => K52 v3 x13 σ)
def B_X5_part_52 (p1 : Int32) (p2 : Int32) (K52 : (Int32 → Int32 → zSt → Option (Int32 × zSt))) (v3 : Int32) (v4 : Int32) (σ : zSt) : Option (Int32 × zSt) := znm (σ 10 0) (fun x7 => (if x7 ≤ v4 then some (v3, σ) else zbd (M_X4_isOnWay 10 v4 p2 p1 σ) (fun x9 σ8 => (if x9 = 0 then B_X5_part_90 p1 p2 K52 v3 v4 σ8 else zbd (M_X4_worth 10 v4 σ8) (fun x11 σ10 => znm ((v3 + x11)) (fun x12 => B_X5_part_90 p1 p2 K52 x12 v4 σ10))))))
def L_X5_part_52 (p1 : Int32) (p2 : Int32) (v3 : Int32) (v4 : Int32) (σ : zSt) : Option (Int32 × zSt) := zloop (fun (rec : Int32 × Int32 × zSt → Option (Int32 × zSt)) x => B_X5_part_52 p1 p2  (fun v3 v4 σ => rec (v3, v4, σ)) x.1 x.2.1 x.2.2) zFU (v3, v4, σ)
def M_X5_part (p1 : Int32) (p2 : Int32) (σ : zSt) : Option (Int32 × zSt) := zbd (M_X4_isPost 10 p1 σ) (fun x2 σ1 => (if x2 = 0 then some ((-1 : Int32), σ1) else zbd (M_X4_isPost 10 p2 σ1) (fun x4 σ3 => (if x4 = 0 then some ((-1 : Int32), σ3) else (if p1 = p2 then some ((-1 : Int32), σ3) else zgr p1 8 (10 + 9) (fun q5 => zga (σ3 q5) p2 8 (fun x6 => (if x6 = (1 : Int32) then L_X5_part_52 p1 p2 (0 : Int32) (0 : Int32) σ3 else some ((-3 : Int32), σ3)))))))))
set_option maxRecDepth 20000 in
theorem tB_X5_part_90 {p : Program} {l : Launch} {e : Env} {s : State} {m : MethodId} {args : Array Value} {below : List Frame} {meth : Method} {c : Code} {D : va_G} {a : Nat → Nat} {cI cO cA : ClassId} {o : Int32 × zSt} (C : zC p s m args meth c D (ztys cI cO cA) 51 a cX5_part 5 RX5 (some .int)) {p1 : Int32} {p2 : Int32} {K52 : (Int32 → Int32 → zSt → Option (Int32 × zSt))} (hK52 : ∀ (v3 : Int32) (v4 : Int32) (σ : zSt), K52 v3 v4 σ = some o → zV p l e rm_X5_part s m args below meth c D 51 a (fX a cI cO cA) 5 (zQi below args s D 51 a (fX a cI cO cA) o) σ 52 [some (.ref (a 0)), some (.int p1), some (.int p2), some (.int v3), some (.int v4)] []) (v3 : Int32) (v4 : Int32) (σ : zSt) (h : B_X5_part_90 p1 p2 K52 v3 v4 σ = some o) : zV p l e rm_X5_part s m args below meth c D 51 a (fX a cI cO cA) 5 (zQi below args s D 51 a (fX a cI cO cA) o) σ 90 [some (.ref (a 0)), some (.int p1), some (.int p2), some (.int v3), some (.int v4)] [] := by
  unfold B_X5_part_90 at h
  refine r_gen h (fun x13 ex13 h => ?_)
  refine r_iinc (x := v4) (v := x13) (lv' := [some (.ref (a 0)), some (.int p1), some (.int p2), some (.int v3), some (.int x13)]) C dX5_part_90 rfl (by rw [← ex13]; rfl) (by decide) rfl rfl ?_
  clear ex13
  refine r_goto (tgt := 52) C dX5_part_93 (by decide) ?_
  exact r_le (lv' := [some (.ref (a 0)), some (.int p1), some (.int p2), some (.int v3), some (.int x13)]) ⟨rfl, rfl, rfl, rfl, rfl, trivial⟩ (hK52 v3 x13 σ h)
set_option maxRecDepth 20000 in
theorem tB_X5_part_52 {p : Program} {l : Launch} {e : Env} {s : State} {m : MethodId} {args : Array Value} {below : List Frame} {meth : Method} {c : Code} {D : va_G} {a : Nat → Nat} {cI cO cA : ClassId} {o : Int32 × zSt} (C : zC p s m args meth c D (ztys cI cO cA) 51 a cX5_part 5 RX5 (some .int)) {p1 : Int32} {p2 : Int32} {K52 : (Int32 → Int32 → zSt → Option (Int32 × zSt))} (hK52 : ∀ (v3 : Int32) (v4 : Int32) (σ : zSt), K52 v3 v4 σ = some o → zV p l e rm_X5_part s m args below meth c D 51 a (fX a cI cO cA) 5 (zQi below args s D 51 a (fX a cI cO cA) o) σ 52 [some (.ref (a 0)), some (.int p1), some (.int p2), some (.int v3), some (.int v4)] []) (v3 : Int32) (v4 : Int32) (σ : zSt) (h : B_X5_part_52 p1 p2 K52 v3 v4 σ = some o) : zV p l e rm_X5_part s m args below meth c D 51 a (fX a cI cO cA) 5 (zQi below args s D 51 a (fX a cI cO cA) o) σ 52 [some (.ref (a 0)), some (.int p1), some (.int p2), some (.int v3), some (.int v4)] [] := by
  unfold B_X5_part_52 at h
  refine r_iload (x := v4) C dX5_part_52 rfl ?_
  refine r_aload_n (x := (a 0)) C dX5_part_54 rfl ?_
  refine gf_X5_14 C dX5_part_55 ?_
  refine gf_X5_80 C (Or.inl rfl) dX5_part_58 h (fun x7 h => ?_)
  refine r_icmp_ge (tgt := 96) C dX5_part_61 (by decide) h (fun h => ?_) (fun h => ?_)
  · refine r_iload_n (x := v3) C dX5_part_96 rfl ?_
    exact r_iret C dX5_part_97 h
  · refine r_aload_n (x := (a 0)) C dX5_part_64 rfl ?_
    refine gf_X5_14 C dX5_part_65 ?_
    refine r_iload (x := v4) C dX5_part_68 rfl ?_
    refine r_iload_n (x := p2) C dX5_part_70 rfl ?_
    refine r_iload_n (x := p1) C dX5_part_71 rfl ?_
    refine r_callVi C [.int v4, .int p2, .int p1] [] (b := 10) (by decide) (fX_vine (Or.inl rfl)) rfl rfl zc_X5_162 zB_X4_isOnWay ⟨rfl, rfl, by decide, by decide⟩ (fun out h => c_X4_isOnWay C.2.2.2.2.2.2.2.1 (Or.inl rfl) h) rfl rfl (Nat.le_of_ble_eq_true rfl) dX5_part_72 h (fun x9 σ8 h => ?_)
    refine r_if_eq (tgt := 90) C dX5_part_75 (by decide) h (fun h => ?_) (fun h => ?_)
    · exact r_le (lv' := [some (.ref (a 0)), some (.int p1), some (.int p2), some (.int v3), some (.int v4)]) ⟨rfl, rfl, rfl, rfl, rfl, trivial⟩ (tB_X5_part_90 C (K52 := K52) hK52 v3 v4 σ8 h)
    · refine r_iload_n (x := v3) C dX5_part_78 rfl ?_
      refine r_aload_n (x := (a 0)) C dX5_part_79 rfl ?_
      refine gf_X5_14 C dX5_part_80 ?_
      refine r_iload (x := v4) C dX5_part_83 rfl ?_
      refine r_callVi C [.int v4] [.int v3] (b := 10) (by decide) (fX_vine (Or.inl rfl)) rfl rfl zc_X5_93 zB_X4_worth ⟨rfl, rfl, by decide, by decide⟩ (fun out h => c_X4_worth C.2.2.2.2.2.2.2.1 (Or.inl rfl) h) rfl rfl (Nat.le_of_ble_eq_true rfl) dX5_part_85 h (fun x11 σ10 h => ?_)
      refine r_iadd C dX5_part_88 ?_
      refine r_nm h (fun x12 h => ?_)
      refine r_istore_n (lv' := [some (.ref (a 0)), some (.int p1), some (.int p2), some (.int x12), some (.int v4)]) C dX5_part_89 (by decide) rfl rfl ?_
      exact r_le (lv' := [some (.ref (a 0)), some (.int p1), some (.int p2), some (.int x12), some (.int v4)]) ⟨rfl, rfl, rfl, rfl, rfl, trivial⟩ (tB_X5_part_90 C (K52 := K52) hK52 x12 v4 σ10 h)
set_option maxRecDepth 20000 in
theorem tL_X5_part_52 {p : Program} {l : Launch} {e : Env} {s : State} {m : MethodId} {args : Array Value} {below : List Frame} {meth : Method} {c : Code} {D : va_G} {a : Nat → Nat} {cI cO cA : ClassId} {o : Int32 × zSt} (C : zC p s m args meth c D (ztys cI cO cA) 51 a cX5_part 5 RX5 (some .int)) {p1 : Int32} {p2 : Int32}  (v3 : Int32) (v4 : Int32) (σ : zSt) (h : L_X5_part_52 p1 p2  v3 v4 σ = some o) : zV p l e rm_X5_part s m args below meth c D 51 a (fX a cI cO cA) 5 (zQi below args s D 51 a (fX a cI cO cA) o) σ 52 [some (.ref (a 0)), some (.int p1), some (.int p2), some (.int v3), some (.int v4)] [] := by
  unfold L_X5_part_52 at h
  refine zloop_ind (G := fun x => zV p l e rm_X5_part s m args below meth c D 51 a (fX a cI cO cA) 5 (zQi below args s D 51 a (fX a cI cO cA) o) x.2.2 52 [some (.ref (a 0)), some (.int p1), some (.int p2), some (.int x.1), some (.int x.2.1)] []) ?_ zFU _ h
  intro rec hr x h
  exact tB_X5_part_52 C   (fun v3 v4 σ => hr (v3, v4, σ)) _ _ _ h
set_option maxRecDepth 20000 in
theorem c_X5_part {l : Launch} {D : va_G} {a : Nat → Nat} {cI cO cA : ClassId} (hinj : ∀ i j, i < 51 → j < 51 → a i = a j → i = j) {p1 : Int32} {p2 : Int32} {σ : zSt} {o : Int32 × zSt} (h : M_X5_part p1 p2 σ = some o) : zMi l D (ztys cI cO cA) 51 a (fX a cI cO cA) yX5_part cX5_part 5 (some .int) rm_X5_part [.ref (a 0), .int p1, .int p2] σ o := by
  unfold M_X5_part at h
  refine zmeti (own := RX5) [some (.ref (a 0)), some (.int p1), some (.int p2), none, none] (by decide) rfl hinj (Nat.le_of_ble_eq_true rfl) rfl (fun p e s m args below meth c C => ?_)
  refine r_aload_n (x := (a 0)) C dX5_part_0 rfl ?_
  refine gf_X5_14 C dX5_part_1 ?_
  refine r_iload_n (x := p1) C dX5_part_4 rfl ?_
  refine r_callVi C [.int p1] [] (b := 10) (by decide) (fX_vine (Or.inl rfl)) rfl rfl zc_X5_83 zB_X4_isPost ⟨rfl, rfl, by decide, by decide⟩ (fun out h => c_X4_isPost C.2.2.2.2.2.2.2.1 (Or.inl rfl) h) rfl rfl (Nat.le_of_ble_eq_true rfl) dX5_part_5 h (fun x2 σ1 h => ?_)
  refine r_if_eq (tgt := 27) C dX5_part_8 (by decide) h (fun h => ?_) (fun h => ?_)
  · refine r_iconst (v := -1) C dX5_part_27 (by decide) ?_
    exact r_iret C dX5_part_28 h
  · refine r_aload_n (x := (a 0)) C dX5_part_11 rfl ?_
    refine gf_X5_14 C dX5_part_12 ?_
    refine r_iload_n (x := p2) C dX5_part_15 rfl ?_
    refine r_callVi C [.int p2] [] (b := 10) (by decide) (fX_vine (Or.inl rfl)) rfl rfl zc_X5_83 zB_X4_isPost ⟨rfl, rfl, by decide, by decide⟩ (fun out h => c_X4_isPost C.2.2.2.2.2.2.2.1 (Or.inl rfl) h) rfl rfl (Nat.le_of_ble_eq_true rfl) dX5_part_16 h (fun x4 σ3 h => ?_)
    refine r_if_eq (tgt := 27) C dX5_part_19 (by decide) h (fun h => ?_) (fun h => ?_)
    · refine r_iconst (v := -1) C dX5_part_27 (by decide) ?_
      exact r_iret C dX5_part_28 h
    · refine r_iload_n (x := p1) C dX5_part_22 rfl ?_
      refine r_iload_n (x := p2) C dX5_part_23 rfl ?_
      refine r_icmp_ne (tgt := 29) C dX5_part_24 (by decide) h (fun h => ?_) (fun h => ?_)
      · refine r_aload_n (x := (a 0)) C dX5_part_29 rfl ?_
        refine gf_X5_14 C dX5_part_30 ?_
        refine gf_X5_158 C (Or.inl rfl) dX5_part_33 ?_
        refine r_iload_n (x := p1) C dX5_part_36 rfl ?_
        refine r_aald (t0 := 2) C (10 + 4) (aX_away (Or.inl rfl)) rfl rfl dX5_part_37 h (fun q5 hq5 lq5 h => ?_)
        refine r_iload_n (x := p2) C dX5_part_38 rfl ?_
        refine r_iald (t0 := 0) C q5 (aX_row (Or.inl rfl) hq5 lq5) rfl dX5_part_39 h (fun x6 h => ?_)
        refine r_iconst (v := 1) C dX5_part_40 (by decide) ?_
        refine r_icmp_eq (tgt := 47) C dX5_part_41 (by decide) h (fun h => ?_) (fun h => ?_)
        · refine r_iconst (v := 0) C dX5_part_47 (by decide) ?_
          refine r_istore_n (lv' := [some (.ref (a 0)), some (.int p1), some (.int p2), some (.int (0 : Int32)), none]) C dX5_part_48 (by decide) rfl rfl ?_
          refine r_iconst (v := 0) C dX5_part_49 (by decide) ?_
          refine r_istore (lv' := [some (.ref (a 0)), some (.int p1), some (.int p2), some (.int (0 : Int32)), some (.int (0 : Int32))]) C dX5_part_50 (by decide) rfl rfl ?_
          exact r_le (lv' := [some (.ref (a 0)), some (.int p1), some (.int p2), some (.int (0 : Int32)), some (.int (0 : Int32))]) ⟨rfl, rfl, rfl, rfl, rfl, trivial⟩ (tL_X5_part_52 C (0 : Int32) (0 : Int32) σ3 h)
        · refine r_bipush (v := -3) C dX5_part_44 (by decide) ?_
          exact r_iret C dX5_part_46 h
      · refine r_iconst (v := -1) C dX5_part_27 (by decide) ?_
        exact r_iret C dX5_part_28 h
/-! VineRows.reading -/
abbrev rm_X5_reading : Room := { frames := 1, cells := 0, slots := 0, locals := 23 }
def M_X5_reading (p1 : Int32) (p2 : Int32) (p3 : Int32) (σ : zSt) : Option (Int32 × zSt) := zbd (M_X4_isPost 10 p1 σ) (fun x2 σ1 => (if x2 = 0 then some ((-1 : Int32), σ1) else zbd (M_X4_isPost 10 p2 σ1) (fun x4 σ3 => (if x4 = 0 then some ((-1 : Int32), σ3) else (if p3 < 0 then some ((-2 : Int32), σ3) else (if p3 ≤ (200 : Int32) then znm (σ3 47 0) (fun x5 => (if x5 < (8 : Int32) then zbd (M_X0_take p1 p2 p3 σ3) (fun x7 σ6 => some (x7, σ6)) else some ((-4 : Int32), σ3))) else some ((-2 : Int32), σ3)))))))
set_option maxRecDepth 20000 in
theorem c_X5_reading {l : Launch} {D : va_G} {a : Nat → Nat} {cI cO cA : ClassId} (hinj : ∀ i j, i < 51 → j < 51 → a i = a j → i = j) {p1 : Int32} {p2 : Int32} {p3 : Int32} {σ : zSt} {o : Int32 × zSt} (h : M_X5_reading p1 p2 p3 σ = some o) : zMi l D (ztys cI cO cA) 51 a (fX a cI cO cA) yX5_reading cX5_reading 4 (some .int) rm_X5_reading [.ref (a 0), .int p1, .int p2, .int p3] σ o := by
  unfold M_X5_reading at h
  refine zmeti (own := RX5) [some (.ref (a 0)), some (.int p1), some (.int p2), some (.int p3)] (by decide) rfl hinj (Nat.le_of_ble_eq_true rfl) rfl (fun p e s m args below meth c C => ?_)
  refine r_aload_n (x := (a 0)) C dX5_reading_0 rfl ?_
  refine gf_X5_14 C dX5_reading_1 ?_
  refine r_iload_n (x := p1) C dX5_reading_4 rfl ?_
  refine r_callVi C [.int p1] [] (b := 10) (by decide) (fX_vine (Or.inl rfl)) rfl rfl zc_X5_83 zB_X4_isPost ⟨rfl, rfl, by decide, by decide⟩ (fun out h => c_X4_isPost C.2.2.2.2.2.2.2.1 (Or.inl rfl) h) rfl rfl (Nat.le_of_ble_eq_true rfl) dX5_reading_5 h (fun x2 σ1 h => ?_)
  refine r_if_eq (tgt := 22) C dX5_reading_8 (by decide) h (fun h => ?_) (fun h => ?_)
  · refine r_iconst (v := -1) C dX5_reading_22 (by decide) ?_
    exact r_iret C dX5_reading_23 h
  · refine r_aload_n (x := (a 0)) C dX5_reading_11 rfl ?_
    refine gf_X5_14 C dX5_reading_12 ?_
    refine r_iload_n (x := p2) C dX5_reading_15 rfl ?_
    refine r_callVi C [.int p2] [] (b := 10) (by decide) (fX_vine (Or.inl rfl)) rfl rfl zc_X5_83 zB_X4_isPost ⟨rfl, rfl, by decide, by decide⟩ (fun out h => c_X4_isPost C.2.2.2.2.2.2.2.1 (Or.inl rfl) h) rfl rfl (Nat.le_of_ble_eq_true rfl) dX5_reading_16 h (fun x4 σ3 h => ?_)
    refine r_if_ne (tgt := 24) C dX5_reading_19 (by decide) h (fun h => ?_) (fun h => ?_)
    · refine r_iload_n (x := p3) C dX5_reading_24 rfl ?_
      refine r_if_lt (tgt := 35) C dX5_reading_25 (by decide) h (fun h => ?_) (fun h => ?_)
      · refine r_bipush (v := -2) C dX5_reading_35 (by decide) ?_
        exact r_iret C dX5_reading_37 h
      · refine r_iload_n (x := p3) C dX5_reading_28 rfl ?_
        refine r_sipush (v := 200) C dX5_reading_29 (by decide) ?_
        refine r_icmp_le (tgt := 38) C dX5_reading_32 (by decide) h (fun h => ?_) (fun h => ?_)
        · refine r_aload_n (x := (a 0)) C dX5_reading_38 rfl ?_
          refine gf_X5_31 C dX5_reading_39 ?_
          refine gf_X5_77 C dX5_reading_42 h (fun x5 h => ?_)
          refine r_bipush (v := 8) C dX5_reading_45 (by decide) ?_
          refine r_icmp_lt (tgt := 53) C dX5_reading_47 (by decide) h (fun h => ?_) (fun h => ?_)
          · refine r_aload_n (x := (a 0)) C dX5_reading_53 rfl ?_
            refine gf_X5_31 C dX5_reading_54 ?_
            refine r_iload_n (x := p1) C dX5_reading_57 rfl ?_
            refine r_iload_n (x := p2) C dX5_reading_58 rfl ?_
            refine r_iload_n (x := p3) C dX5_reading_59 rfl ?_
            refine r_callVi C [.int p1, .int p2, .int p3] [] (b := 47) (by decide) fX_47 rfl rfl zc_X5_179 zB_X0_take ⟨rfl, rfl, by decide, by decide⟩ (fun out h => c_X0_take C.2.2.2.2.2.2.2.1  h) rfl rfl (Nat.le_of_ble_eq_true rfl) dX5_reading_60 h (fun x7 σ6 h => ?_)
            exact r_iret C dX5_reading_63 h
          · refine r_bipush (v := -4) C dX5_reading_50 (by decide) ?_
            exact r_iret C dX5_reading_52 h
        · refine r_bipush (v := -2) C dX5_reading_35 (by decide) ?_
          exact r_iret C dX5_reading_37 h
    · refine r_iconst (v := -1) C dX5_reading_22 (by decide) ?_
      exact r_iret C dX5_reading_23 h
/-! VineRows.back -/
abbrev rm_X5_back : Room := { frames := 0, cells := 0, slots := 0, locals := 0 }
def M_X5_back (p1 : Int32) (σ : zSt) : Option (Int32 × zSt) := (if p1 < 0 then some ((-2 : Int32), σ) else znm (σ 47 0) (fun x1 => (if p1 ≤ x1 then znm (σ 47 0) (fun x2 => znm (zsu σ 47 (upd (σ 47) 0 (x2 - p1))) (fun σ3 => znm (σ3 47 0) (fun x4 => some (x4, σ3)))) else some ((-2 : Int32), σ))))
set_option maxRecDepth 20000 in
theorem c_X5_back {l : Launch} {D : va_G} {a : Nat → Nat} {cI cO cA : ClassId} (hinj : ∀ i j, i < 51 → j < 51 → a i = a j → i = j) {p1 : Int32} {σ : zSt} {o : Int32 × zSt} (h : M_X5_back p1 σ = some o) : zMi l D (ztys cI cO cA) 51 a (fX a cI cO cA) yX5_back cX5_back 2 (some .int) rm_X5_back [.ref (a 0), .int p1] σ o := by
  unfold M_X5_back at h
  refine zmeti (own := RX5) [some (.ref (a 0)), some (.int p1)] (by decide) rfl hinj (Nat.le_of_ble_eq_true rfl) rfl (fun p e s m args below meth c C => ?_)
  refine r_iload_n (x := p1) C dX5_back_0 rfl ?_
  refine r_if_lt (tgt := 15) C dX5_back_1 (by decide) h (fun h => ?_) (fun h => ?_)
  · refine r_bipush (v := -2) C dX5_back_15 (by decide) ?_
    exact r_iret C dX5_back_17 h
  · refine r_iload_n (x := p1) C dX5_back_4 rfl ?_
    refine r_aload_n (x := (a 0)) C dX5_back_5 rfl ?_
    refine gf_X5_31 C dX5_back_6 ?_
    refine gf_X5_77 C dX5_back_9 h (fun x1 h => ?_)
    refine r_icmp_le (tgt := 18) C dX5_back_12 (by decide) h (fun h => ?_) (fun h => ?_)
    · refine r_aload_n (x := (a 0)) C dX5_back_18 rfl ?_
      refine gf_X5_31 C dX5_back_19 ?_
      refine r_dup C dX5_back_22 rfl ?_
      refine gf_X5_77 C dX5_back_23 h (fun x2 h => ?_)
      refine r_iload_n (x := p1) C dX5_back_26 rfl ?_
      refine r_isub C dX5_back_27 ?_
      refine pf_X5_77 C dX5_back_28 h (fun σ3 h => ?_)
      refine r_aload_n (x := (a 0)) C dX5_back_31 rfl ?_
      refine gf_X5_31 C dX5_back_32 ?_
      refine gf_X5_77 C dX5_back_35 h (fun x4 h => ?_)
      exact r_iret C dX5_back_38 h
    · refine r_bipush (v := -2) C dX5_back_15 (by decide) ?_
      exact r_iret C dX5_back_17 h
/-! VineRows.loadings -/
abbrev rm_X5_loadings : Room := { frames := 4, cells := 0, slots := 0, locals := 93 }
def B_X5_loadings_68 (p1 : Int32) (K31 : (Int32 → Int32 → Int32 → zSt → Option (Int32 × zSt))) (v2 : Int32) (v3 : Int32) (v4 : Int32) (σ : zSt) : Option (Int32 × zSt) := znm (v4 + (1 : Int32)) (fun x8 => K31 v2 v3 x8 σ)
def B_X5_loadings_61 (p1 : Int32) (K31 : (Int32 → Int32 → Int32 → zSt → Option (Int32 × zSt))) (v2 : Int32) (v3 : Int32) (v4 : Int32) (σ : zSt) : Option (Int32 × zSt) := znm ((v3 ||| (zon v4))) (fun x9 => B_X5_loadings_68 p1 K31 v2 x9 v4 σ)
def B_X5_loadings_31 (p1 : Int32) (K31 : (Int32 → Int32 → Int32 → zSt → Option (Int32 × zSt))) (v2 : Int32) (v3 : Int32) (v4 : Int32) (σ : zSt) : Option (Int32 × zSt) := (if (9 : Int32) < v4 then some (v3, σ) else (if v2 = (-1 : Int32) then B_X5_loadings_61 p1 K31 v2 v3 v4 σ else zga (σ (10 + 1)) p1 8 (fun x5 => zbd (M_X5_worthOf x5 v4 σ) (fun x7 σ6 => (if v2 = x7 then B_X5_loadings_61 p1 K31 v2 v3 v4 σ6 else B_X5_loadings_68 p1 K31 v2 v3 v4 σ6)))))
def L_X5_loadings_31 (p1 : Int32) (v2 : Int32) (v3 : Int32) (v4 : Int32) (σ : zSt) : Option (Int32 × zSt) := zloop (fun (rec : Int32 × Int32 × Int32 × zSt → Option (Int32 × zSt)) x => B_X5_loadings_31 p1  (fun v2 v3 v4 σ => rec (v2, v3, v4, σ)) x.1 x.2.1 x.2.2.1 x.2.2.2) zFU (v2, v3, v4, σ)
def M_X5_loadings (p1 : Int32) (σ : zSt) : Option (Int32 × zSt) := zbd (M_X4_isPost 10 p1 σ) (fun x2 σ1 => (if x2 = 0 then some ((-1 : Int32), σ1) else zbd (M_X0_askedOf 10 p1 σ1) (fun x4 σ3 => L_X5_loadings_31 p1 x4 (0 : Int32) (0 : Int32) σ3)))
set_option maxRecDepth 20000 in
theorem tB_X5_loadings_68 {p : Program} {l : Launch} {e : Env} {s : State} {m : MethodId} {args : Array Value} {below : List Frame} {meth : Method} {c : Code} {D : va_G} {a : Nat → Nat} {cI cO cA : ClassId} {o : Int32 × zSt} (C : zC p s m args meth c D (ztys cI cO cA) 51 a cX5_loadings 5 RX5 (some .int)) {p1 : Int32} {K31 : (Int32 → Int32 → Int32 → zSt → Option (Int32 × zSt))} (hK31 : ∀ (v2 : Int32) (v3 : Int32) (v4 : Int32) (σ : zSt), K31 v2 v3 v4 σ = some o → zV p l e rm_X5_loadings s m args below meth c D 51 a (fX a cI cO cA) 5 (zQi below args s D 51 a (fX a cI cO cA) o) σ 31 [some (.ref (a 0)), some (.int p1), some (.int v2), some (.int v3), some (.int v4)] []) (v2 : Int32) (v3 : Int32) (v4 : Int32) (σ : zSt) (h : B_X5_loadings_68 p1 K31 v2 v3 v4 σ = some o) : zV p l e rm_X5_loadings s m args below meth c D 51 a (fX a cI cO cA) 5 (zQi below args s D 51 a (fX a cI cO cA) o) σ 68 [some (.ref (a 0)), some (.int p1), some (.int v2), some (.int v3), some (.int v4)] [] := by
  unfold B_X5_loadings_68 at h
  refine r_gen h (fun x8 ex8 h => ?_)
  refine r_iinc (x := v4) (v := x8) (lv' := [some (.ref (a 0)), some (.int p1), some (.int v2), some (.int v3), some (.int x8)]) C dX5_loadings_68 rfl (by rw [← ex8]; rfl) (by decide) rfl rfl ?_
  clear ex8
  refine r_goto (tgt := 31) C dX5_loadings_71 (by decide) ?_
  exact r_le (lv' := [some (.ref (a 0)), some (.int p1), some (.int v2), some (.int v3), some (.int x8)]) ⟨rfl, rfl, rfl, rfl, rfl, trivial⟩ (hK31 v2 v3 x8 σ h)
set_option maxRecDepth 20000 in
theorem tB_X5_loadings_61 {p : Program} {l : Launch} {e : Env} {s : State} {m : MethodId} {args : Array Value} {below : List Frame} {meth : Method} {c : Code} {D : va_G} {a : Nat → Nat} {cI cO cA : ClassId} {o : Int32 × zSt} (C : zC p s m args meth c D (ztys cI cO cA) 51 a cX5_loadings 5 RX5 (some .int)) {p1 : Int32} {K31 : (Int32 → Int32 → Int32 → zSt → Option (Int32 × zSt))} (hK31 : ∀ (v2 : Int32) (v3 : Int32) (v4 : Int32) (σ : zSt), K31 v2 v3 v4 σ = some o → zV p l e rm_X5_loadings s m args below meth c D 51 a (fX a cI cO cA) 5 (zQi below args s D 51 a (fX a cI cO cA) o) σ 31 [some (.ref (a 0)), some (.int p1), some (.int v2), some (.int v3), some (.int v4)] []) (v2 : Int32) (v3 : Int32) (v4 : Int32) (σ : zSt) (h : B_X5_loadings_61 p1 K31 v2 v3 v4 σ = some o) : zV p l e rm_X5_loadings s m args below meth c D 51 a (fX a cI cO cA) 5 (zQi below args s D 51 a (fX a cI cO cA) o) σ 61 [some (.ref (a 0)), some (.int p1), some (.int v2), some (.int v3), some (.int v4)] [] := by
  unfold B_X5_loadings_61 at h
  refine r_iload_n (x := v3) C dX5_loadings_61 rfl ?_
  refine r_iconst (v := 1) C dX5_loadings_62 (by decide) ?_
  refine r_iload (x := v4) C dX5_loadings_63 rfl ?_
  refine r_ishl C dX5_loadings_65 ?_
  refine r_ior C dX5_loadings_66 ?_
  refine r_nm h (fun x9 h => ?_)
  refine r_istore_n (lv' := [some (.ref (a 0)), some (.int p1), some (.int v2), some (.int x9), some (.int v4)]) C dX5_loadings_67 (by decide) rfl rfl ?_
  exact r_le (lv' := [some (.ref (a 0)), some (.int p1), some (.int v2), some (.int x9), some (.int v4)]) ⟨rfl, rfl, rfl, rfl, rfl, trivial⟩ (tB_X5_loadings_68 C (K31 := K31) hK31 v2 x9 v4 σ h)
set_option maxRecDepth 20000 in
theorem tB_X5_loadings_31 {p : Program} {l : Launch} {e : Env} {s : State} {m : MethodId} {args : Array Value} {below : List Frame} {meth : Method} {c : Code} {D : va_G} {a : Nat → Nat} {cI cO cA : ClassId} {o : Int32 × zSt} (C : zC p s m args meth c D (ztys cI cO cA) 51 a cX5_loadings 5 RX5 (some .int)) {p1 : Int32} {K31 : (Int32 → Int32 → Int32 → zSt → Option (Int32 × zSt))} (hK31 : ∀ (v2 : Int32) (v3 : Int32) (v4 : Int32) (σ : zSt), K31 v2 v3 v4 σ = some o → zV p l e rm_X5_loadings s m args below meth c D 51 a (fX a cI cO cA) 5 (zQi below args s D 51 a (fX a cI cO cA) o) σ 31 [some (.ref (a 0)), some (.int p1), some (.int v2), some (.int v3), some (.int v4)] []) (v2 : Int32) (v3 : Int32) (v4 : Int32) (σ : zSt) (h : B_X5_loadings_31 p1 K31 v2 v3 v4 σ = some o) : zV p l e rm_X5_loadings s m args below meth c D 51 a (fX a cI cO cA) 5 (zQi below args s D 51 a (fX a cI cO cA) o) σ 31 [some (.ref (a 0)), some (.int p1), some (.int v2), some (.int v3), some (.int v4)] [] := by
  unfold B_X5_loadings_31 at h
  refine r_iload (x := v4) C dX5_loadings_31 rfl ?_
  refine r_bipush (v := 9) C dX5_loadings_33 (by decide) ?_
  refine r_icmp_gt (tgt := 74) C dX5_loadings_35 (by decide) h (fun h => ?_) (fun h => ?_)
  · refine r_iload_n (x := v3) C dX5_loadings_74 rfl ?_
    exact r_iret C dX5_loadings_75 h
  · refine r_iload_n (x := v2) C dX5_loadings_38 rfl ?_
    refine r_iconst (v := -1) C dX5_loadings_39 (by decide) ?_
    refine r_icmp_eq (tgt := 61) C dX5_loadings_40 (by decide) h (fun h => ?_) (fun h => ?_)
    · exact r_le (lv' := [some (.ref (a 0)), some (.int p1), some (.int v2), some (.int v3), some (.int v4)]) ⟨rfl, rfl, rfl, rfl, rfl, trivial⟩ (tB_X5_loadings_61 C (K31 := K31) hK31 v2 v3 v4 σ h)
    · refine r_iload_n (x := v2) C dX5_loadings_43 rfl ?_
      refine r_aload_n (x := (a 0)) C dX5_loadings_44 rfl ?_
      refine gf_X5_14 C dX5_loadings_45 ?_
      refine gf_X5_86 C (Or.inl rfl) dX5_loadings_48 ?_
      refine r_iload_n (x := p1) C dX5_loadings_51 rfl ?_
      refine r_iald (t0 := 0) C (10 + 1) (aX_v1 (Or.inl rfl)) rfl dX5_loadings_52 h (fun x5 h => ?_)
      refine r_iload (x := v4) C dX5_loadings_53 rfl ?_
      refine r_callSi C [.int x5, .int v4] [.int v2] zc_X5_187 zB_X5_worthOf ⟨rfl, rfl, by decide, by decide⟩ (fun out h => c_X5_worthOf C.2.2.2.2.2.2.2.1  h) rfl rfl (Nat.le_of_ble_eq_true rfl) dX5_loadings_55 h (fun x7 σ6 h => ?_)
      refine r_icmp_ne (tgt := 68) C dX5_loadings_58 (by decide) h (fun h => ?_) (fun h => ?_)
      · exact r_le (lv' := [some (.ref (a 0)), some (.int p1), some (.int v2), some (.int v3), some (.int v4)]) ⟨rfl, rfl, rfl, rfl, rfl, trivial⟩ (tB_X5_loadings_68 C (K31 := K31) hK31 v2 v3 v4 σ6 h)
      · exact r_le (lv' := [some (.ref (a 0)), some (.int p1), some (.int v2), some (.int v3), some (.int v4)]) ⟨rfl, rfl, rfl, rfl, rfl, trivial⟩ (tB_X5_loadings_61 C (K31 := K31) hK31 v2 v3 v4 σ6 h)
set_option maxRecDepth 20000 in
theorem tL_X5_loadings_31 {p : Program} {l : Launch} {e : Env} {s : State} {m : MethodId} {args : Array Value} {below : List Frame} {meth : Method} {c : Code} {D : va_G} {a : Nat → Nat} {cI cO cA : ClassId} {o : Int32 × zSt} (C : zC p s m args meth c D (ztys cI cO cA) 51 a cX5_loadings 5 RX5 (some .int)) {p1 : Int32}  (v2 : Int32) (v3 : Int32) (v4 : Int32) (σ : zSt) (h : L_X5_loadings_31 p1  v2 v3 v4 σ = some o) : zV p l e rm_X5_loadings s m args below meth c D 51 a (fX a cI cO cA) 5 (zQi below args s D 51 a (fX a cI cO cA) o) σ 31 [some (.ref (a 0)), some (.int p1), some (.int v2), some (.int v3), some (.int v4)] [] := by
  unfold L_X5_loadings_31 at h
  refine zloop_ind (G := fun x => zV p l e rm_X5_loadings s m args below meth c D 51 a (fX a cI cO cA) 5 (zQi below args s D 51 a (fX a cI cO cA) o) x.2.2.2 31 [some (.ref (a 0)), some (.int p1), some (.int x.1), some (.int x.2.1), some (.int x.2.2.1)] []) ?_ zFU _ h
  intro rec hr x h
  exact tB_X5_loadings_31 C   (fun v2 v3 v4 σ => hr (v2, v3, v4, σ)) _ _ _ _ h
set_option maxRecDepth 20000 in
theorem c_X5_loadings {l : Launch} {D : va_G} {a : Nat → Nat} {cI cO cA : ClassId} (hinj : ∀ i j, i < 51 → j < 51 → a i = a j → i = j) {p1 : Int32} {σ : zSt} {o : Int32 × zSt} (h : M_X5_loadings p1 σ = some o) : zMi l D (ztys cI cO cA) 51 a (fX a cI cO cA) yX5_loadings cX5_loadings 5 (some .int) rm_X5_loadings [.ref (a 0), .int p1] σ o := by
  unfold M_X5_loadings at h
  refine zmeti (own := RX5) [some (.ref (a 0)), some (.int p1), none, none, none] (by decide) rfl hinj (Nat.le_of_ble_eq_true rfl) rfl (fun p e s m args below meth c C => ?_)
  refine r_aload_n (x := (a 0)) C dX5_loadings_0 rfl ?_
  refine gf_X5_14 C dX5_loadings_1 ?_
  refine r_iload_n (x := p1) C dX5_loadings_4 rfl ?_
  refine r_callVi C [.int p1] [] (b := 10) (by decide) (fX_vine (Or.inl rfl)) rfl rfl zc_X5_83 zB_X4_isPost ⟨rfl, rfl, by decide, by decide⟩ (fun out h => c_X4_isPost C.2.2.2.2.2.2.2.1 (Or.inl rfl) h) rfl rfl (Nat.le_of_ble_eq_true rfl) dX5_loadings_5 h (fun x2 σ1 h => ?_)
  refine r_if_ne (tgt := 13) C dX5_loadings_8 (by decide) h (fun h => ?_) (fun h => ?_)
  · refine r_aload_n (x := (a 0)) C dX5_loadings_13 rfl ?_
    refine gf_X5_31 C dX5_loadings_14 ?_
    refine r_aload_n (x := (a 0)) C dX5_loadings_17 rfl ?_
    refine gf_X5_14 C dX5_loadings_18 ?_
    refine r_iload_n (x := p1) C dX5_loadings_21 rfl ?_
    refine r_callVi C [.ref (a 10), .int p1] [] (b := 47) (by decide) fX_47 rfl rfl zc_X5_183 zB_X0_askedOf ⟨rfl, rfl, by decide, by decide⟩ (fun out h => c_X0_askedOf C.2.2.2.2.2.2.2.1 (Or.inl rfl) h) rfl rfl (Nat.le_of_ble_eq_true rfl) dX5_loadings_22 h (fun x4 σ3 h => ?_)
    refine r_istore_n (lv' := [some (.ref (a 0)), some (.int p1), some (.int x4), none, none]) C dX5_loadings_25 (by decide) rfl rfl ?_
    refine r_iconst (v := 0) C dX5_loadings_26 (by decide) ?_
    refine r_istore_n (lv' := [some (.ref (a 0)), some (.int p1), some (.int x4), some (.int (0 : Int32)), none]) C dX5_loadings_27 (by decide) rfl rfl ?_
    refine r_iconst (v := 0) C dX5_loadings_28 (by decide) ?_
    refine r_istore (lv' := [some (.ref (a 0)), some (.int p1), some (.int x4), some (.int (0 : Int32)), some (.int (0 : Int32))]) C dX5_loadings_29 (by decide) rfl rfl ?_
    exact r_le (lv' := [some (.ref (a 0)), some (.int p1), some (.int x4), some (.int (0 : Int32)), some (.int (0 : Int32))]) ⟨rfl, rfl, rfl, rfl, rfl, trivial⟩ (tL_X5_loadings_31 C x4 (0 : Int32) (0 : Int32) σ3 h)
  · refine r_iconst (v := -1) C dX5_loadings_11 (by decide) ?_
    exact r_iret C dX5_loadings_12 h
/-! VineRows.kinds -/
abbrev rm_X5_kinds : Room := { frames := 4, cells := 0, slots := 0, locals := 93 }
def B_X5_kinds_67 (p1 : Int32) (K31 : (Int32 → Int32 → Int32 → zSt → Option (Int32 × zSt))) (v2 : Int32) (v3 : Int32) (v4 : Int32) (σ : zSt) : Option (Int32 × zSt) := znm (v4 + (1 : Int32)) (fun x8 => K31 v2 v3 x8 σ)
def B_X5_kinds_60 (p1 : Int32) (K31 : (Int32 → Int32 → Int32 → zSt → Option (Int32 × zSt))) (v2 : Int32) (v3 : Int32) (v4 : Int32) (σ : zSt) : Option (Int32 × zSt) := znm ((v3 ||| (zon v4))) (fun x9 => B_X5_kinds_67 p1 K31 v2 x9 v4 σ)
def B_X5_kinds_31 (p1 : Int32) (K31 : (Int32 → Int32 → Int32 → zSt → Option (Int32 × zSt))) (v2 : Int32) (v3 : Int32) (v4 : Int32) (σ : zSt) : Option (Int32 × zSt) := (if (2 : Int32) < v4 then some (v3, σ) else (if v2 = (-1 : Int32) then B_X5_kinds_60 p1 K31 v2 v3 v4 σ else zga (σ (10 + 2)) p1 8 (fun x5 => zbd (M_X5_worthOf v4 x5 σ) (fun x7 σ6 => (if v2 = x7 then B_X5_kinds_60 p1 K31 v2 v3 v4 σ6 else B_X5_kinds_67 p1 K31 v2 v3 v4 σ6)))))
def L_X5_kinds_31 (p1 : Int32) (v2 : Int32) (v3 : Int32) (v4 : Int32) (σ : zSt) : Option (Int32 × zSt) := zloop (fun (rec : Int32 × Int32 × Int32 × zSt → Option (Int32 × zSt)) x => B_X5_kinds_31 p1  (fun v2 v3 v4 σ => rec (v2, v3, v4, σ)) x.1 x.2.1 x.2.2.1 x.2.2.2) zFU (v2, v3, v4, σ)
def M_X5_kinds (p1 : Int32) (σ : zSt) : Option (Int32 × zSt) := zbd (M_X4_isPost 10 p1 σ) (fun x2 σ1 => (if x2 = 0 then some ((-1 : Int32), σ1) else zbd (M_X0_askedOf 10 p1 σ1) (fun x4 σ3 => L_X5_kinds_31 p1 x4 (0 : Int32) (0 : Int32) σ3)))
set_option maxRecDepth 20000 in
theorem tB_X5_kinds_67 {p : Program} {l : Launch} {e : Env} {s : State} {m : MethodId} {args : Array Value} {below : List Frame} {meth : Method} {c : Code} {D : va_G} {a : Nat → Nat} {cI cO cA : ClassId} {o : Int32 × zSt} (C : zC p s m args meth c D (ztys cI cO cA) 51 a cX5_kinds 5 RX5 (some .int)) {p1 : Int32} {K31 : (Int32 → Int32 → Int32 → zSt → Option (Int32 × zSt))} (hK31 : ∀ (v2 : Int32) (v3 : Int32) (v4 : Int32) (σ : zSt), K31 v2 v3 v4 σ = some o → zV p l e rm_X5_kinds s m args below meth c D 51 a (fX a cI cO cA) 5 (zQi below args s D 51 a (fX a cI cO cA) o) σ 31 [some (.ref (a 0)), some (.int p1), some (.int v2), some (.int v3), some (.int v4)] []) (v2 : Int32) (v3 : Int32) (v4 : Int32) (σ : zSt) (h : B_X5_kinds_67 p1 K31 v2 v3 v4 σ = some o) : zV p l e rm_X5_kinds s m args below meth c D 51 a (fX a cI cO cA) 5 (zQi below args s D 51 a (fX a cI cO cA) o) σ 67 [some (.ref (a 0)), some (.int p1), some (.int v2), some (.int v3), some (.int v4)] [] := by
  unfold B_X5_kinds_67 at h
  refine r_gen h (fun x8 ex8 h => ?_)
  refine r_iinc (x := v4) (v := x8) (lv' := [some (.ref (a 0)), some (.int p1), some (.int v2), some (.int v3), some (.int x8)]) C dX5_kinds_67 rfl (by rw [← ex8]; rfl) (by decide) rfl rfl ?_
  clear ex8
  refine r_goto (tgt := 31) C dX5_kinds_70 (by decide) ?_
  exact r_le (lv' := [some (.ref (a 0)), some (.int p1), some (.int v2), some (.int v3), some (.int x8)]) ⟨rfl, rfl, rfl, rfl, rfl, trivial⟩ (hK31 v2 v3 x8 σ h)
set_option maxRecDepth 20000 in
theorem tB_X5_kinds_60 {p : Program} {l : Launch} {e : Env} {s : State} {m : MethodId} {args : Array Value} {below : List Frame} {meth : Method} {c : Code} {D : va_G} {a : Nat → Nat} {cI cO cA : ClassId} {o : Int32 × zSt} (C : zC p s m args meth c D (ztys cI cO cA) 51 a cX5_kinds 5 RX5 (some .int)) {p1 : Int32} {K31 : (Int32 → Int32 → Int32 → zSt → Option (Int32 × zSt))} (hK31 : ∀ (v2 : Int32) (v3 : Int32) (v4 : Int32) (σ : zSt), K31 v2 v3 v4 σ = some o → zV p l e rm_X5_kinds s m args below meth c D 51 a (fX a cI cO cA) 5 (zQi below args s D 51 a (fX a cI cO cA) o) σ 31 [some (.ref (a 0)), some (.int p1), some (.int v2), some (.int v3), some (.int v4)] []) (v2 : Int32) (v3 : Int32) (v4 : Int32) (σ : zSt) (h : B_X5_kinds_60 p1 K31 v2 v3 v4 σ = some o) : zV p l e rm_X5_kinds s m args below meth c D 51 a (fX a cI cO cA) 5 (zQi below args s D 51 a (fX a cI cO cA) o) σ 60 [some (.ref (a 0)), some (.int p1), some (.int v2), some (.int v3), some (.int v4)] [] := by
  unfold B_X5_kinds_60 at h
  refine r_iload_n (x := v3) C dX5_kinds_60 rfl ?_
  refine r_iconst (v := 1) C dX5_kinds_61 (by decide) ?_
  refine r_iload (x := v4) C dX5_kinds_62 rfl ?_
  refine r_ishl C dX5_kinds_64 ?_
  refine r_ior C dX5_kinds_65 ?_
  refine r_nm h (fun x9 h => ?_)
  refine r_istore_n (lv' := [some (.ref (a 0)), some (.int p1), some (.int v2), some (.int x9), some (.int v4)]) C dX5_kinds_66 (by decide) rfl rfl ?_
  exact r_le (lv' := [some (.ref (a 0)), some (.int p1), some (.int v2), some (.int x9), some (.int v4)]) ⟨rfl, rfl, rfl, rfl, rfl, trivial⟩ (tB_X5_kinds_67 C (K31 := K31) hK31 v2 x9 v4 σ h)
set_option maxRecDepth 20000 in
theorem tB_X5_kinds_31 {p : Program} {l : Launch} {e : Env} {s : State} {m : MethodId} {args : Array Value} {below : List Frame} {meth : Method} {c : Code} {D : va_G} {a : Nat → Nat} {cI cO cA : ClassId} {o : Int32 × zSt} (C : zC p s m args meth c D (ztys cI cO cA) 51 a cX5_kinds 5 RX5 (some .int)) {p1 : Int32} {K31 : (Int32 → Int32 → Int32 → zSt → Option (Int32 × zSt))} (hK31 : ∀ (v2 : Int32) (v3 : Int32) (v4 : Int32) (σ : zSt), K31 v2 v3 v4 σ = some o → zV p l e rm_X5_kinds s m args below meth c D 51 a (fX a cI cO cA) 5 (zQi below args s D 51 a (fX a cI cO cA) o) σ 31 [some (.ref (a 0)), some (.int p1), some (.int v2), some (.int v3), some (.int v4)] []) (v2 : Int32) (v3 : Int32) (v4 : Int32) (σ : zSt) (h : B_X5_kinds_31 p1 K31 v2 v3 v4 σ = some o) : zV p l e rm_X5_kinds s m args below meth c D 51 a (fX a cI cO cA) 5 (zQi below args s D 51 a (fX a cI cO cA) o) σ 31 [some (.ref (a 0)), some (.int p1), some (.int v2), some (.int v3), some (.int v4)] [] := by
  unfold B_X5_kinds_31 at h
  refine r_iload (x := v4) C dX5_kinds_31 rfl ?_
  refine r_iconst (v := 2) C dX5_kinds_33 (by decide) ?_
  refine r_icmp_gt (tgt := 73) C dX5_kinds_34 (by decide) h (fun h => ?_) (fun h => ?_)
  · refine r_iload_n (x := v3) C dX5_kinds_73 rfl ?_
    exact r_iret C dX5_kinds_74 h
  · refine r_iload_n (x := v2) C dX5_kinds_37 rfl ?_
    refine r_iconst (v := -1) C dX5_kinds_38 (by decide) ?_
    refine r_icmp_eq (tgt := 60) C dX5_kinds_39 (by decide) h (fun h => ?_) (fun h => ?_)
    · exact r_le (lv' := [some (.ref (a 0)), some (.int p1), some (.int v2), some (.int v3), some (.int v4)]) ⟨rfl, rfl, rfl, rfl, rfl, trivial⟩ (tB_X5_kinds_60 C (K31 := K31) hK31 v2 v3 v4 σ h)
    · refine r_iload_n (x := v2) C dX5_kinds_42 rfl ?_
      refine r_iload (x := v4) C dX5_kinds_43 rfl ?_
      refine r_aload_n (x := (a 0)) C dX5_kinds_45 rfl ?_
      refine gf_X5_14 C dX5_kinds_46 ?_
      refine gf_X5_90 C (Or.inl rfl) dX5_kinds_49 ?_
      refine r_iload_n (x := p1) C dX5_kinds_52 rfl ?_
      refine r_iald (t0 := 0) C (10 + 2) (aX_v2 (Or.inl rfl)) rfl dX5_kinds_53 h (fun x5 h => ?_)
      refine r_callSi C [.int v4, .int x5] [.int v2] zc_X5_187 zB_X5_worthOf ⟨rfl, rfl, by decide, by decide⟩ (fun out h => c_X5_worthOf C.2.2.2.2.2.2.2.1  h) rfl rfl (Nat.le_of_ble_eq_true rfl) dX5_kinds_54 h (fun x7 σ6 h => ?_)
      refine r_icmp_ne (tgt := 67) C dX5_kinds_57 (by decide) h (fun h => ?_) (fun h => ?_)
      · exact r_le (lv' := [some (.ref (a 0)), some (.int p1), some (.int v2), some (.int v3), some (.int v4)]) ⟨rfl, rfl, rfl, rfl, rfl, trivial⟩ (tB_X5_kinds_67 C (K31 := K31) hK31 v2 v3 v4 σ6 h)
      · exact r_le (lv' := [some (.ref (a 0)), some (.int p1), some (.int v2), some (.int v3), some (.int v4)]) ⟨rfl, rfl, rfl, rfl, rfl, trivial⟩ (tB_X5_kinds_60 C (K31 := K31) hK31 v2 v3 v4 σ6 h)
set_option maxRecDepth 20000 in
theorem tL_X5_kinds_31 {p : Program} {l : Launch} {e : Env} {s : State} {m : MethodId} {args : Array Value} {below : List Frame} {meth : Method} {c : Code} {D : va_G} {a : Nat → Nat} {cI cO cA : ClassId} {o : Int32 × zSt} (C : zC p s m args meth c D (ztys cI cO cA) 51 a cX5_kinds 5 RX5 (some .int)) {p1 : Int32}  (v2 : Int32) (v3 : Int32) (v4 : Int32) (σ : zSt) (h : L_X5_kinds_31 p1  v2 v3 v4 σ = some o) : zV p l e rm_X5_kinds s m args below meth c D 51 a (fX a cI cO cA) 5 (zQi below args s D 51 a (fX a cI cO cA) o) σ 31 [some (.ref (a 0)), some (.int p1), some (.int v2), some (.int v3), some (.int v4)] [] := by
  unfold L_X5_kinds_31 at h
  refine zloop_ind (G := fun x => zV p l e rm_X5_kinds s m args below meth c D 51 a (fX a cI cO cA) 5 (zQi below args s D 51 a (fX a cI cO cA) o) x.2.2.2 31 [some (.ref (a 0)), some (.int p1), some (.int x.1), some (.int x.2.1), some (.int x.2.2.1)] []) ?_ zFU _ h
  intro rec hr x h
  exact tB_X5_kinds_31 C   (fun v2 v3 v4 σ => hr (v2, v3, v4, σ)) _ _ _ _ h
set_option maxRecDepth 20000 in
theorem c_X5_kinds {l : Launch} {D : va_G} {a : Nat → Nat} {cI cO cA : ClassId} (hinj : ∀ i j, i < 51 → j < 51 → a i = a j → i = j) {p1 : Int32} {σ : zSt} {o : Int32 × zSt} (h : M_X5_kinds p1 σ = some o) : zMi l D (ztys cI cO cA) 51 a (fX a cI cO cA) yX5_kinds cX5_kinds 5 (some .int) rm_X5_kinds [.ref (a 0), .int p1] σ o := by
  unfold M_X5_kinds at h
  refine zmeti (own := RX5) [some (.ref (a 0)), some (.int p1), none, none, none] (by decide) rfl hinj (Nat.le_of_ble_eq_true rfl) rfl (fun p e s m args below meth c C => ?_)
  refine r_aload_n (x := (a 0)) C dX5_kinds_0 rfl ?_
  refine gf_X5_14 C dX5_kinds_1 ?_
  refine r_iload_n (x := p1) C dX5_kinds_4 rfl ?_
  refine r_callVi C [.int p1] [] (b := 10) (by decide) (fX_vine (Or.inl rfl)) rfl rfl zc_X5_83 zB_X4_isPost ⟨rfl, rfl, by decide, by decide⟩ (fun out h => c_X4_isPost C.2.2.2.2.2.2.2.1 (Or.inl rfl) h) rfl rfl (Nat.le_of_ble_eq_true rfl) dX5_kinds_5 h (fun x2 σ1 h => ?_)
  refine r_if_ne (tgt := 13) C dX5_kinds_8 (by decide) h (fun h => ?_) (fun h => ?_)
  · refine r_aload_n (x := (a 0)) C dX5_kinds_13 rfl ?_
    refine gf_X5_31 C dX5_kinds_14 ?_
    refine r_aload_n (x := (a 0)) C dX5_kinds_17 rfl ?_
    refine gf_X5_14 C dX5_kinds_18 ?_
    refine r_iload_n (x := p1) C dX5_kinds_21 rfl ?_
    refine r_callVi C [.ref (a 10), .int p1] [] (b := 47) (by decide) fX_47 rfl rfl zc_X5_183 zB_X0_askedOf ⟨rfl, rfl, by decide, by decide⟩ (fun out h => c_X0_askedOf C.2.2.2.2.2.2.2.1 (Or.inl rfl) h) rfl rfl (Nat.le_of_ble_eq_true rfl) dX5_kinds_22 h (fun x4 σ3 h => ?_)
    refine r_istore_n (lv' := [some (.ref (a 0)), some (.int p1), some (.int x4), none, none]) C dX5_kinds_25 (by decide) rfl rfl ?_
    refine r_iconst (v := 0) C dX5_kinds_26 (by decide) ?_
    refine r_istore_n (lv' := [some (.ref (a 0)), some (.int p1), some (.int x4), some (.int (0 : Int32)), none]) C dX5_kinds_27 (by decide) rfl rfl ?_
    refine r_iconst (v := 0) C dX5_kinds_28 (by decide) ?_
    refine r_istore (lv' := [some (.ref (a 0)), some (.int p1), some (.int x4), some (.int (0 : Int32)), some (.int (0 : Int32))]) C dX5_kinds_29 (by decide) rfl rfl ?_
    exact r_le (lv' := [some (.ref (a 0)), some (.int p1), some (.int x4), some (.int (0 : Int32)), some (.int (0 : Int32))]) ⟨rfl, rfl, rfl, rfl, rfl, trivial⟩ (tL_X5_kinds_31 C x4 (0 : Int32) (0 : Int32) σ3 h)
  · refine r_iconst (v := -1) C dX5_kinds_11 (by decide) ?_
    exact r_iret C dX5_kinds_12 h
/-! VineRows.odds -/
abbrev rm_X5_odds : Room := { frames := 1, cells := 0, slots := 0, locals := 24 }
def B_X5_odds_107 (p1 : Int32) (p2 : Int32) (K79 : (Int32 → Int32 → Int32 → Int32 → zSt → Option (Int64 × zSt))) (v3 : Int32) (v4 : Int32) (v5 : Int32) (v6 : Int32) (σ : zSt) : Option (Int64 × zSt) := znm (v6 + (-1 : Int32)) (fun x10 => K79 v3 v4 v5 x10 σ)
def B_X5_odds_79 (p1 : Int32) (p2 : Int32) (K79 : (Int32 → Int32 → Int32 → Int32 → zSt → Option (Int64 × zSt))) (v3 : Int32) (v4 : Int32) (v5 : Int32) (v6 : Int32) (σ : zSt) : Option (Int64 × zSt) := (if v6 ≤ (1 : Int32) then some ((v5).toInt64, σ) else zrm v3 v6 (fun x7 => (if x7 = 0 then zrm v4 v6 (fun x8 => (if x8 = 0 then zdv v5 v6 (fun x9 => some ((x9).toInt64, σ)) else B_X5_odds_107 p1 p2 K79 v3 v4 v5 v6 σ)) else B_X5_odds_107 p1 p2 K79 v3 v4 v5 v6 σ)))
def L_X5_odds_79 (p1 : Int32) (p2 : Int32) (v3 : Int32) (v4 : Int32) (v5 : Int32) (v6 : Int32) (σ : zSt) : Option (Int64 × zSt) := zloop (fun (rec : Int32 × Int32 × Int32 × Int32 × zSt → Option (Int64 × zSt)) x => B_X5_odds_79 p1 p2  (fun v3 v4 v5 v6 σ => rec (v3, v4, v5, v6, σ)) x.1 x.2.1 x.2.2.1 x.2.2.2.1 x.2.2.2.2) zFU (v3, v4, v5, v6, σ)
def B_X5_odds_73 (p1 : Int32) (p2 : Int32) (v3 : Int32) (v4 : Int32) (s0 : Int32) (σ : zSt) : Option (Int64 × zSt) := L_X5_odds_79 p1 p2 v3 v4 s0 v4 σ
def M_X5_odds (p1 : Int32) (p2 : Int32) (σ : zSt) : Option (Int64 × zSt) := (if p1 < 0 then some ((-9223372036854775808 : Int64), σ) else (if (8 : Int32) ≤ p1 then some ((-9223372036854775808 : Int64), σ) else (if p2 < 0 then some ((-9223372036854775808 : Int64), σ) else (if (1 : Int32) < p2 then some ((-9223372036854775808 : Int64), σ) else znm (σ 10 0) (fun x1 => (if x1 = 0 then some ((-9223372036854775808 : Int64), σ) else zbd (M_X4_twosWithin 10 p1 σ) (fun x3 σ2 => znm (σ2 10 0) (fun x4 => znm (σ2 10 0) (fun x5 => zdv (x4 * (x5 - (1 : Int32))) (2 : Int32) (fun x6 => (if p2 = 0 then B_X5_odds_73 p1 p2 x3 x6 x3 σ2 else B_X5_odds_73 p1 p2 x3 x6 x6 σ2)))))))))))
set_option maxRecDepth 20000 in
theorem tB_X5_odds_107 {p : Program} {l : Launch} {e : Env} {s : State} {m : MethodId} {args : Array Value} {below : List Frame} {meth : Method} {c : Code} {D : va_G} {a : Nat → Nat} {cI cO cA : ClassId} {o : Int64 × zSt} (C : zC p s m args meth c D (ztys cI cO cA) 51 a cX5_odds 7 RX5 (some .long)) {p1 : Int32} {p2 : Int32} {K79 : (Int32 → Int32 → Int32 → Int32 → zSt → Option (Int64 × zSt))} (hK79 : ∀ (v3 : Int32) (v4 : Int32) (v5 : Int32) (v6 : Int32) (σ : zSt), K79 v3 v4 v5 v6 σ = some o → zV p l e rm_X5_odds s m args below meth c D 51 a (fX a cI cO cA) 7 (zQl below args s D 51 a (fX a cI cO cA) o) σ 79 [none, none, none, some (.int v3), some (.int v4), some (.int v5), some (.int v6)] []) (v3 : Int32) (v4 : Int32) (v5 : Int32) (v6 : Int32) (σ : zSt) (h : B_X5_odds_107 p1 p2 K79 v3 v4 v5 v6 σ = some o) : zV p l e rm_X5_odds s m args below meth c D 51 a (fX a cI cO cA) 7 (zQl below args s D 51 a (fX a cI cO cA) o) σ 107 [none, none, none, some (.int v3), some (.int v4), some (.int v5), some (.int v6)] [] := by
  unfold B_X5_odds_107 at h
  refine r_gen h (fun x10 ex10 h => ?_)
  refine r_iinc (x := v6) (v := x10) (lv' := [none, none, none, some (.int v3), some (.int v4), some (.int v5), some (.int x10)]) C dX5_odds_107 rfl (by rw [← ex10]; rfl) (by decide) rfl rfl ?_
  clear ex10
  refine r_goto (tgt := 79) C dX5_odds_110 (by decide) ?_
  exact r_le (lv' := [none, none, none, some (.int v3), some (.int v4), some (.int v5), some (.int x10)]) ⟨rfl, rfl, rfl, rfl, trivial⟩ (hK79 v3 v4 v5 x10 σ h)
set_option maxRecDepth 20000 in
theorem tB_X5_odds_79 {p : Program} {l : Launch} {e : Env} {s : State} {m : MethodId} {args : Array Value} {below : List Frame} {meth : Method} {c : Code} {D : va_G} {a : Nat → Nat} {cI cO cA : ClassId} {o : Int64 × zSt} (C : zC p s m args meth c D (ztys cI cO cA) 51 a cX5_odds 7 RX5 (some .long)) {p1 : Int32} {p2 : Int32} {K79 : (Int32 → Int32 → Int32 → Int32 → zSt → Option (Int64 × zSt))} (hK79 : ∀ (v3 : Int32) (v4 : Int32) (v5 : Int32) (v6 : Int32) (σ : zSt), K79 v3 v4 v5 v6 σ = some o → zV p l e rm_X5_odds s m args below meth c D 51 a (fX a cI cO cA) 7 (zQl below args s D 51 a (fX a cI cO cA) o) σ 79 [none, none, none, some (.int v3), some (.int v4), some (.int v5), some (.int v6)] []) (v3 : Int32) (v4 : Int32) (v5 : Int32) (v6 : Int32) (σ : zSt) (h : B_X5_odds_79 p1 p2 K79 v3 v4 v5 v6 σ = some o) : zV p l e rm_X5_odds s m args below meth c D 51 a (fX a cI cO cA) 7 (zQl below args s D 51 a (fX a cI cO cA) o) σ 79 [none, none, none, some (.int v3), some (.int v4), some (.int v5), some (.int v6)] [] := by
  unfold B_X5_odds_79 at h
  refine r_iload (x := v6) C dX5_odds_79 rfl ?_
  refine r_iconst (v := 1) C dX5_odds_81 (by decide) ?_
  refine r_icmp_le (tgt := 113) C dX5_odds_82 (by decide) h (fun h => ?_) (fun h => ?_)
  · refine r_iload (x := v5) C dX5_odds_113 rfl ?_
    refine r_i2l C dX5_odds_115 ?_
    exact r_lret C dX5_odds_116 h
  · refine r_iload_n (x := v3) C dX5_odds_85 rfl ?_
    refine r_iload (x := v6) C dX5_odds_86 rfl ?_
    refine r_irem C dX5_odds_88 h (fun x7 h => ?_)
    refine r_if_ne (tgt := 107) C dX5_odds_89 (by decide) h (fun h => ?_) (fun h => ?_)
    · exact r_le (lv' := [none, none, none, some (.int v3), some (.int v4), some (.int v5), some (.int v6)]) ⟨rfl, rfl, rfl, rfl, trivial⟩ (tB_X5_odds_107 C (K79 := K79) hK79 v3 v4 v5 v6 σ h)
    · refine r_iload (x := v4) C dX5_odds_92 rfl ?_
      refine r_iload (x := v6) C dX5_odds_94 rfl ?_
      refine r_irem C dX5_odds_96 h (fun x8 h => ?_)
      refine r_if_ne (tgt := 107) C dX5_odds_97 (by decide) h (fun h => ?_) (fun h => ?_)
      · exact r_le (lv' := [none, none, none, some (.int v3), some (.int v4), some (.int v5), some (.int v6)]) ⟨rfl, rfl, rfl, rfl, trivial⟩ (tB_X5_odds_107 C (K79 := K79) hK79 v3 v4 v5 v6 σ h)
      · refine r_iload (x := v5) C dX5_odds_100 rfl ?_
        refine r_iload (x := v6) C dX5_odds_102 rfl ?_
        refine r_idiv C dX5_odds_104 h (fun x9 h => ?_)
        refine r_i2l C dX5_odds_105 ?_
        exact r_lret C dX5_odds_106 h
set_option maxRecDepth 20000 in
theorem tL_X5_odds_79 {p : Program} {l : Launch} {e : Env} {s : State} {m : MethodId} {args : Array Value} {below : List Frame} {meth : Method} {c : Code} {D : va_G} {a : Nat → Nat} {cI cO cA : ClassId} {o : Int64 × zSt} (C : zC p s m args meth c D (ztys cI cO cA) 51 a cX5_odds 7 RX5 (some .long)) {p1 : Int32} {p2 : Int32}  (v3 : Int32) (v4 : Int32) (v5 : Int32) (v6 : Int32) (σ : zSt) (h : L_X5_odds_79 p1 p2  v3 v4 v5 v6 σ = some o) : zV p l e rm_X5_odds s m args below meth c D 51 a (fX a cI cO cA) 7 (zQl below args s D 51 a (fX a cI cO cA) o) σ 79 [none, none, none, some (.int v3), some (.int v4), some (.int v5), some (.int v6)] [] := by
  unfold L_X5_odds_79 at h
  refine zloop_ind (G := fun x => zV p l e rm_X5_odds s m args below meth c D 51 a (fX a cI cO cA) 7 (zQl below args s D 51 a (fX a cI cO cA) o) x.2.2.2.2 79 [none, none, none, some (.int x.1), some (.int x.2.1), some (.int x.2.2.1), some (.int x.2.2.2.1)] []) ?_ zFU _ h
  intro rec hr x h
  exact tB_X5_odds_79 C   (fun v3 v4 v5 v6 σ => hr (v3, v4, v5, v6, σ)) _ _ _ _ _ h
set_option maxRecDepth 20000 in
theorem tB_X5_odds_73 {p : Program} {l : Launch} {e : Env} {s : State} {m : MethodId} {args : Array Value} {below : List Frame} {meth : Method} {c : Code} {D : va_G} {a : Nat → Nat} {cI cO cA : ClassId} {o : Int64 × zSt} (C : zC p s m args meth c D (ztys cI cO cA) 51 a cX5_odds 7 RX5 (some .long)) {p1 : Int32} {p2 : Int32}  (v3 : Int32) (v4 : Int32) (s0 : Int32) (σ : zSt) (h : B_X5_odds_73 p1 p2  v3 v4 s0 σ = some o) : zV p l e rm_X5_odds s m args below meth c D 51 a (fX a cI cO cA) 7 (zQl below args s D 51 a (fX a cI cO cA) o) σ 73 [none, none, none, some (.int v3), some (.int v4), none, none] [.int s0] := by
  unfold B_X5_odds_73 at h
  refine r_istore (lv' := [none, none, none, some (.int v3), some (.int v4), some (.int s0), none]) C dX5_odds_73 (by decide) rfl rfl ?_
  refine r_iload (x := v4) C dX5_odds_75 rfl ?_
  refine r_istore (lv' := [none, none, none, some (.int v3), some (.int v4), some (.int s0), some (.int v4)]) C dX5_odds_77 (by decide) rfl rfl ?_
  exact r_le (lv' := [none, none, none, some (.int v3), some (.int v4), some (.int s0), some (.int v4)]) ⟨rfl, rfl, rfl, rfl, trivial⟩ (tL_X5_odds_79 C v3 v4 s0 v4 σ h)
set_option maxRecDepth 20000 in
theorem c_X5_odds {l : Launch} {D : va_G} {a : Nat → Nat} {cI cO cA : ClassId} (hinj : ∀ i j, i < 51 → j < 51 → a i = a j → i = j) {p1 : Int32} {p2 : Int32} {σ : zSt} {o : Int64 × zSt} (h : M_X5_odds p1 p2 σ = some o) : zMl l D (ztys cI cO cA) 51 a (fX a cI cO cA) yX5_odds cX5_odds 7 (some .long) rm_X5_odds [.ref (a 0), .int p1, .int p2] σ o := by
  unfold M_X5_odds at h
  refine zmetl (own := RX5) [some (.ref (a 0)), some (.int p1), some (.int p2), none, none, none, none] (by decide) rfl hinj (Nat.le_of_ble_eq_true rfl) rfl (fun p e s m args below meth c C => ?_)
  refine r_iload_n (x := p1) C dX5_odds_0 rfl ?_
  refine r_if_lt (tgt := 29) C dX5_odds_1 (by decide) h (fun h => ?_) (fun h => ?_)
  · refine r_ldc2 C zw287 dX5_odds_29 ?_
    exact r_lret C dX5_odds_32 h
  · refine r_iload_n (x := p1) C dX5_odds_4 rfl ?_
    refine r_bipush (v := 8) C dX5_odds_5 (by decide) ?_
    refine r_icmp_ge (tgt := 29) C dX5_odds_7 (by decide) h (fun h => ?_) (fun h => ?_)
    · refine r_ldc2 C zw287 dX5_odds_29 ?_
      exact r_lret C dX5_odds_32 h
    · refine r_iload_n (x := p2) C dX5_odds_10 rfl ?_
      refine r_if_lt (tgt := 29) C dX5_odds_11 (by decide) h (fun h => ?_) (fun h => ?_)
      · refine r_ldc2 C zw287 dX5_odds_29 ?_
        exact r_lret C dX5_odds_32 h
      · refine r_iload_n (x := p2) C dX5_odds_14 rfl ?_
        refine r_iconst (v := 1) C dX5_odds_15 (by decide) ?_
        refine r_icmp_gt (tgt := 29) C dX5_odds_16 (by decide) h (fun h => ?_) (fun h => ?_)
        · refine r_ldc2 C zw287 dX5_odds_29 ?_
          exact r_lret C dX5_odds_32 h
        · refine r_aload_n (x := (a 0)) C dX5_odds_19 rfl ?_
          refine gf_X5_14 C dX5_odds_20 ?_
          refine gf_X5_80 C (Or.inl rfl) dX5_odds_23 h (fun x1 h => ?_)
          refine r_if_ne (tgt := 33) C dX5_odds_26 (by decide) h (fun h => ?_) (fun h => ?_)
          · refine r_aload_n (x := (a 0)) C dX5_odds_33 rfl ?_
            refine gf_X5_14 C dX5_odds_34 ?_
            refine r_iload_n (x := p1) C dX5_odds_37 rfl ?_
            refine r_callVi C [.int p1] [] (b := 10) (by decide) (fX_vine (Or.inl rfl)) rfl rfl zc_X5_192 zB_X4_twosWithin ⟨rfl, rfl, by decide, by decide⟩ (fun out h => c_X4_twosWithin C.2.2.2.2.2.2.2.1 (Or.inl rfl) h) rfl rfl (Nat.le_of_ble_eq_true rfl) dX5_odds_38 h (fun x3 σ2 h => ?_)
            refine r_istore_n (lv' := [some (.ref (a 0)), some (.int p1), some (.int p2), some (.int x3), none, none, none]) C dX5_odds_41 (by decide) rfl rfl ?_
            refine r_aload_n (x := (a 0)) C dX5_odds_42 rfl ?_
            refine gf_X5_14 C dX5_odds_43 ?_
            refine gf_X5_80 C (Or.inl rfl) dX5_odds_46 h (fun x4 h => ?_)
            refine r_aload_n (x := (a 0)) C dX5_odds_49 rfl ?_
            refine gf_X5_14 C dX5_odds_50 ?_
            refine gf_X5_80 C (Or.inl rfl) dX5_odds_53 h (fun x5 h => ?_)
            refine r_iconst (v := 1) C dX5_odds_56 (by decide) ?_
            refine r_isub C dX5_odds_57 ?_
            refine r_imul C dX5_odds_58 ?_
            refine r_iconst (v := 2) C dX5_odds_59 (by decide) ?_
            refine r_idiv C dX5_odds_60 h (fun x6 h => ?_)
            refine r_istore (lv' := [some (.ref (a 0)), some (.int p1), some (.int p2), some (.int x3), some (.int x6), none, none]) C dX5_odds_61 (by decide) rfl rfl ?_
            refine r_iload_n (x := p2) C dX5_odds_63 rfl ?_
            refine r_if_ne (tgt := 71) C dX5_odds_64 (by decide) h (fun h => ?_) (fun h => ?_)
            · refine r_iload (x := x6) C dX5_odds_71 rfl ?_
              exact r_le (lv' := [none, none, none, some (.int x3), some (.int x6), none, none]) ⟨rfl, rfl, trivial⟩ (tB_X5_odds_73 C x3 x6 x6 σ2 h)
            · refine r_iload_n (x := x3) C dX5_odds_67 rfl ?_
              refine r_goto (tgt := 73) C dX5_odds_68 (by decide) ?_
              exact r_le (lv' := [none, none, none, some (.int x3), some (.int x6), none, none]) ⟨rfl, rfl, trivial⟩ (tB_X5_odds_73 C x3 x6 x3 σ2 h)
          · refine r_ldc2 C zw287 dX5_odds_29 ?_
            exact r_lret C dX5_odds_32 h
/-! VineRows.sheet -/
abbrev rm_X5_sheet : Room := { frames := 1, cells := 0, slots := 0, locals := 23 }
def M_X5_sheet (p1 : Int32) (p2 : Int32) (p3 : Int32) (σ : zSt) : Option (Int32 × zSt) := znm (zsu σ 0 (upd (σ 0) 7 (0 : Int32))) (fun σ1 => zbd (M_X5_isSheet p1 σ1) (fun x3 σ2 => (if x3 = 0 then some ((-1 : Int32), σ2) else zbd (M_X5_isLane p2 σ2) (fun x5 σ4 => (if x5 = 0 then some ((-2 : Int32), σ4) else (if p3 ≤ (60 : Int32) then (if 0 ≤ p3 then zgr p1 4 2 (fun q6 => zbv (M_X2_begin q6 p2 p3 σ4) (fun σ7 => some ((1 : Int32), σ7))) else zbd (M_X5_faulted (4 : Int32) σ4) (fun x9 σ8 => some (x9, σ8))) else some ((-2 : Int32), σ4)))))))
set_option maxRecDepth 20000 in
theorem c_X5_sheet {l : Launch} {D : va_G} {a : Nat → Nat} {cI cO cA : ClassId} (hinj : ∀ i j, i < 51 → j < 51 → a i = a j → i = j) {p1 : Int32} {p2 : Int32} {p3 : Int32} {σ : zSt} {o : Int32 × zSt} (h : M_X5_sheet p1 p2 p3 σ = some o) : zMi l D (ztys cI cO cA) 51 a (fX a cI cO cA) yX5_sheet cX5_sheet 4 (some .int) rm_X5_sheet [.ref (a 0), .int p1, .int p2, .int p3] σ o := by
  unfold M_X5_sheet at h
  refine zmeti (own := RX5) [some (.ref (a 0)), some (.int p1), some (.int p2), some (.int p3)] (by decide) rfl hinj (Nat.le_of_ble_eq_true rfl) rfl (fun p e s m args below meth c C => ?_)
  refine r_aload_n (x := (a 0)) C dX5_sheet_0 rfl ?_
  refine r_iconst (v := 0) C dX5_sheet_1 (by decide) ?_
  refine pf_X5_42 C dX5_sheet_2 h (fun σ1 h => ?_)
  refine r_iload_n (x := p1) C dX5_sheet_5 rfl ?_
  refine r_callSi C [.int p1] [] zc_X5_46 zB_X5_isSheet ⟨rfl, rfl, by decide, by decide⟩ (fun out h => c_X5_isSheet C.2.2.2.2.2.2.2.1  h) rfl rfl (Nat.le_of_ble_eq_true rfl) dX5_sheet_6 h (fun x3 σ2 h => ?_)
  refine r_if_ne (tgt := 14) C dX5_sheet_9 (by decide) h (fun h => ?_) (fun h => ?_)
  · refine r_iload_n (x := p2) C dX5_sheet_14 rfl ?_
    refine r_callSi C [.int p2] [] zc_X5_50 zB_X5_isLane ⟨rfl, rfl, by decide, by decide⟩ (fun out h => c_X5_isLane C.2.2.2.2.2.2.2.1  h) rfl rfl (Nat.le_of_ble_eq_true rfl) dX5_sheet_15 h (fun x5 σ4 h => ?_)
    refine r_if_eq (tgt := 27) C dX5_sheet_18 (by decide) h (fun h => ?_) (fun h => ?_)
    · refine r_bipush (v := -2) C dX5_sheet_27 (by decide) ?_
      exact r_iret C dX5_sheet_29 h
    · refine r_iload_n (x := p3) C dX5_sheet_21 rfl ?_
      refine r_bipush (v := 60) C dX5_sheet_22 (by decide) ?_
      refine r_icmp_le (tgt := 30) C dX5_sheet_24 (by decide) h (fun h => ?_) (fun h => ?_)
      · refine r_iload_n (x := p3) C dX5_sheet_30 rfl ?_
        refine r_if_ge (tgt := 40) C dX5_sheet_31 (by decide) h (fun h => ?_) (fun h => ?_)
        · refine r_aload_n (x := (a 0)) C dX5_sheet_40 rfl ?_
          refine gf_X5_37 C dX5_sheet_41 ?_
          refine r_iload_n (x := p1) C dX5_sheet_44 rfl ?_
          refine r_aald (t0 := 1) C 1 aX_sheets rfl rfl dX5_sheet_45 h (fun q6 hq6 lq6 h => ?_)
          refine r_iload_n (x := p2) C dX5_sheet_46 rfl ?_
          refine r_iload_n (x := p3) C dX5_sheet_47 rfl ?_
          refine r_callVv C [.int p2, .int p3] [] (b := q6) (by omega) (fX_sheet ⟨hq6, lq6⟩) rfl rfl zc_X5_195 zB_X2_begin ⟨rfl, rfl, by decide, by decide⟩ (fun out h => c_X2_begin C.2.2.2.2.2.2.2.1 ⟨hq6, lq6⟩ h) rfl rfl (Nat.le_of_ble_eq_true rfl) dX5_sheet_48 h (fun σ7 h => ?_)
          refine r_iconst (v := 1) C dX5_sheet_51 (by decide) ?_
          exact r_iret C dX5_sheet_52 h
        · refine r_aload_n (x := (a 0)) C dX5_sheet_34 rfl ?_
          refine r_iconst (v := 4) C dX5_sheet_35 (by decide) ?_
          refine r_callVi C [.int (4 : Int32)] [] (b := 0) (by decide) fX_0 rfl rfl zc_X5_61 zB_X5_faulted ⟨rfl, rfl, by decide, by decide⟩ (fun out h => c_X5_faulted C.2.2.2.2.2.2.2.1  h) rfl rfl (Nat.le_of_ble_eq_true rfl) dX5_sheet_36 h (fun x9 σ8 h => ?_)
          exact r_iret C dX5_sheet_39 h
      · refine r_bipush (v := -2) C dX5_sheet_27 (by decide) ?_
        exact r_iret C dX5_sheet_29 h
  · refine r_iconst (v := -1) C dX5_sheet_12 (by decide) ?_
    exact r_iret C dX5_sheet_13 h
/-! VineRows.lose -/
abbrev rm_X5_lose : Room := { frames := 1, cells := 0, slots := 0, locals := 23 }
def M_X5_lose (p1 : Int32) (σ : zSt) : Option (Int32 × zSt) := zbd (M_X5_isSheet p1 σ) (fun x2 σ1 => (if x2 = 0 then some ((-1 : Int32), σ1) else zgr p1 4 2 (fun q3 => znm (σ1 q3 1) (fun x4 => (if x4 = (-1 : Int32) then some ((0 : Int32), σ1) else zgr p1 4 2 (fun q5 => zbv (M_X2_begin q5 (-1 : Int32) (0 : Int32) σ1) (fun σ6 => some ((1 : Int32), σ6))))))))
set_option maxRecDepth 20000 in
theorem c_X5_lose {l : Launch} {D : va_G} {a : Nat → Nat} {cI cO cA : ClassId} (hinj : ∀ i j, i < 51 → j < 51 → a i = a j → i = j) {p1 : Int32} {σ : zSt} {o : Int32 × zSt} (h : M_X5_lose p1 σ = some o) : zMi l D (ztys cI cO cA) 51 a (fX a cI cO cA) yX5_lose cX5_lose 2 (some .int) rm_X5_lose [.ref (a 0), .int p1] σ o := by
  unfold M_X5_lose at h
  refine zmeti (own := RX5) [some (.ref (a 0)), some (.int p1)] (by decide) rfl hinj (Nat.le_of_ble_eq_true rfl) rfl (fun p e s m args below meth c C => ?_)
  refine r_iload_n (x := p1) C dX5_lose_0 rfl ?_
  refine r_callSi C [.int p1] [] zc_X5_46 zB_X5_isSheet ⟨rfl, rfl, by decide, by decide⟩ (fun out h => c_X5_isSheet C.2.2.2.2.2.2.2.1  h) rfl rfl (Nat.le_of_ble_eq_true rfl) dX5_lose_1 h (fun x2 σ1 h => ?_)
  refine r_if_ne (tgt := 9) C dX5_lose_4 (by decide) h (fun h => ?_) (fun h => ?_)
  · refine r_aload_n (x := (a 0)) C dX5_lose_9 rfl ?_
    refine gf_X5_37 C dX5_lose_10 ?_
    refine r_iload_n (x := p1) C dX5_lose_13 rfl ?_
    refine r_aald (t0 := 1) C 1 aX_sheets rfl rfl dX5_lose_14 h (fun q3 hq3 lq3 h => ?_)
    refine gf_X5_199 C ⟨hq3, lq3⟩ dX5_lose_15 h (fun x4 h => ?_)
    refine r_iconst (v := -1) C dX5_lose_18 (by decide) ?_
    refine r_icmp_ne (tgt := 24) C dX5_lose_19 (by decide) h (fun h => ?_) (fun h => ?_)
    · refine r_aload_n (x := (a 0)) C dX5_lose_24 rfl ?_
      refine gf_X5_37 C dX5_lose_25 ?_
      refine r_iload_n (x := p1) C dX5_lose_28 rfl ?_
      refine r_aald (t0 := 1) C 1 aX_sheets rfl rfl dX5_lose_29 h (fun q5 hq5 lq5 h => ?_)
      refine r_iconst (v := -1) C dX5_lose_30 (by decide) ?_
      refine r_iconst (v := 0) C dX5_lose_31 (by decide) ?_
      refine r_callVv C [.int (-1 : Int32), .int (0 : Int32)] [] (b := q5) (by omega) (fX_sheet ⟨hq5, lq5⟩) rfl rfl zc_X5_195 zB_X2_begin ⟨rfl, rfl, by decide, by decide⟩ (fun out h => c_X2_begin C.2.2.2.2.2.2.2.1 ⟨hq5, lq5⟩ h) rfl rfl (Nat.le_of_ble_eq_true rfl) dX5_lose_32 h (fun σ6 h => ?_)
      refine r_iconst (v := 1) C dX5_lose_35 (by decide) ?_
      exact r_iret C dX5_lose_36 h
    · refine r_iconst (v := 0) C dX5_lose_22 (by decide) ?_
      exact r_iret C dX5_lose_23 h
  · refine r_iconst (v := -1) C dX5_lose_7 (by decide) ?_
    exact r_iret C dX5_lose_8 h
/-! VineRows.put -/
abbrev rm_X5_put : Room := { frames := 1, cells := 0, slots := 0, locals := 22 }
def M_X5_put (p1 : Int32) (p2 : Int32) (p3 : Int32) (σ : zSt) : Option (Int32 × zSt) := znm (zsu σ 0 (upd (σ 0) 7 (0 : Int32))) (fun σ1 => zbd (M_X5_isSheet p1 σ1) (fun x3 σ2 => (if x3 = 0 then some ((-1 : Int32), σ2) else zgr p1 4 2 (fun q4 => znm (σ2 q4 1) (fun x5 => (if x5 = (-1 : Int32) then zbd (M_X5_faulted (1 : Int32) σ2) (fun x14 σ13 => some (x14, σ13)) else zbd (M_X2_has q4 p2 (1 : Int32) σ2) (fun x7 σ6 => (if x7 = 0 then zbd (M_X5_faulted (3 : Int32) σ6) (fun x12 σ11 => some (x12, σ11)) else zbd (M_X2_cut q4 p3 σ6) (fun x9 σ8 => zgs σ8 (q4 + 4) p2 60 x9 (fun σ10 => some ((1 : Int32), σ10)))))))))))
set_option maxRecDepth 20000 in
theorem c_X5_put {l : Launch} {D : va_G} {a : Nat → Nat} {cI cO cA : ClassId} (hinj : ∀ i j, i < 51 → j < 51 → a i = a j → i = j) {p1 : Int32} {p2 : Int32} {p3 : Int32} {σ : zSt} {o : Int32 × zSt} (h : M_X5_put p1 p2 p3 σ = some o) : zMi l D (ztys cI cO cA) 51 a (fX a cI cO cA) yX5_put cX5_put 5 (some .int) rm_X5_put [.ref (a 0), .int p1, .int p2, .int p3] σ o := by
  unfold M_X5_put at h
  refine zmeti (own := RX5) [some (.ref (a 0)), some (.int p1), some (.int p2), some (.int p3), none] (by decide) rfl hinj (Nat.le_of_ble_eq_true rfl) rfl (fun p e s m args below meth c C => ?_)
  refine r_aload_n (x := (a 0)) C dX5_put_0 rfl ?_
  refine r_iconst (v := 0) C dX5_put_1 (by decide) ?_
  refine pf_X5_42 C dX5_put_2 h (fun σ1 h => ?_)
  refine r_iload_n (x := p1) C dX5_put_5 rfl ?_
  refine r_callSi C [.int p1] [] zc_X5_46 zB_X5_isSheet ⟨rfl, rfl, by decide, by decide⟩ (fun out h => c_X5_isSheet C.2.2.2.2.2.2.2.1  h) rfl rfl (Nat.le_of_ble_eq_true rfl) dX5_put_6 h (fun x3 σ2 h => ?_)
  refine r_if_ne (tgt := 14) C dX5_put_9 (by decide) h (fun h => ?_) (fun h => ?_)
  · refine r_aload_n (x := (a 0)) C dX5_put_14 rfl ?_
    refine gf_X5_37 C dX5_put_15 ?_
    refine r_iload_n (x := p1) C dX5_put_18 rfl ?_
    refine r_aald (t0 := 1) C 1 aX_sheets rfl rfl dX5_put_19 h (fun q4 hq4 lq4 h => ?_)
    refine r_astore (lv' := [some (.ref (a 0)), some (.int p1), some (.int p2), some (.int p3), some (.ref (a q4))]) C dX5_put_20 (by decide) rfl rfl ?_
    refine r_aload (x := (a q4)) C dX5_put_22 rfl ?_
    refine gf_X5_199 C ⟨hq4, lq4⟩ dX5_put_24 h (fun x5 h => ?_)
    refine r_iconst (v := -1) C dX5_put_27 (by decide) ?_
    refine r_icmp_ne (tgt := 37) C dX5_put_28 (by decide) h (fun h => ?_) (fun h => ?_)
    · refine r_aload (x := (a q4)) C dX5_put_37 rfl ?_
      refine r_iload_n (x := p2) C dX5_put_39 rfl ?_
      refine r_iconst (v := 1) C dX5_put_40 (by decide) ?_
      refine r_callVi C [.int p2, .int (1 : Int32)] [] (b := q4) (by omega) (fX_sheet ⟨hq4, lq4⟩) rfl rfl zc_X5_57 zB_X2_has ⟨rfl, rfl, by decide, by decide⟩ (fun out h => c_X2_has C.2.2.2.2.2.2.2.1 ⟨hq4, lq4⟩ h) rfl rfl (Nat.le_of_ble_eq_true rfl) dX5_put_41 h (fun x7 σ6 h => ?_)
      refine r_if_ne (tgt := 53) C dX5_put_44 (by decide) h (fun h => ?_) (fun h => ?_)
      · refine r_aload (x := (a q4)) C dX5_put_53 rfl ?_
        refine gf_X5_202 C ⟨hq4, lq4⟩ dX5_put_55 ?_
        refine r_iload_n (x := p2) C dX5_put_58 rfl ?_
        refine r_aload (x := (a q4)) C dX5_put_59 rfl ?_
        refine r_iload_n (x := p3) C dX5_put_61 rfl ?_
        refine r_callVi C [.int p3] [.int p2, .ref (a (q4 + 4))] (b := q4) (by omega) (fX_sheet ⟨hq4, lq4⟩) rfl rfl zc_X5_205 zB_X2_cut ⟨rfl, rfl, by decide, by decide⟩ (fun out h => c_X2_cut C.2.2.2.2.2.2.2.1 ⟨hq4, lq4⟩ h) rfl rfl (Nat.le_of_ble_eq_true rfl) dX5_put_62 h (fun x9 σ8 h => ?_)
        refine r_iast (t0 := 0) C (q4 + 4) (aX_cells ⟨hq4, lq4⟩) rfl dX5_put_65 h (fun σ10 h => ?_)
        refine r_iconst (v := 1) C dX5_put_66 (by decide) ?_
        exact r_iret C dX5_put_67 h
      · refine r_aload_n (x := (a 0)) C dX5_put_47 rfl ?_
        refine r_iconst (v := 3) C dX5_put_48 (by decide) ?_
        refine r_callVi C [.int (3 : Int32)] [] (b := 0) (by decide) fX_0 rfl rfl zc_X5_61 zB_X5_faulted ⟨rfl, rfl, by decide, by decide⟩ (fun out h => c_X5_faulted C.2.2.2.2.2.2.2.1  h) rfl rfl (Nat.le_of_ble_eq_true rfl) dX5_put_49 h (fun x12 σ11 h => ?_)
        exact r_iret C dX5_put_52 h
    · refine r_aload_n (x := (a 0)) C dX5_put_31 rfl ?_
      refine r_iconst (v := 1) C dX5_put_32 (by decide) ?_
      refine r_callVi C [.int (1 : Int32)] [] (b := 0) (by decide) fX_0 rfl rfl zc_X5_61 zB_X5_faulted ⟨rfl, rfl, by decide, by decide⟩ (fun out h => c_X5_faulted C.2.2.2.2.2.2.2.1  h) rfl rfl (Nat.le_of_ble_eq_true rfl) dX5_put_33 h (fun x14 σ13 h => ?_)
      exact r_iret C dX5_put_36 h
  · refine r_iconst (v := -1) C dX5_put_12 (by decide) ?_
    exact r_iret C dX5_put_13 h
/-! VineRows.cell -/
abbrev rm_X5_cell : Room := { frames := 1, cells := 0, slots := 0, locals := 22 }
def B_X5_cell_63 (p1 : Int32) (p2 : Int32) (p3 : Int32) (v4 : Nat) (σ : zSt) : Option (Int64 × zSt) := znm (σ 0 7) (fun x14 => (if x14 = 0 then zbd (M_X2_at v4 p2 σ) (fun x16 σ15 => some ((x16).toInt64, σ15)) else some ((-9223372036854775808 : Int64), σ)))
def M_X5_cell (p1 : Int32) (p2 : Int32) (p3 : Int32) (σ : zSt) : Option (Int64 × zSt) := znm (zsu σ 0 (upd (σ 0) 7 (0 : Int32))) (fun σ1 => zbd (M_X5_isSheet p1 σ1) (fun x3 σ2 => (if x3 = 0 then some ((-9223372036854775808 : Int64), σ2) else zbd (M_X5_isLane p3 σ2) (fun x5 σ4 => (if x5 = 0 then some ((-9223372036854775808 : Int64), σ4) else zgr p1 4 2 (fun q6 => zbd (M_X2_faultAs q6 p3 σ4) (fun x8 σ7 => znm (zsu σ7 0 (upd (σ7 0) 7 x8)) (fun σ9 => znm (σ9 0 7) (fun x10 => (if x10 = 0 then zbd (M_X2_has q6 p2 (1 : Int32) σ9) (fun x12 σ11 => (if x12 = 0 then znm (zsu σ11 0 (upd (σ11 0) 7 (3 : Int32))) (fun σ13 => B_X5_cell_63 p1 p2 p3 q6 σ13) else B_X5_cell_63 p1 p2 p3 q6 σ11)) else B_X5_cell_63 p1 p2 p3 q6 σ9))))))))))
set_option maxRecDepth 20000 in
theorem tB_X5_cell_63 {p : Program} {l : Launch} {e : Env} {s : State} {m : MethodId} {args : Array Value} {below : List Frame} {meth : Method} {c : Code} {D : va_G} {a : Nat → Nat} {cI cO cA : ClassId} {o : Int64 × zSt} (C : zC p s m args meth c D (ztys cI cO cA) 51 a cX5_cell 5 RX5 (some .long)) {p1 : Int32} {p2 : Int32} {p3 : Int32}  (v4 : Nat) (hv4 : 2 ≤ v4 ∧ v4 < 6) (σ : zSt) (h : B_X5_cell_63 p1 p2 p3  v4 σ = some o) : zV p l e rm_X5_cell s m args below meth c D 51 a (fX a cI cO cA) 5 (zQl below args s D 51 a (fX a cI cO cA) o) σ 63 [some (.ref (a 0)), none, some (.int p2), none, some (.ref (a v4))] [] := by
  unfold B_X5_cell_63 at h
  refine r_aload_n (x := (a 0)) C dX5_cell_63 rfl ?_
  refine gf_X5_42 C dX5_cell_64 h (fun x14 h => ?_)
  refine r_if_ne (tgt := 80) C dX5_cell_67 (by decide) h (fun h => ?_) (fun h => ?_)
  · refine r_ldc2 C zw287 dX5_cell_80 ?_
    exact r_lret C dX5_cell_83 h
  · refine r_aload (x := (a v4)) C dX5_cell_70 rfl ?_
    refine r_iload_n (x := p2) C dX5_cell_72 rfl ?_
    refine r_callVi C [.int p2] [] (b := v4) (by omega) (fX_sheet hv4) rfl rfl zc_X5_132 zB_X2_at ⟨rfl, rfl, by decide, by decide⟩ (fun out h => c_X2_at C.2.2.2.2.2.2.2.1 hv4 h) rfl rfl (Nat.le_of_ble_eq_true rfl) dX5_cell_73 h (fun x16 σ15 h => ?_)
    refine r_i2l C dX5_cell_76 ?_
    refine r_goto (tgt := 83) C dX5_cell_77 (by decide) ?_
    exact r_lret C dX5_cell_83 h
set_option maxRecDepth 20000 in
theorem c_X5_cell {l : Launch} {D : va_G} {a : Nat → Nat} {cI cO cA : ClassId} (hinj : ∀ i j, i < 51 → j < 51 → a i = a j → i = j) {p1 : Int32} {p2 : Int32} {p3 : Int32} {σ : zSt} {o : Int64 × zSt} (h : M_X5_cell p1 p2 p3 σ = some o) : zMl l D (ztys cI cO cA) 51 a (fX a cI cO cA) yX5_cell cX5_cell 5 (some .long) rm_X5_cell [.ref (a 0), .int p1, .int p2, .int p3] σ o := by
  unfold M_X5_cell at h
  refine zmetl (own := RX5) [some (.ref (a 0)), some (.int p1), some (.int p2), some (.int p3), none] (by decide) rfl hinj (Nat.le_of_ble_eq_true rfl) rfl (fun p e s m args below meth c C => ?_)
  refine r_aload_n (x := (a 0)) C dX5_cell_0 rfl ?_
  refine r_iconst (v := 0) C dX5_cell_1 (by decide) ?_
  refine pf_X5_42 C dX5_cell_2 h (fun σ1 h => ?_)
  refine r_iload_n (x := p1) C dX5_cell_5 rfl ?_
  refine r_callSi C [.int p1] [] zc_X5_46 zB_X5_isSheet ⟨rfl, rfl, by decide, by decide⟩ (fun out h => c_X5_isSheet C.2.2.2.2.2.2.2.1  h) rfl rfl (Nat.le_of_ble_eq_true rfl) dX5_cell_6 h (fun x3 σ2 h => ?_)
  refine r_if_eq (tgt := 19) C dX5_cell_9 (by decide) h (fun h => ?_) (fun h => ?_)
  · refine r_ldc2 C zw287 dX5_cell_19 ?_
    exact r_lret C dX5_cell_22 h
  · refine r_iload_n (x := p3) C dX5_cell_12 rfl ?_
    refine r_callSi C [.int p3] [] zc_X5_50 zB_X5_isLane ⟨rfl, rfl, by decide, by decide⟩ (fun out h => c_X5_isLane C.2.2.2.2.2.2.2.1  h) rfl rfl (Nat.le_of_ble_eq_true rfl) dX5_cell_13 h (fun x5 σ4 h => ?_)
    refine r_if_ne (tgt := 23) C dX5_cell_16 (by decide) h (fun h => ?_) (fun h => ?_)
    · refine r_aload_n (x := (a 0)) C dX5_cell_23 rfl ?_
      refine gf_X5_37 C dX5_cell_24 ?_
      refine r_iload_n (x := p1) C dX5_cell_27 rfl ?_
      refine r_aald (t0 := 1) C 1 aX_sheets rfl rfl dX5_cell_28 h (fun q6 hq6 lq6 h => ?_)
      refine r_astore (lv' := [some (.ref (a 0)), some (.int p1), some (.int p2), some (.int p3), some (.ref (a q6))]) C dX5_cell_29 (by decide) rfl rfl ?_
      refine r_aload_n (x := (a 0)) C dX5_cell_31 rfl ?_
      refine r_aload (x := (a q6)) C dX5_cell_32 rfl ?_
      refine r_iload_n (x := p3) C dX5_cell_34 rfl ?_
      refine r_callVi C [.int p3] [.ref (a 0)] (b := q6) (by omega) (fX_sheet ⟨hq6, lq6⟩) rfl rfl zc_X5_53 zB_X2_faultAs ⟨rfl, rfl, by decide, by decide⟩ (fun out h => c_X2_faultAs C.2.2.2.2.2.2.2.1 ⟨hq6, lq6⟩ h) rfl rfl (Nat.le_of_ble_eq_true rfl) dX5_cell_35 h (fun x8 σ7 h => ?_)
      refine pf_X5_42 C dX5_cell_38 h (fun σ9 h => ?_)
      refine r_aload_n (x := (a 0)) C dX5_cell_41 rfl ?_
      refine gf_X5_42 C dX5_cell_42 h (fun x10 h => ?_)
      refine r_if_ne (tgt := 63) C dX5_cell_45 (by decide) h (fun h => ?_) (fun h => ?_)
      · exact r_le (lv' := [some (.ref (a 0)), none, some (.int p2), none, some (.ref (a q6))]) ⟨rfl, rfl, rfl, trivial⟩ (tB_X5_cell_63 C q6 ⟨hq6, lq6⟩ σ9 h)
      · refine r_aload (x := (a q6)) C dX5_cell_48 rfl ?_
        refine r_iload_n (x := p2) C dX5_cell_50 rfl ?_
        refine r_iconst (v := 1) C dX5_cell_51 (by decide) ?_
        refine r_callVi C [.int p2, .int (1 : Int32)] [] (b := q6) (by omega) (fX_sheet ⟨hq6, lq6⟩) rfl rfl zc_X5_57 zB_X2_has ⟨rfl, rfl, by decide, by decide⟩ (fun out h => c_X2_has C.2.2.2.2.2.2.2.1 ⟨hq6, lq6⟩ h) rfl rfl (Nat.le_of_ble_eq_true rfl) dX5_cell_52 h (fun x12 σ11 h => ?_)
        refine r_if_ne (tgt := 63) C dX5_cell_55 (by decide) h (fun h => ?_) (fun h => ?_)
        · exact r_le (lv' := [some (.ref (a 0)), none, some (.int p2), none, some (.ref (a q6))]) ⟨rfl, rfl, rfl, trivial⟩ (tB_X5_cell_63 C q6 ⟨hq6, lq6⟩ σ11 h)
        · refine r_aload_n (x := (a 0)) C dX5_cell_58 rfl ?_
          refine r_iconst (v := 3) C dX5_cell_59 (by decide) ?_
          refine pf_X5_42 C dX5_cell_60 h (fun σ13 h => ?_)
          exact r_le (lv' := [some (.ref (a 0)), none, some (.int p2), none, some (.ref (a q6))]) ⟨rfl, rfl, rfl, trivial⟩ (tB_X5_cell_63 C q6 ⟨hq6, lq6⟩ σ13 h)
    · refine r_ldc2 C zw287 dX5_cell_19 ?_
      exact r_lret C dX5_cell_22 h
end
