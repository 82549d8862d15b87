noncomputable section
/-! VineRows$Readings.take -/
abbrev rm_X0_take : Room := { frames := 0, cells := 0, slots := 0, locals := 0 }
def M_X0_take (p1 : Int32) (p2 : Int32) (p3 : Int32) (σ : zSt) : Option (Int32 × zSt) := znm (σ 47 0) (fun x1 => zgs σ 48 x1 8 p1 (fun σ2 => znm (σ2 47 0) (fun x3 => zgs σ2 49 x3 8 p2 (fun σ4 => znm (σ4 47 0) (fun x5 => zgs σ4 50 x5 8 p3 (fun σ6 => znm (σ6 47 0) (fun x7 => znm (zsu σ6 47 (upd (σ6 47) 0 (x7 + (1 : Int32)))) (fun σ8 => znm (σ8 47 0) (fun x9 => some ((x9 - (1 : Int32)), σ8))))))))))
set_option maxRecDepth 20000 in
theorem c_X0_take {l : Launch} {D : va_G} {a : Nat → Nat} {cI cO cA : ClassId} (hinj : ∀ i j, i < 51 → j < 51 → a i = a j → i = j) {p1 : Int32} {p2 : Int32} {p3 : Int32} {σ : zSt} {o : Int32 × zSt} (h : M_X0_take p1 p2 p3 σ = some o) : zMi l D (ztys cI cO cA) 51 a (fX a cI cO cA) yX0_take cX0_take 4 (some .int) rm_X0_take [.ref (a 47), .int p1, .int p2, .int p3] σ o := by
  unfold M_X0_take at h
  refine zmeti (own := RX0) [some (.ref (a 47)), some (.int p1), some (.int p2), some (.int p3)] (by decide) rfl hinj (Nat.le_of_ble_eq_true rfl) rfl (fun p e s m args below meth c C => ?_)
  refine r_aload_n (x := (a 47)) C dX0_take_0 rfl ?_
  refine gf_X0_9 C dX0_take_1 ?_
  refine r_aload_n (x := (a 47)) C dX0_take_4 rfl ?_
  refine gf_X0_21 C dX0_take_5 h (fun x1 h => ?_)
  refine r_iload_n (x := p1) C dX0_take_8 rfl ?_
  refine r_iast (t0 := 0) C 48 aX_48 rfl dX0_take_9 h (fun σ2 h => ?_)
  refine r_aload_n (x := (a 47)) C dX0_take_10 rfl ?_
  refine gf_X0_15 C dX0_take_11 ?_
  refine r_aload_n (x := (a 47)) C dX0_take_14 rfl ?_
  refine gf_X0_21 C dX0_take_15 h (fun x3 h => ?_)
  refine r_iload_n (x := p2) C dX0_take_18 rfl ?_
  refine r_iast (t0 := 0) C 49 aX_49 rfl dX0_take_19 h (fun σ4 h => ?_)
  refine r_aload_n (x := (a 47)) C dX0_take_20 rfl ?_
  refine gf_X0_18 C dX0_take_21 ?_
  refine r_aload_n (x := (a 47)) C dX0_take_24 rfl ?_
  refine gf_X0_21 C dX0_take_25 h (fun x5 h => ?_)
  refine r_iload_n (x := p3) C dX0_take_28 rfl ?_
  refine r_iast (t0 := 0) C 50 aX_50 rfl dX0_take_29 h (fun σ6 h => ?_)
  refine r_aload_n (x := (a 47)) C dX0_take_30 rfl ?_
  refine r_dup C dX0_take_31 rfl ?_
  refine gf_X0_21 C dX0_take_32 h (fun x7 h => ?_)
  refine r_iconst (v := 1) C dX0_take_35 (by decide) ?_
  refine r_iadd C dX0_take_36 ?_
  refine pf_X0_21 C dX0_take_37 h (fun σ8 h => ?_)
  refine r_aload_n (x := (a 47)) C dX0_take_40 rfl ?_
  refine gf_X0_21 C dX0_take_41 h (fun x9 h => ?_)
  refine r_iconst (v := 1) C dX0_take_44 (by decide) ?_
  refine r_isub C dX0_take_45 ?_
  exact r_iret C dX0_take_46 h
/-! VineRows$Vine.isOnWay -/
abbrev rm_X4_isOnWay : Room := { frames := 0, cells := 0, slots := 0, locals := 0 }
def M_X4_isOnWay (b : Nat) (p1 : Int32) (p2 : Int32) (p3 : Int32) (σ : zSt) : Option (Int32 × zSt) := zgr p1 8 (b + 9) (fun q1 => zga (σ q1) p3 8 (fun x2 => zgr p3 8 (b + 9) (fun q3 => zga (σ q3) p2 8 (fun x4 => zgr p1 8 (b + 9) (fun q5 => zga (σ q5) p2 8 (fun x6 => (if (x2 + x4) = x6 then zgz (1 : Int32) σ else zgz (0 : Int32) σ)))))))
set_option maxRecDepth 20000 in
theorem c_X4_isOnWay {l : Launch} {D : va_G} {a : Nat → Nat} {cI cO cA : ClassId} (hinj : ∀ i j, i < 51 → j < 51 → a i = a j → i = j) {b : Nat} {p1 : Int32} {p2 : Int32} {p3 : Int32} (hb : b = 10 ∨ b = 27) {σ : zSt} {o : Int32 × zSt} (h : M_X4_isOnWay b p1 p2 p3 σ = some o) : zMi l D (ztys cI cO cA) 51 a (fX a cI cO cA) yX4_isOnWay cX4_isOnWay 4 (some .boolean) rm_X4_isOnWay [.ref (a b), .int p1, .int p2, .int p3] σ o := by
  unfold M_X4_isOnWay at h
  refine zmeti (own := RX4) [some (.ref (a b)), some (.int p1), some (.int p2), some (.int p3)] (by decide) rfl hinj (Nat.le_of_ble_eq_true rfl) rfl (fun p e s m args below meth c C => ?_)
  refine r_aload_n (x := (a b)) C dX4_isOnWay_0 rfl ?_
  refine gf_X4_23 C hb dX4_isOnWay_1 ?_
  refine r_iload_n (x := p1) C dX4_isOnWay_4 rfl ?_
  refine r_aald (t0 := 2) C (b + 4) (aX_away hb) rfl rfl dX4_isOnWay_5 h (fun q1 hq1 lq1 h => ?_)
  refine r_iload_n (x := p3) C dX4_isOnWay_6 rfl ?_
  refine r_iald (t0 := 0) C q1 (aX_row hb hq1 lq1) rfl dX4_isOnWay_7 h (fun x2 h => ?_)
  refine r_aload_n (x := (a b)) C dX4_isOnWay_8 rfl ?_
  refine gf_X4_23 C hb dX4_isOnWay_9 ?_
  refine r_iload_n (x := p3) C dX4_isOnWay_12 rfl ?_
  refine r_aald (t0 := 2) C (b + 4) (aX_away hb) rfl rfl dX4_isOnWay_13 h (fun q3 hq3 lq3 h => ?_)
  refine r_iload_n (x := p2) C dX4_isOnWay_14 rfl ?_
  refine r_iald (t0 := 0) C q3 (aX_row hb hq3 lq3) rfl dX4_isOnWay_15 h (fun x4 h => ?_)
  refine r_iadd C dX4_isOnWay_16 ?_
  refine r_aload_n (x := (a b)) C dX4_isOnWay_17 rfl ?_
  refine gf_X4_23 C hb dX4_isOnWay_18 ?_
  refine r_iload_n (x := p1) C dX4_isOnWay_21 rfl ?_
  refine r_aald (t0 := 2) C (b + 4) (aX_away hb) rfl rfl dX4_isOnWay_22 h (fun q5 hq5 lq5 h => ?_)
  refine r_iload_n (x := p2) C dX4_isOnWay_23 rfl ?_
  refine r_iald (t0 := 0) C q5 (aX_row hb hq5 lq5) rfl dX4_isOnWay_24 h (fun x6 h => ?_)
  refine r_icmp_ne (tgt := 32) C dX4_isOnWay_25 (by decide) h (fun h => ?_) (fun h => ?_)
  · refine r_iconst (v := 0) C dX4_isOnWay_32 (by decide) ?_
    exact r_zret C dX4_isOnWay_33 h
  · refine r_iconst (v := 1) C dX4_isOnWay_28 (by decide) ?_
    refine r_goto (tgt := 33) C dX4_isOnWay_29 (by decide) ?_
    exact r_zret C dX4_isOnWay_33 h
/-! VineRows.worthOf -/
abbrev rm_X5_worthOf : Room := { frames := 0, cells := 0, slots := 0, locals := 0 }
def M_X5_worthOf (p1 : Int32) (p2 : Int32) (σ : zSt) : Option (Int32 × zSt) := (if p1 = (1 : Int32) then some ((p2 + (1 : Int32)), σ) else (if p1 = (2 : Int32) then some (((2 : Int32) * p2), σ) else (some (p2, σ))))
set_option maxRecDepth 20000 in
theorem c_X5_worthOf {l : Launch} {D : va_G} {a : Nat → Nat} {cI cO cA : ClassId} (hinj : ∀ i j, i < 51 → j < 51 → a i = a j → i = j) {p1 : Int32} {p2 : Int32} {σ : zSt} {o : Int32 × zSt} (h : M_X5_worthOf p1 p2 σ = some o) : zMi l D (ztys cI cO cA) 51 a (fX a cI cO cA) yX5_worthOf cX5_worthOf 2 (some .int) rm_X5_worthOf [.int p1, .int p2] σ o := by
  unfold M_X5_worthOf at h
  refine zmeti (own := RX5) [some (.int p1), some (.int p2)] (by decide) rfl hinj (Nat.le_of_ble_eq_true rfl) rfl (fun p e s m args below meth c C => ?_)
  refine r_iload_n (x := p1) C dX5_worthOf_0 rfl ?_
  by_cases hx0 : p1 = (1 : Int32)
  · rw [if_pos hx0] at h
    refine r_lookup (tgt := 28) (off := 27) C dX5_worthOf_1 (by decide) (by rw [hx0]; decide) (by decide) ?_
    refine r_iload_n (x := p2) C dX5_worthOf_28 rfl ?_
    refine r_iconst (v := 1) C dX5_worthOf_29 (by decide) ?_
    refine r_iadd C dX5_worthOf_30 ?_
    exact r_iret C dX5_worthOf_31 h
  · rw [if_neg hx0] at h
    by_cases hx1 : p1 = (2 : Int32)
    · rw [if_pos hx1] at h
      refine r_lookup (tgt := 32) (off := 31) C dX5_worthOf_1 (by decide) (by rw [hx1]; decide) (by decide) ?_
      refine r_iconst (v := 2) C dX5_worthOf_32 (by decide) ?_
      refine r_iload_n (x := p2) C dX5_worthOf_33 rfl ?_
      refine r_imul C dX5_worthOf_34 ?_
      exact r_iret C dX5_worthOf_35 h
    · rw [if_neg hx1] at h
      refine r_lookup (tgt := 36) (off := 35) C dX5_worthOf_1 (by decide) (by rw [lv_osw hx0 (by decide)]; rw [lv_osw hx1 (by decide)]; rfl) (by decide) ?_
      refine r_iload_n (x := p2) C dX5_worthOf_36 rfl ?_
      exact r_iret C dX5_worthOf_37 h
/-! VineRows$Vine.worth -/
abbrev rm_X4_worth : Room := { frames := 1, cells := 0, slots := 0, locals := 21 }
def M_X4_worth (b : Nat) (p1 : Int32) (σ : zSt) : Option (Int32 × zSt) := zga (σ (b + 1)) p1 8 (fun x1 => zga (σ (b + 2)) p1 8 (fun x2 => zbd (M_X5_worthOf x1 x2 σ) (fun x4 σ3 => some (x4, σ3))))
set_option maxRecDepth 20000 in
theorem c_X4_worth {l : Launch} {D : va_G} {a : Nat → Nat} {cI cO cA : ClassId} (hinj : ∀ i j, i < 51 → j < 51 → a i = a j → i = j) {b : Nat} {p1 : Int32} (hb : b = 10 ∨ b = 27) {σ : zSt} {o : Int32 × zSt} (h : M_X4_worth b p1 σ = some o) : zMi l D (ztys cI cO cA) 51 a (fX a cI cO cA) yX4_worth cX4_worth 2 (some .int) rm_X4_worth [.ref (a b), .int p1] σ o := by
  unfold M_X4_worth at h
  refine zmeti (own := RX4) [some (.ref (a b)), some (.int p1)] (by decide) rfl hinj (Nat.le_of_ble_eq_true rfl) rfl (fun p e s m args below meth c C => ?_)
  refine r_aload_n (x := (a b)) C dX4_worth_0 rfl ?_
  refine gf_X4_9 C hb dX4_worth_1 ?_
  refine r_iload_n (x := p1) C dX4_worth_4 rfl ?_
  refine r_iald (t0 := 0) C (b + 1) (aX_v1 hb) rfl dX4_worth_5 h (fun x1 h => ?_)
  refine r_aload_n (x := (a b)) C dX4_worth_6 rfl ?_
  refine gf_X4_15 C hb dX4_worth_7 ?_
  refine r_iload_n (x := p1) C dX4_worth_10 rfl ?_
  refine r_iald (t0 := 0) C (b + 2) (aX_v2 hb) rfl dX4_worth_11 h (fun x2 h => ?_)
  refine r_callNi C [.int x1, .int x2] [] "VineRows" List.mem_cons_self zc_X4_48 zB_X5_worthOf ⟨rfl, rfl, by decide, by decide⟩ (fun out h => c_X5_worthOf C.2.2.2.2.2.2.2.1  h) rfl rfl (Nat.le_of_ble_eq_true rfl) dX4_worth_12 h (fun x4 σ3 h => ?_)
  exact r_iret C dX4_worth_15 h
/-! VineRows$Readings.worthBeside -/
abbrev rm_X0_worthBeside : Room := { frames := 2, cells := 0, slots := 0, locals := 42 }
def B_X0_worthBeside_53 (b1 : Nat) (p2 : Int32) (p3 : Int32) (K6 : (Int32 → Int32 → zSt → Option (Int32 × zSt))) (v4 : Int32) (v5 : Int32) (σ : zSt) : Option (Int32 × zSt) := znm (v5 + (1 : Int32)) (fun x9 => K6 v4 x9 σ)
def B_X0_worthBeside_6 (b1 : Nat) (p2 : Int32) (p3 : Int32) (K6 : (Int32 → Int32 → zSt → Option (Int32 × zSt))) (v4 : Int32) (v5 : Int32) (σ : zSt) : Option (Int32 × zSt) := znm (σ b1 0) (fun x1 => (if x1 ≤ v5 then some (v4, σ) else (if v5 = p2 then B_X0_worthBeside_53 b1 p2 p3 K6 v4 v5 σ else zga (σ 48) p3 8 (fun x2 => zga (σ 49) p3 8 (fun x3 => zbd (M_X4_isOnWay b1 x2 x3 v5 σ) (fun x5 σ4 => (if x5 = 0 then B_X0_worthBeside_53 b1 p2 p3 K6 v4 v5 σ4 else zbd (M_X4_worth b1 v5 σ4) (fun x7 σ6 => znm ((v4 + x7)) (fun x8 => B_X0_worthBeside_53 b1 p2 p3 K6 x8 v5 σ6)))))))))
def L_X0_worthBeside_6 (b1 : Nat) (p2 : Int32) (p3 : Int32) (v4 : Int32) (v5 : Int32) (σ : zSt) : Option (Int32 × zSt) := zloop (fun (rec : Int32 × Int32 × zSt → Option (Int32 × zSt)) x => B_X0_worthBeside_6 b1 p2 p3  (fun v4 v5 σ => rec (v4, v5, σ)) x.1 x.2.1 x.2.2) zFU (v4, v5, σ)
def M_X0_worthBeside (b1 : Nat) (p2 : Int32) (p3 : Int32) (σ : zSt) : Option (Int32 × zSt) := L_X0_worthBeside_6 b1 p2 p3 (0 : Int32) (0 : Int32) σ
set_option maxRecDepth 20000 in
theorem tB_X0_worthBeside_53 {p : Program} {l : Launch} {e : Env} {s : State} {m : MethodId} {args : Array Value} {below : List Frame} {meth : Method} {c : Code} {D : va_G} {a : Nat → Nat} {cI cO cA : ClassId} {o : Int32 × zSt} (C : zC p s m args meth c D (ztys cI cO cA) 51 a cX0_worthBeside 6 RX0 (some .int)) {b1 : Nat} {p2 : Int32} {p3 : Int32} (hb1 : b1 = 10 ∨ b1 = 27) {K6 : (Int32 → Int32 → zSt → Option (Int32 × zSt))} (hK6 : ∀ (v4 : Int32) (v5 : Int32) (σ : zSt), K6 v4 v5 σ = some o → zV p l e rm_X0_worthBeside s m args below meth c D 51 a (fX a cI cO cA) 6 (zQi below args s D 51 a (fX a cI cO cA) o) σ 6 [some (.ref (a 47)), some (.ref (a b1)), some (.int p2), some (.int p3), some (.int v4), some (.int v5)] []) (v4 : Int32) (v5 : Int32) (σ : zSt) (h : B_X0_worthBeside_53 b1 p2 p3 K6 v4 v5 σ = some o) : zV p l e rm_X0_worthBeside s m args below meth c D 51 a (fX a cI cO cA) 6 (zQi below args s D 51 a (fX a cI cO cA) o) σ 53 [some (.ref (a 47)), some (.ref (a b1)), some (.int p2), some (.int p3), some (.int v4), some (.int v5)] [] := by
  unfold B_X0_worthBeside_53 at h
  refine r_gen h (fun x9 ex9 h => ?_)
  refine r_iinc (x := v5) (v := x9) (lv' := [some (.ref (a 47)), some (.ref (a b1)), some (.int p2), some (.int p3), some (.int v4), some (.int x9)]) C dX0_worthBeside_53 rfl (by rw [← ex9]; rfl) (by decide) rfl rfl ?_
  clear ex9
  refine r_goto (tgt := 6) C dX0_worthBeside_56 (by decide) ?_
  exact r_le (lv' := [some (.ref (a 47)), some (.ref (a b1)), some (.int p2), some (.int p3), some (.int v4), some (.int x9)]) ⟨rfl, rfl, rfl, rfl, rfl, rfl, trivial⟩ (hK6 v4 x9 σ h)
set_option maxRecDepth 20000 in
theorem tB_X0_worthBeside_6 {p : Program} {l : Launch} {e : Env} {s : State} {m : MethodId} {args : Array Value} {below : List Frame} {meth : Method} {c : Code} {D : va_G} {a : Nat → Nat} {cI cO cA : ClassId} {o : Int32 × zSt} (C : zC p s m args meth c D (ztys cI cO cA) 51 a cX0_worthBeside 6 RX0 (some .int)) {b1 : Nat} {p2 : Int32} {p3 : Int32} (hb1 : b1 = 10 ∨ b1 = 27) {K6 : (Int32 → Int32 → zSt → Option (Int32 × zSt))} (hK6 : ∀ (v4 : Int32) (v5 : Int32) (σ : zSt), K6 v4 v5 σ = some o → zV p l e rm_X0_worthBeside s m args below meth c D 51 a (fX a cI cO cA) 6 (zQi below args s D 51 a (fX a cI cO cA) o) σ 6 [some (.ref (a 47)), some (.ref (a b1)), some (.int p2), some (.int p3), some (.int v4), some (.int v5)] []) (v4 : Int32) (v5 : Int32) (σ : zSt) (h : B_X0_worthBeside_6 b1 p2 p3 K6 v4 v5 σ = some o) : zV p l e rm_X0_worthBeside s m args below meth c D 51 a (fX a cI cO cA) 6 (zQi below args s D 51 a (fX a cI cO cA) o) σ 6 [some (.ref (a 47)), some (.ref (a b1)), some (.int p2), some (.int p3), some (.int v4), some (.int v5)] [] := by
  unfold B_X0_worthBeside_6 at h
  refine r_iload (x := v5) C dX0_worthBeside_6 rfl ?_
  refine r_aload_n (x := (a b1)) C dX0_worthBeside_8 rfl ?_
  refine gf_X0_35 C hb1 dX0_worthBeside_9 h (fun x1 h => ?_)
  refine r_icmp_ge (tgt := 59) C dX0_worthBeside_12 (by decide) h (fun h => ?_) (fun h => ?_)
  · refine r_iload (x := v4) C dX0_worthBeside_59 rfl ?_
    exact r_iret C dX0_worthBeside_61 h
  · refine r_iload (x := v5) C dX0_worthBeside_15 rfl ?_
    refine r_iload_n (x := p2) C dX0_worthBeside_17 rfl ?_
    refine r_icmp_eq (tgt := 53) C dX0_worthBeside_18 (by decide) h (fun h => ?_) (fun h => ?_)
    · exact r_le (lv' := [some (.ref (a 47)), some (.ref (a b1)), some (.int p2), some (.int p3), some (.int v4), some (.int v5)]) ⟨rfl, rfl, rfl, rfl, rfl, rfl, trivial⟩ (tB_X0_worthBeside_53 C hb1 (K6 := K6) hK6 v4 v5 σ h)
    · refine r_aload_n (x := (a b1)) C dX0_worthBeside_21 rfl ?_
      refine r_aload_n (x := (a 47)) C dX0_worthBeside_22 rfl ?_
      refine gf_X0_9 C dX0_worthBeside_23 ?_
      refine r_iload_n (x := p3) C dX0_worthBeside_26 rfl ?_
      refine r_iald (t0 := 0) C 48 aX_48 rfl dX0_worthBeside_27 h (fun x2 h => ?_)
      refine r_aload_n (x := (a 47)) C dX0_worthBeside_28 rfl ?_
      refine gf_X0_15 C dX0_worthBeside_29 ?_
      refine r_iload_n (x := p3) C dX0_worthBeside_32 rfl ?_
      refine r_iald (t0 := 0) C 49 aX_49 rfl dX0_worthBeside_33 h (fun x3 h => ?_)
      refine r_iload (x := v5) C dX0_worthBeside_34 rfl ?_
      refine r_callVi C [.int x2, .int x3, .int v5] [] (b := b1) (by omega) (fX_vine hb1) rfl rfl zc_X0_29 zB_X4_isOnWay ⟨rfl, rfl, by decide, by decide⟩ (fun out h => c_X4_isOnWay C.2.2.2.2.2.2.2.1 hb1 h) rfl rfl (Nat.le_of_ble_eq_true rfl) dX0_worthBeside_36 h (fun x5 σ4 h => ?_)
      refine r_if_eq (tgt := 53) C dX0_worthBeside_39 (by decide) h (fun h => ?_) (fun h => ?_)
      · exact r_le (lv' := [some (.ref (a 47)), some (.ref (a b1)), some (.int p2), some (.int p3), some (.int v4), some (.int v5)]) ⟨rfl, rfl, rfl, rfl, rfl, rfl, trivial⟩ (tB_X0_worthBeside_53 C hb1 (K6 := K6) hK6 v4 v5 σ4 h)
      · refine r_iload (x := v4) C dX0_worthBeside_42 rfl ?_
        refine r_aload_n (x := (a b1)) C dX0_worthBeside_44 rfl ?_
        refine r_iload (x := v5) C dX0_worthBeside_45 rfl ?_
        refine r_callVi C [.int v5] [.int v4] (b := b1) (by omega) (fX_vine hb1) rfl rfl zc_X0_38 zB_X4_worth ⟨rfl, rfl, by decide, by decide⟩ (fun out h => c_X4_worth C.2.2.2.2.2.2.2.1 hb1 h) rfl rfl (Nat.le_of_ble_eq_true rfl) dX0_worthBeside_47 h (fun x7 σ6 h => ?_)
        refine r_iadd C dX0_worthBeside_50 ?_
        refine r_nm h (fun x8 h => ?_)
        refine r_istore (lv' := [some (.ref (a 47)), some (.ref (a b1)), some (.int p2), some (.int p3), some (.int x8), some (.int v5)]) C dX0_worthBeside_51 (by decide) rfl rfl ?_
        exact r_le (lv' := [some (.ref (a 47)), some (.ref (a b1)), some (.int p2), some (.int p3), some (.int x8), some (.int v5)]) ⟨rfl, rfl, rfl, rfl, rfl, rfl, trivial⟩ (tB_X0_worthBeside_53 C hb1 (K6 := K6) hK6 x8 v5 σ6 h)
set_option maxRecDepth 20000 in
theorem tL_X0_worthBeside_6 {p : Program} {l : Launch} {e : Env} {s : State} {m : MethodId} {args : Array Value} {below : List Frame} {meth : Method} {c : Code} {D : va_G} {a : Nat → Nat} {cI cO cA : ClassId} {o : Int32 × zSt} (C : zC p s m args meth c D (ztys cI cO cA) 51 a cX0_worthBeside 6 RX0 (some .int)) {b1 : Nat} {p2 : Int32} {p3 : Int32} (hb1 : b1 = 10 ∨ b1 = 27)  (v4 : Int32) (v5 : Int32) (σ : zSt) (h : L_X0_worthBeside_6 b1 p2 p3  v4 v5 σ = some o) : zV p l e rm_X0_worthBeside s m args below meth c D 51 a (fX a cI cO cA) 6 (zQi below args s D 51 a (fX a cI cO cA) o) σ 6 [some (.ref (a 47)), some (.ref (a b1)), some (.int p2), some (.int p3), some (.int v4), some (.int v5)] [] := by
  unfold L_X0_worthBeside_6 at h
  refine zloop_ind (G := fun x => zV p l e rm_X0_worthBeside s m args below meth c D 51 a (fX a cI cO cA) 6 (zQi below args s D 51 a (fX a cI cO cA) o) x.2.2 6 [some (.ref (a 47)), some (.ref (a b1)), some (.int p2), some (.int p3), some (.int x.1), some (.int x.2.1)] []) ?_ zFU _ h
  intro rec hr x h
  exact tB_X0_worthBeside_6 C hb1  (fun v4 v5 σ => hr (v4, v5, σ)) _ _ _ h
set_option maxRecDepth 20000 in
theorem c_X0_worthBeside {l : Launch} {D : va_G} {a : Nat → Nat} {cI cO cA : ClassId} (hinj : ∀ i j, i < 51 → j < 51 → a i = a j → i = j) {b1 : Nat} {p2 : Int32} {p3 : Int32} (hb1 : b1 = 10 ∨ b1 = 27) {σ : zSt} {o : Int32 × zSt} (h : M_X0_worthBeside b1 p2 p3 σ = some o) : zMi l D (ztys cI cO cA) 51 a (fX a cI cO cA) yX0_worthBeside cX0_worthBeside 6 (some .int) rm_X0_worthBeside [.ref (a 47), .ref (a b1), .int p2, .int p3] σ o := by
  unfold M_X0_worthBeside at h
  refine zmeti (own := RX0) [some (.ref (a 47)), some (.ref (a b1)), some (.int p2), some (.int p3), none, none] (by decide) rfl hinj (Nat.le_of_ble_eq_true rfl) rfl (fun p e s m args below meth c C => ?_)
  refine r_iconst (v := 0) C dX0_worthBeside_0 (by decide) ?_
  refine r_istore (lv' := [some (.ref (a 47)), some (.ref (a b1)), some (.int p2), some (.int p3), some (.int (0 : Int32)), none]) C dX0_worthBeside_1 (by decide) rfl rfl ?_
  refine r_iconst (v := 0) C dX0_worthBeside_3 (by decide) ?_
  refine r_istore (lv' := [some (.ref (a 47)), some (.ref (a b1)), some (.int p2), some (.int p3), some (.int (0 : Int32)), some (.int (0 : Int32))]) C dX0_worthBeside_4 (by decide) rfl rfl ?_
  exact r_le (lv' := [some (.ref (a 47)), some (.ref (a b1)), some (.int p2), some (.int p3), some (.int (0 : Int32)), some (.int (0 : Int32))]) ⟨rfl, rfl, rfl, rfl, rfl, rfl, trivial⟩ (tL_X0_worthBeside_6 C hb1 (0 : Int32) (0 : Int32) σ h)
/-! VineRows$Readings.askedOf -/
abbrev rm_X0_askedOf : Room := { frames := 3, cells := 0, slots := 0, locals := 67 }
def B_X0_askedOf_93 (b1 : Nat) (p2 : Int32) (K5 : (Int32 → Int32 → zSt → Option (Int32 × zSt))) (v3 : Int32) (v4 : Int32) (σ : zSt) : Option (Int32 × zSt) := znm (v4 + (1 : Int32)) (fun x10 => K5 v3 x10 σ)
def B_X0_askedOf_85 (b1 : Nat) (p2 : Int32) (K5 : (Int32 → Int32 → zSt → Option (Int32 × zSt))) (v3 : Int32) (v4 : Int32) (v5 : Int32) (v6 : Int32) (σ : zSt) : Option (Int32 × zSt) := (if v6 = 0 then B_X0_askedOf_93 b1 p2 K5 v3 v4 σ else B_X0_askedOf_93 b1 p2 K5 v5 v4 σ)
def B_X0_askedOf_5 (b1 : Nat) (p2 : Int32) (K5 : (Int32 → Int32 → zSt → Option (Int32 × zSt))) (v3 : Int32) (v4 : Int32) (σ : zSt) : Option (Int32 × zSt) := znm (σ 47 0) (fun x1 => (if x1 ≤ v4 then some (v3, σ) else zga (σ 50) v4 8 (fun x2 => zbd (M_X0_worthBeside b1 p2 v4 σ) (fun x4 σ3 => znm ((x2 - x4)) (fun x5 => zga (σ3 48) v4 8 (fun x6 => zga (σ3 49) v4 8 (fun x7 => zbd (M_X4_isOnWay b1 x6 x7 p2 σ3) (fun x9 σ8 => (if x9 = 0 then (if x5 = 0 then B_X0_askedOf_85 b1 p2 K5 v3 v4 x5 x9 σ8 else some ((-2 : Int32), σ8)) else (if x5 < 0 then some ((-2 : Int32), σ8) else (if v3 = (-1 : Int32) then B_X0_askedOf_85 b1 p2 K5 v3 v4 x5 x9 σ8 else (if v3 = x5 then B_X0_askedOf_85 b1 p2 K5 v3 v4 x5 x9 σ8 else some ((-2 : Int32), σ8)))))))))))))
def L_X0_askedOf_5 (b1 : Nat) (p2 : Int32) (v3 : Int32) (v4 : Int32) (σ : zSt) : Option (Int32 × zSt) := zloop (fun (rec : Int32 × Int32 × zSt → Option (Int32 × zSt)) x => B_X0_askedOf_5 b1 p2  (fun v3 v4 σ => rec (v3, v4, σ)) x.1 x.2.1 x.2.2) zFU (v3, v4, σ)
def M_X0_askedOf (b1 : Nat) (p2 : Int32) (σ : zSt) : Option (Int32 × zSt) := L_X0_askedOf_5 b1 p2 (-1 : Int32) (0 : Int32) σ
set_option maxRecDepth 20000 in
theorem tB_X0_askedOf_93 {p : Program} {l : Launch} {e : Env} {s : State} {m : MethodId} {args : Array Value} {below : List Frame} {meth : Method} {c : Code} {D : va_G} {a : Nat → Nat} {cI cO cA : ClassId} {o : Int32 × zSt} (C : zC p s m args meth c D (ztys cI cO cA) 51 a cX0_askedOf 7 RX0 (some .int)) {b1 : Nat} {p2 : Int32} (hb1 : b1 = 10 ∨ b1 = 27) {K5 : (Int32 → Int32 → zSt → Option (Int32 × zSt))} (hK5 : ∀ (v3 : Int32) (v4 : Int32) (σ : zSt), K5 v3 v4 σ = some o → zV p l e rm_X0_askedOf s m args below meth c D 51 a (fX a cI cO cA) 7 (zQi below args s D 51 a (fX a cI cO cA) o) σ 5 [some (.ref (a 47)), some (.ref (a b1)), some (.int p2), some (.int v3), some (.int v4), none, none] []) (v3 : Int32) (v4 : Int32) (σ : zSt) (h : B_X0_askedOf_93 b1 p2 K5 v3 v4 σ = some o) : zV p l e rm_X0_askedOf s m args below meth c D 51 a (fX a cI cO cA) 7 (zQi below args s D 51 a (fX a cI cO cA) o) σ 93 [some (.ref (a 47)), some (.ref (a b1)), some (.int p2), some (.int v3), some (.int v4), none, none] [] := by
  unfold B_X0_askedOf_93 at h
  refine r_gen h (fun x10 ex10 h => ?_)
  refine r_iinc (x := v4) (v := x10) (lv' := [some (.ref (a 47)), some (.ref (a b1)), some (.int p2), some (.int v3), some (.int x10), none, none]) C dX0_askedOf_93 rfl (by rw [← ex10]; rfl) (by decide) rfl rfl ?_
  clear ex10
  refine r_goto (tgt := 5) C dX0_askedOf_96 (by decide) ?_
  exact r_le (lv' := [some (.ref (a 47)), some (.ref (a b1)), some (.int p2), some (.int v3), some (.int x10), none, none]) ⟨rfl, rfl, rfl, rfl, rfl, trivial⟩ (hK5 v3 x10 σ h)
set_option maxRecDepth 20000 in
theorem tB_X0_askedOf_85 {p : Program} {l : Launch} {e : Env} {s : State} {m : MethodId} {args : Array Value} {below : List Frame} {meth : Method} {c : Code} {D : va_G} {a : Nat → Nat} {cI cO cA : ClassId} {o : Int32 × zSt} (C : zC p s m args meth c D (ztys cI cO cA) 51 a cX0_askedOf 7 RX0 (some .int)) {b1 : Nat} {p2 : Int32} (hb1 : b1 = 10 ∨ b1 = 27) {K5 : (Int32 → Int32 → zSt → Option (Int32 × zSt))} (hK5 : ∀ (v3 : Int32) (v4 : Int32) (σ : zSt), K5 v3 v4 σ = some o → zV p l e rm_X0_askedOf s m args below meth c D 51 a (fX a cI cO cA) 7 (zQi below args s D 51 a (fX a cI cO cA) o) σ 5 [some (.ref (a 47)), some (.ref (a b1)), some (.int p2), some (.int v3), some (.int v4), none, none] []) (v3 : Int32) (v4 : Int32) (v5 : Int32) (v6 : Int32) (σ : zSt) (h : B_X0_askedOf_85 b1 p2 K5 v3 v4 v5 v6 σ = some o) : zV p l e rm_X0_askedOf s m args below meth c D 51 a (fX a cI cO cA) 7 (zQi below args s D 51 a (fX a cI cO cA) o) σ 85 [some (.ref (a 47)), some (.ref (a b1)), some (.int p2), some (.int v3), some (.int v4), some (.int v5), some (.int v6)] [] := by
  unfold B_X0_askedOf_85 at h
  refine r_iload (x := v6) C dX0_askedOf_85 rfl ?_
  refine r_if_eq (tgt := 93) C dX0_askedOf_87 (by decide) h (fun h => ?_) (fun h => ?_)
  · exact r_le (lv' := [some (.ref (a 47)), some (.ref (a b1)), some (.int p2), some (.int v3), some (.int v4), none, none]) ⟨rfl, rfl, rfl, rfl, rfl, trivial⟩ (tB_X0_askedOf_93 C hb1 (K5 := K5) hK5 v3 v4 σ h)
  · refine r_iload (x := v5) C dX0_askedOf_90 rfl ?_
    refine r_istore_n (lv' := [some (.ref (a 47)), some (.ref (a b1)), some (.int p2), some (.int v5), some (.int v4), some (.int v5), some (.int v6)]) C dX0_askedOf_92 (by decide) rfl rfl ?_
    exact r_le (lv' := [some (.ref (a 47)), some (.ref (a b1)), some (.int p2), some (.int v5), some (.int v4), none, none]) ⟨rfl, rfl, rfl, rfl, rfl, trivial⟩ (tB_X0_askedOf_93 C hb1 (K5 := K5) hK5 v5 v4 σ h)
set_option maxRecDepth 20000 in
theorem tB_X0_askedOf_5 {p : Program} {l : Launch} {e : Env} {s : State} {m : MethodId} {args : Array Value} {below : List Frame} {meth : Method} {c : Code} {D : va_G} {a : Nat → Nat} {cI cO cA : ClassId} {o : Int32 × zSt} (C : zC p s m args meth c D (ztys cI cO cA) 51 a cX0_askedOf 7 RX0 (some .int)) {b1 : Nat} {p2 : Int32} (hb1 : b1 = 10 ∨ b1 = 27) {K5 : (Int32 → Int32 → zSt → Option (Int32 × zSt))} (hK5 : ∀ (v3 : Int32) (v4 : Int32) (σ : zSt), K5 v3 v4 σ = some o → zV p l e rm_X0_askedOf s m args below meth c D 51 a (fX a cI cO cA) 7 (zQi below args s D 51 a (fX a cI cO cA) o) σ 5 [some (.ref (a 47)), some (.ref (a b1)), some (.int p2), some (.int v3), some (.int v4), none, none] []) (v3 : Int32) (v4 : Int32) (σ : zSt) (h : B_X0_askedOf_5 b1 p2 K5 v3 v4 σ = some o) : zV p l e rm_X0_askedOf s m args below meth c D 51 a (fX a cI cO cA) 7 (zQi below args s D 51 a (fX a cI cO cA) o) σ 5 [some (.ref (a 47)), some (.ref (a b1)), some (.int p2), some (.int v3), some (.int v4), none, none] [] := by
  unfold B_X0_askedOf_5 at h
  refine r_iload (x := v4) C dX0_askedOf_5 rfl ?_
  refine r_aload_n (x := (a 47)) C dX0_askedOf_7 rfl ?_
  refine gf_X0_21 C dX0_askedOf_8 h (fun x1 h => ?_)
  refine r_icmp_ge (tgt := 99) C dX0_askedOf_11 (by decide) h (fun h => ?_) (fun h => ?_)
  · refine r_iload_n (x := v3) C dX0_askedOf_99 rfl ?_
    exact r_iret C dX0_askedOf_100 h
  · refine r_aload_n (x := (a 47)) C dX0_askedOf_14 rfl ?_
    refine gf_X0_18 C dX0_askedOf_15 ?_
    refine r_iload (x := v4) C dX0_askedOf_18 rfl ?_
    refine r_iald (t0 := 0) C 50 aX_50 rfl dX0_askedOf_20 h (fun x2 h => ?_)
    refine r_aload_n (x := (a 47)) C dX0_askedOf_21 rfl ?_
    refine r_aload_n (x := (a b1)) C dX0_askedOf_22 rfl ?_
    refine r_iload_n (x := p2) C dX0_askedOf_23 rfl ?_
    refine r_iload (x := v4) C dX0_askedOf_24 rfl ?_
    refine r_callVi C [.ref (a b1), .int p2, .int v4] [.int x2] (b := 47) (by decide) fX_47 rfl rfl zc_X0_25 zB_X0_worthBeside ⟨rfl, rfl, by decide, by decide⟩ (fun out h => c_X0_worthBeside C.2.2.2.2.2.2.2.1 hb1 h) rfl rfl (Nat.le_of_ble_eq_true rfl) dX0_askedOf_26 h (fun x4 σ3 h => ?_)
    refine r_isub C dX0_askedOf_29 ?_
    refine r_nm h (fun x5 h => ?_)
    refine r_istore (lv' := [some (.ref (a 47)), some (.ref (a b1)), some (.int p2), some (.int v3), some (.int v4), some (.int x5), none]) C dX0_askedOf_30 (by decide) rfl rfl ?_
    refine r_aload_n (x := (a b1)) C dX0_askedOf_32 rfl ?_
    refine r_aload_n (x := (a 47)) C dX0_askedOf_33 rfl ?_
    refine gf_X0_9 C dX0_askedOf_34 ?_
    refine r_iload (x := v4) C dX0_askedOf_37 rfl ?_
    refine r_iald (t0 := 0) C 48 aX_48 rfl dX0_askedOf_39 h (fun x6 h => ?_)
    refine r_aload_n (x := (a 47)) C dX0_askedOf_40 rfl ?_
    refine gf_X0_15 C dX0_askedOf_41 ?_
    refine r_iload (x := v4) C dX0_askedOf_44 rfl ?_
    refine r_iald (t0 := 0) C 49 aX_49 rfl dX0_askedOf_46 h (fun x7 h => ?_)
    refine r_iload_n (x := p2) C dX0_askedOf_47 rfl ?_
    refine r_callVi C [.int x6, .int x7, .int p2] [] (b := b1) (by omega) (fX_vine hb1) rfl rfl zc_X0_29 zB_X4_isOnWay ⟨rfl, rfl, by decide, by decide⟩ (fun out h => c_X4_isOnWay C.2.2.2.2.2.2.2.1 hb1 h) rfl rfl (Nat.le_of_ble_eq_true rfl) dX0_askedOf_48 h (fun x9 σ8 h => ?_)
    refine r_istore (lv' := [some (.ref (a 47)), some (.ref (a b1)), some (.int p2), some (.int v3), some (.int v4), some (.int x5), some (.int x9)]) C dX0_askedOf_51 (by decide) rfl rfl ?_
    refine r_iload (x := x9) C dX0_askedOf_53 rfl ?_
    refine r_if_eq (tgt := 77) C dX0_askedOf_55 (by decide) h (fun h => ?_) (fun h => ?_)
    · refine r_iload (x := x5) C dX0_askedOf_77 rfl ?_
      refine r_if_eq (tgt := 85) C dX0_askedOf_79 (by decide) h (fun h => ?_) (fun h => ?_)
      · exact r_le (lv' := [some (.ref (a 47)), some (.ref (a b1)), some (.int p2), some (.int v3), some (.int v4), some (.int x5), some (.int x9)]) ⟨rfl, rfl, rfl, rfl, rfl, rfl, rfl, trivial⟩ (tB_X0_askedOf_85 C hb1 (K5 := K5) hK5 v3 v4 x5 x9 σ8 h)
      · refine r_bipush (v := -2) C dX0_askedOf_82 (by decide) ?_
        exact r_iret C dX0_askedOf_84 h
    · refine r_iload (x := x5) C dX0_askedOf_58 rfl ?_
      refine r_if_lt (tgt := 82) C dX0_askedOf_60 (by decide) h (fun h => ?_) (fun h => ?_)
      · refine r_bipush (v := -2) C dX0_askedOf_82 (by decide) ?_
        exact r_iret C dX0_askedOf_84 h
      · refine r_iload_n (x := v3) C dX0_askedOf_63 rfl ?_
        refine r_iconst (v := -1) C dX0_askedOf_64 (by decide) ?_
        refine r_icmp_eq (tgt := 85) C dX0_askedOf_65 (by decide) h (fun h => ?_) (fun h => ?_)
        · exact r_le (lv' := [some (.ref (a 47)), some (.ref (a b1)), some (.int p2), some (.int v3), some (.int v4), some (.int x5), some (.int x9)]) ⟨rfl, rfl, rfl, rfl, rfl, rfl, rfl, trivial⟩ (tB_X0_askedOf_85 C hb1 (K5 := K5) hK5 v3 v4 x5 x9 σ8 h)
        · refine r_iload_n (x := v3) C dX0_askedOf_68 rfl ?_
          refine r_iload (x := x5) C dX0_askedOf_69 rfl ?_
          refine r_icmp_eq (tgt := 85) C dX0_askedOf_71 (by decide) h (fun h => ?_) (fun h => ?_)
          · exact r_le (lv' := [some (.ref (a 47)), some (.ref (a b1)), some (.int p2), some (.int v3), some (.int v4), some (.int x5), some (.int x9)]) ⟨rfl, rfl, rfl, rfl, rfl, rfl, rfl, trivial⟩ (tB_X0_askedOf_85 C hb1 (K5 := K5) hK5 v3 v4 x5 x9 σ8 h)
          · refine r_goto (tgt := 82) C dX0_askedOf_74 (by decide) ?_
            refine r_bipush (v := -2) C dX0_askedOf_82 (by decide) ?_
            exact r_iret C dX0_askedOf_84 h
set_option maxRecDepth 20000 in
theorem tL_X0_askedOf_5 {p : Program} {l : Launch} {e : Env} {s : State} {m : MethodId} {args : Array Value} {below : List Frame} {meth : Method} {c : Code} {D : va_G} {a : Nat → Nat} {cI cO cA : ClassId} {o : Int32 × zSt} (C : zC p s m args meth c D (ztys cI cO cA) 51 a cX0_askedOf 7 RX0 (some .int)) {b1 : Nat} {p2 : Int32} (hb1 : b1 = 10 ∨ b1 = 27)  (v3 : Int32) (v4 : Int32) (σ : zSt) (h : L_X0_askedOf_5 b1 p2  v3 v4 σ = some o) : zV p l e rm_X0_askedOf s m args below meth c D 51 a (fX a cI cO cA) 7 (zQi below args s D 51 a (fX a cI cO cA) o) σ 5 [some (.ref (a 47)), some (.ref (a b1)), some (.int p2), some (.int v3), some (.int v4), none, none] [] := by
  unfold L_X0_askedOf_5 at h
  refine zloop_ind (G := fun x => zV p l e rm_X0_askedOf s m args below meth c D 51 a (fX a cI cO cA) 7 (zQi below args s D 51 a (fX a cI cO cA) o) x.2.2 5 [some (.ref (a 47)), some (.ref (a b1)), some (.int p2), some (.int x.1), some (.int x.2.1), none, none] []) ?_ zFU _ h
  intro rec hr x h
  exact tB_X0_askedOf_5 C hb1  (fun v3 v4 σ => hr (v3, v4, σ)) _ _ _ h
set_option maxRecDepth 20000 in
theorem c_X0_askedOf {l : Launch} {D : va_G} {a : Nat → Nat} {cI cO cA : ClassId} (hinj : ∀ i j, i < 51 → j < 51 → a i = a j → i = j) {b1 : Nat} {p2 : Int32} (hb1 : b1 = 10 ∨ b1 = 27) {σ : zSt} {o : Int32 × zSt} (h : M_X0_askedOf b1 p2 σ = some o) : zMi l D (ztys cI cO cA) 51 a (fX a cI cO cA) yX0_askedOf cX0_askedOf 7 (some .int) rm_X0_askedOf [.ref (a 47), .ref (a b1), .int p2] σ o := by
  unfold M_X0_askedOf at h
  refine zmeti (own := RX0) [some (.ref (a 47)), some (.ref (a b1)), some (.int p2), none, none, none, none] (by decide) rfl hinj (Nat.le_of_ble_eq_true rfl) rfl (fun p e s m args below meth c C => ?_)
  refine r_iconst (v := -1) C dX0_askedOf_0 (by decide) ?_
  refine r_istore_n (lv' := [some (.ref (a 47)), some (.ref (a b1)), some (.int p2), some (.int (-1 : Int32)), none, none, none]) C dX0_askedOf_1 (by decide) rfl rfl ?_
  refine r_iconst (v := 0) C dX0_askedOf_2 (by decide) ?_
  refine r_istore (lv' := [some (.ref (a 47)), some (.ref (a b1)), some (.int p2), some (.int (-1 : Int32)), some (.int (0 : Int32)), none, none]) C dX0_askedOf_3 (by decide) rfl rfl ?_
  exact r_le (lv' := [some (.ref (a 47)), some (.ref (a b1)), some (.int p2), some (.int (-1 : Int32)), some (.int (0 : Int32)), none, none]) ⟨rfl, rfl, rfl, rfl, rfl, trivial⟩ (tL_X0_askedOf_5 C hb1 (-1 : Int32) (0 : Int32) σ h)
/-! VineRows$Shape.insert -/
abbrev rm_X1_insert : Room := { frames := 0, cells := 0, slots := 0, locals := 0 }
def B_X1_insert_38 (p1 : Int32) (p2 : Int32) (v3 : Int32) (σ : zSt) : Option (zSt) := zgs σ 46 v3 8 p1 (fun σ5 => some σ5)
def B_X1_insert_2 (p1 : Int32) (p2 : Int32) (K2 : (Int32 → zSt → Option (zSt))) (v3 : Int32) (σ : zSt) : Option (zSt) := (if v3 ≤ 0 then B_X1_insert_38 p1 p2 v3 σ else zga (σ 46) (v3 - (1 : Int32)) 8 (fun x1 => (if x1 ≤ p1 then B_X1_insert_38 p1 p2 v3 σ else zga (σ 46) (v3 - (1 : Int32)) 8 (fun x2 => zgs σ 46 v3 8 x2 (fun σ3 => znm (v3 + (-1 : Int32)) (fun x4 => K2 x4 σ3))))))
def L_X1_insert_2 (p1 : Int32) (p2 : Int32) (v3 : Int32) (σ : zSt) : Option (zSt) := zloop (fun (rec : Int32 × zSt → Option (zSt)) x => B_X1_insert_2 p1 p2  (fun v3 σ => rec (v3, σ)) x.1 x.2) zFU (v3, σ)
def M_X1_insert (p1 : Int32) (p2 : Int32) (σ : zSt) : Option (zSt) := L_X1_insert_2 p1 p2 p2 σ
set_option maxRecDepth 20000 in
theorem tB_X1_insert_38 {p : Program} {l : Launch} {e : Env} {s : State} {m : MethodId} {args : Array Value} {below : List Frame} {meth : Method} {c : Code} {D : va_G} {a : Nat → Nat} {cI cO cA : ClassId} {o : zSt} (C : zC p s m args meth c D (ztys cI cO cA) 51 a cX1_insert 4 RX1 none) {p1 : Int32} {p2 : Int32}  (v3 : Int32) (σ : zSt) (h : B_X1_insert_38 p1 p2  v3 σ = some o) : zV p l e rm_X1_insert s m args below meth c D 51 a (fX a cI cO cA) 4 (zQv below args s D 51 a (fX a cI cO cA) o) σ 38 [some (.ref (a 44)), some (.int p1), none, some (.int v3)] [] := by
  unfold B_X1_insert_38 at h
  refine r_aload_n (x := (a 44)) C dX1_insert_38 rfl ?_
  refine gf_X1_15 C dX1_insert_39 ?_
  refine r_iload_n (x := v3) C dX1_insert_42 rfl ?_
  refine r_iload_n (x := p1) C dX1_insert_43 rfl ?_
  refine r_iast (t0 := 0) C 46 aX_46 rfl dX1_insert_44 h (fun σ5 h => ?_)
  exact r_vret C dX1_insert_45 h
set_option maxRecDepth 20000 in
theorem tB_X1_insert_2 {p : Program} {l : Launch} {e : Env} {s : State} {m : MethodId} {args : Array Value} {below : List Frame} {meth : Method} {c : Code} {D : va_G} {a : Nat → Nat} {cI cO cA : ClassId} {o : zSt} (C : zC p s m args meth c D (ztys cI cO cA) 51 a cX1_insert 4 RX1 none) {p1 : Int32} {p2 : Int32} {K2 : (Int32 → zSt → Option (zSt))} (hK2 : ∀ (v3 : Int32) (σ : zSt), K2 v3 σ = some o → zV p l e rm_X1_insert s m args below meth c D 51 a (fX a cI cO cA) 4 (zQv below args s D 51 a (fX a cI cO cA) o) σ 2 [some (.ref (a 44)), some (.int p1), none, some (.int v3)] []) (v3 : Int32) (σ : zSt) (h : B_X1_insert_2 p1 p2 K2 v3 σ = some o) : zV p l e rm_X1_insert s m args below meth c D 51 a (fX a cI cO cA) 4 (zQv below args s D 51 a (fX a cI cO cA) o) σ 2 [some (.ref (a 44)), some (.int p1), none, some (.int v3)] [] := by
  unfold B_X1_insert_2 at h
  refine r_iload_n (x := v3) C dX1_insert_2 rfl ?_
  refine r_if_le (tgt := 38) C dX1_insert_3 (by decide) h (fun h => ?_) (fun h => ?_)
  · exact r_le (lv' := [some (.ref (a 44)), some (.int p1), none, some (.int v3)]) ⟨rfl, rfl, rfl, trivial⟩ (tB_X1_insert_38 C v3 σ h)
  · refine r_aload_n (x := (a 44)) C dX1_insert_6 rfl ?_
    refine gf_X1_15 C dX1_insert_7 ?_
    refine r_iload_n (x := v3) C dX1_insert_10 rfl ?_
    refine r_iconst (v := 1) C dX1_insert_11 (by decide) ?_
    refine r_isub C dX1_insert_12 ?_
    refine r_iald (t0 := 0) C 46 aX_46 rfl dX1_insert_13 h (fun x1 h => ?_)
    refine r_iload_n (x := p1) C dX1_insert_14 rfl ?_
    refine r_icmp_le (tgt := 38) C dX1_insert_15 (by decide) h (fun h => ?_) (fun h => ?_)
    · exact r_le (lv' := [some (.ref (a 44)), some (.int p1), none, some (.int v3)]) ⟨rfl, rfl, rfl, trivial⟩ (tB_X1_insert_38 C v3 σ h)
    · refine r_aload_n (x := (a 44)) C dX1_insert_18 rfl ?_
      refine gf_X1_15 C dX1_insert_19 ?_
      refine r_iload_n (x := v3) C dX1_insert_22 rfl ?_
      refine r_aload_n (x := (a 44)) C dX1_insert_23 rfl ?_
      refine gf_X1_15 C dX1_insert_24 ?_
      refine r_iload_n (x := v3) C dX1_insert_27 rfl ?_
      refine r_iconst (v := 1) C dX1_insert_28 (by decide) ?_
      refine r_isub C dX1_insert_29 ?_
      refine r_iald (t0 := 0) C 46 aX_46 rfl dX1_insert_30 h (fun x2 h => ?_)
      refine r_iast (t0 := 0) C 46 aX_46 rfl dX1_insert_31 h (fun σ3 h => ?_)
      refine r_gen h (fun x4 ex4 h => ?_)
      refine r_iinc (x := v3) (v := x4) (lv' := [some (.ref (a 44)), some (.int p1), none, some (.int x4)]) C dX1_insert_32 rfl (by rw [← ex4]; rfl) (by decide) rfl rfl ?_
      clear ex4
      refine r_goto (tgt := 2) C dX1_insert_35 (by decide) ?_
      exact r_le (lv' := [some (.ref (a 44)), some (.int p1), none, some (.int x4)]) ⟨rfl, rfl, rfl, trivial⟩ (hK2 x4 σ3 h)
set_option maxRecDepth 20000 in
theorem tL_X1_insert_2 {p : Program} {l : Launch} {e : Env} {s : State} {m : MethodId} {args : Array Value} {below : List Frame} {meth : Method} {c : Code} {D : va_G} {a : Nat → Nat} {cI cO cA : ClassId} {o : zSt} (C : zC p s m args meth c D (ztys cI cO cA) 51 a cX1_insert 4 RX1 none) {p1 : Int32} {p2 : Int32}  (v3 : Int32) (σ : zSt) (h : L_X1_insert_2 p1 p2  v3 σ = some o) : zV p l e rm_X1_insert s m args below meth c D 51 a (fX a cI cO cA) 4 (zQv below args s D 51 a (fX a cI cO cA) o) σ 2 [some (.ref (a 44)), some (.int p1), none, some (.int v3)] [] := by
  unfold L_X1_insert_2 at h
  refine zloop_ind (G := fun x => zV p l e rm_X1_insert s m args below meth c D 51 a (fX a cI cO cA) 4 (zQv below args s D 51 a (fX a cI cO cA) o) x.2 2 [some (.ref (a 44)), some (.int p1), none, some (.int x.1)] []) ?_ zFU _ h
  intro rec hr x h
  exact tB_X1_insert_2 C   (fun v3 σ => hr (v3, σ)) _ _ h
set_option maxRecDepth 20000 in
theorem c_X1_insert {l : Launch} {D : va_G} {a : Nat → Nat} {cI cO cA : ClassId} (hinj : ∀ i j, i < 51 → j < 51 → a i = a j → i = j) {p1 : Int32} {p2 : Int32} {σ : zSt} {o : zSt} (h : M_X1_insert p1 p2 σ = some o) : zMv l D (ztys cI cO cA) 51 a (fX a cI cO cA) yX1_insert cX1_insert 4 none rm_X1_insert [.ref (a 44), .int p1, .int p2] σ o := by
  unfold M_X1_insert at h
  refine zmetv (own := RX1) [some (.ref (a 44)), some (.int p1), some (.int p2), none] (by decide) rfl hinj (Nat.le_of_ble_eq_true rfl) rfl (fun p e s m args below meth c C => ?_)
  refine r_iload_n (x := p2) C dX1_insert_0 rfl ?_
  refine r_istore_n (lv' := [some (.ref (a 44)), some (.int p1), some (.int p2), some (.int p2)]) C dX1_insert_1 (by decide) rfl rfl ?_
  exact r_le (lv' := [some (.ref (a 44)), some (.int p1), none, some (.int p2)]) ⟨rfl, rfl, rfl, trivial⟩ (tL_X1_insert_2 C p2 σ h)
/-! VineRows$Shape.gather -/
abbrev rm_X1_gather : Room := { frames := 1, cells := 0, slots := 0, locals := 23 }
def B_X1_gather_65 (b1 : Nat) (p2 : Int32) (p3 : Int32) (K6 : (Int32 → Int32 → zSt → Option (Int32 × zSt))) (v4 : Int32) (v5 : Int32) (σ : zSt) : Option (Int32 × zSt) := znm (v5 + (1 : Int32)) (fun x10 => K6 v4 x10 σ)
def B_X1_gather_6 (b1 : Nat) (p2 : Int32) (p3 : Int32) (K6 : (Int32 → Int32 → zSt → Option (Int32 × zSt))) (v4 : Int32) (v5 : Int32) (σ : zSt) : Option (Int32 × zSt) := znm (σ b1 0) (fun x1 => (if x1 ≤ v5 then some (v4, σ) else zga (σ (b1 + 3)) p3 8 (fun x2 => (if (zbt x2 v5) = 0 then B_X1_gather_65 b1 p2 p3 K6 v4 v5 σ else zgr p2 8 (b1 + 9) (fun q3 => zga (σ q3) v5 8 (fun x4 => zgr p2 8 (b1 + 9) (fun q5 => zga (σ q5) p3 8 (fun x6 => (if x4 ≤ x6 then B_X1_gather_65 b1 p2 p3 K6 v4 v5 σ else zga (σ 45) v5 8 (fun x7 => zbv (M_X1_insert x7 v4 σ) (fun σ8 => znm (v4 + (1 : Int32)) (fun x9 => B_X1_gather_65 b1 p2 p3 K6 x9 v5 σ8))))))))))))
def L_X1_gather_6 (b1 : Nat) (p2 : Int32) (p3 : Int32) (v4 : Int32) (v5 : Int32) (σ : zSt) : Option (Int32 × zSt) := zloop (fun (rec : Int32 × Int32 × zSt → Option (Int32 × zSt)) x => B_X1_gather_6 b1 p2 p3  (fun v4 v5 σ => rec (v4, v5, σ)) x.1 x.2.1 x.2.2) zFU (v4, v5, σ)
def M_X1_gather (b1 : Nat) (p2 : Int32) (p3 : Int32) (σ : zSt) : Option (Int32 × zSt) := L_X1_gather_6 b1 p2 p3 (0 : Int32) (0 : Int32) σ
set_option maxRecDepth 20000 in
theorem tB_X1_gather_65 {p : Program} {l : Launch} {e : Env} {s : State} {m : MethodId} {args : Array Value} {below : List Frame} {meth : Method} {c : Code} {D : va_G} {a : Nat → Nat} {cI cO cA : ClassId} {o : Int32 × zSt} (C : zC p s m args meth c D (ztys cI cO cA) 51 a cX1_gather 6 RX1 (some .int)) {b1 : Nat} {p2 : Int32} {p3 : Int32} (hb1 : b1 = 10 ∨ b1 = 27) {K6 : (Int32 → Int32 → zSt → Option (Int32 × zSt))} (hK6 : ∀ (v4 : Int32) (v5 : Int32) (σ : zSt), K6 v4 v5 σ = some o → zV p l e rm_X1_gather s m args below meth c D 51 a (fX a cI cO cA) 6 (zQi below args s D 51 a (fX a cI cO cA) o) σ 6 [some (.ref (a 44)), some (.ref (a b1)), some (.int p2), some (.int p3), some (.int v4), some (.int v5)] []) (v4 : Int32) (v5 : Int32) (σ : zSt) (h : B_X1_gather_65 b1 p2 p3 K6 v4 v5 σ = some o) : zV p l e rm_X1_gather s m args below meth c D 51 a (fX a cI cO cA) 6 (zQi below args s D 51 a (fX a cI cO cA) o) σ 65 [some (.ref (a 44)), some (.ref (a b1)), some (.int p2), some (.int p3), some (.int v4), some (.int v5)] [] := by
  unfold B_X1_gather_65 at h
  refine r_gen h (fun x10 ex10 h => ?_)
  refine r_iinc (x := v5) (v := x10) (lv' := [some (.ref (a 44)), some (.ref (a b1)), some (.int p2), some (.int p3), some (.int v4), some (.int x10)]) C dX1_gather_65 rfl (by rw [← ex10]; rfl) (by decide) rfl rfl ?_
  clear ex10
  refine r_goto (tgt := 6) C dX1_gather_68 (by decide) ?_
  exact r_le (lv' := [some (.ref (a 44)), some (.ref (a b1)), some (.int p2), some (.int p3), some (.int v4), some (.int x10)]) ⟨rfl, rfl, rfl, rfl, rfl, rfl, trivial⟩ (hK6 v4 x10 σ h)
set_option maxRecDepth 20000 in
theorem tB_X1_gather_6 {p : Program} {l : Launch} {e : Env} {s : State} {m : MethodId} {args : Array Value} {below : List Frame} {meth : Method} {c : Code} {D : va_G} {a : Nat → Nat} {cI cO cA : ClassId} {o : Int32 × zSt} (C : zC p s m args meth c D (ztys cI cO cA) 51 a cX1_gather 6 RX1 (some .int)) {b1 : Nat} {p2 : Int32} {p3 : Int32} (hb1 : b1 = 10 ∨ b1 = 27) {K6 : (Int32 → Int32 → zSt → Option (Int32 × zSt))} (hK6 : ∀ (v4 : Int32) (v5 : Int32) (σ : zSt), K6 v4 v5 σ = some o → zV p l e rm_X1_gather s m args below meth c D 51 a (fX a cI cO cA) 6 (zQi below args s D 51 a (fX a cI cO cA) o) σ 6 [some (.ref (a 44)), some (.ref (a b1)), some (.int p2), some (.int p3), some (.int v4), some (.int v5)] []) (v4 : Int32) (v5 : Int32) (σ : zSt) (h : B_X1_gather_6 b1 p2 p3 K6 v4 v5 σ = some o) : zV p l e rm_X1_gather s m args below meth c D 51 a (fX a cI cO cA) 6 (zQi below args s D 51 a (fX a cI cO cA) o) σ 6 [some (.ref (a 44)), some (.ref (a b1)), some (.int p2), some (.int p3), some (.int v4), some (.int v5)] [] := by
  unfold B_X1_gather_6 at h
  refine r_iload (x := v5) C dX1_gather_6 rfl ?_
  refine r_aload_n (x := (a b1)) C dX1_gather_8 rfl ?_
  refine gf_X1_26 C hb1 dX1_gather_9 h (fun x1 h => ?_)
  refine r_icmp_ge (tgt := 71) C dX1_gather_12 (by decide) h (fun h => ?_) (fun h => ?_)
  · refine r_iload (x := v4) C dX1_gather_71 rfl ?_
    exact r_iret C dX1_gather_73 h
  · refine r_aload_n (x := (a b1)) C dX1_gather_15 rfl ?_
    refine gf_X1_43 C hb1 dX1_gather_16 ?_
    refine r_iload_n (x := p3) C dX1_gather_19 rfl ?_
    refine r_iald (t0 := 0) C (b1 + 3) (aX_v3 hb1) rfl dX1_gather_20 h (fun x2 h => ?_)
    refine r_iload (x := v5) C dX1_gather_21 rfl ?_
    refine r_ishr C dX1_gather_23 ?_
    refine r_iconst (v := 1) C dX1_gather_24 (by decide) ?_
    refine r_iand C dX1_gather_25 ?_
    refine r_if_eq (tgt := 65) C dX1_gather_26 (by decide) h (fun h => ?_) (fun h => ?_)
    · exact r_le (lv' := [some (.ref (a 44)), some (.ref (a b1)), some (.int p2), some (.int p3), some (.int v4), some (.int v5)]) ⟨rfl, rfl, rfl, rfl, rfl, rfl, trivial⟩ (tB_X1_gather_65 C hb1 (K6 := K6) hK6 v4 v5 σ h)
    · refine r_aload_n (x := (a b1)) C dX1_gather_29 rfl ?_
      refine gf_X1_31 C hb1 dX1_gather_30 ?_
      refine r_iload_n (x := p2) C dX1_gather_33 rfl ?_
      refine r_aald (t0 := 2) C (b1 + 4) (aX_away hb1) rfl rfl dX1_gather_34 h (fun q3 hq3 lq3 h => ?_)
      refine r_iload (x := v5) C dX1_gather_35 rfl ?_
      refine r_iald (t0 := 0) C q3 (aX_row hb1 hq3 lq3) rfl dX1_gather_37 h (fun x4 h => ?_)
      refine r_aload_n (x := (a b1)) C dX1_gather_38 rfl ?_
      refine gf_X1_31 C hb1 dX1_gather_39 ?_
      refine r_iload_n (x := p2) C dX1_gather_42 rfl ?_
      refine r_aald (t0 := 2) C (b1 + 4) (aX_away hb1) rfl rfl dX1_gather_43 h (fun q5 hq5 lq5 h => ?_)
      refine r_iload_n (x := p3) C dX1_gather_44 rfl ?_
      refine r_iald (t0 := 0) C q5 (aX_row hb1 hq5 lq5) rfl dX1_gather_45 h (fun x6 h => ?_)
      refine r_icmp_le (tgt := 65) C dX1_gather_46 (by decide) h (fun h => ?_) (fun h => ?_)
      · exact r_le (lv' := [some (.ref (a 44)), some (.ref (a b1)), some (.int p2), some (.int p3), some (.int v4), some (.int v5)]) ⟨rfl, rfl, rfl, rfl, rfl, rfl, trivial⟩ (tB_X1_gather_65 C hb1 (K6 := K6) hK6 v4 v5 σ h)
      · refine r_aload_n (x := (a 44)) C dX1_gather_49 rfl ?_
        refine r_aload_n (x := (a 44)) C dX1_gather_50 rfl ?_
        refine gf_X1_9 C dX1_gather_51 ?_
        refine r_iload (x := v5) C dX1_gather_54 rfl ?_
        refine r_iald (t0 := 0) C 45 aX_45 rfl dX1_gather_56 h (fun x7 h => ?_)
        refine r_iload (x := v4) C dX1_gather_57 rfl ?_
        refine r_callVv C [.int x7, .int v4] [] (b := 44) (by decide) fX_44 rfl rfl zc_X1_46 zB_X1_insert ⟨rfl, rfl, by decide, by decide⟩ (fun out h => c_X1_insert C.2.2.2.2.2.2.2.1  h) rfl rfl (Nat.le_of_ble_eq_true rfl) dX1_gather_59 h (fun σ8 h => ?_)
        refine r_gen h (fun x9 ex9 h => ?_)
        refine r_iinc (x := v4) (v := x9) (lv' := [some (.ref (a 44)), some (.ref (a b1)), some (.int p2), some (.int p3), some (.int x9), some (.int v5)]) C dX1_gather_62 rfl (by rw [← ex9]; rfl) (by decide) rfl rfl ?_
        clear ex9
        exact r_le (lv' := [some (.ref (a 44)), some (.ref (a b1)), some (.int p2), some (.int p3), some (.int x9), some (.int v5)]) ⟨rfl, rfl, rfl, rfl, rfl, rfl, trivial⟩ (tB_X1_gather_65 C hb1 (K6 := K6) hK6 x9 v5 σ8 h)
set_option maxRecDepth 20000 in
theorem tL_X1_gather_6 {p : Program} {l : Launch} {e : Env} {s : State} {m : MethodId} {args : Array Value} {below : List Frame} {meth : Method} {c : Code} {D : va_G} {a : Nat → Nat} {cI cO cA : ClassId} {o : Int32 × zSt} (C : zC p s m args meth c D (ztys cI cO cA) 51 a cX1_gather 6 RX1 (some .int)) {b1 : Nat} {p2 : Int32} {p3 : Int32} (hb1 : b1 = 10 ∨ b1 = 27)  (v4 : Int32) (v5 : Int32) (σ : zSt) (h : L_X1_gather_6 b1 p2 p3  v4 v5 σ = some o) : zV p l e rm_X1_gather s m args below meth c D 51 a (fX a cI cO cA) 6 (zQi below args s D 51 a (fX a cI cO cA) o) σ 6 [some (.ref (a 44)), some (.ref (a b1)), some (.int p2), some (.int p3), some (.int v4), some (.int v5)] [] := by
  unfold L_X1_gather_6 at h
  refine zloop_ind (G := fun x => zV p l e rm_X1_gather s m args below meth c D 51 a (fX a cI cO cA) 6 (zQi below args s D 51 a (fX a cI cO cA) o) x.2.2 6 [some (.ref (a 44)), some (.ref (a b1)), some (.int p2), some (.int p3), some (.int x.1), some (.int x.2.1)] []) ?_ zFU _ h
  intro rec hr x h
  exact tB_X1_gather_6 C hb1  (fun v4 v5 σ => hr (v4, v5, σ)) _ _ _ h
set_option maxRecDepth 20000 in
theorem c_X1_gather {l : Launch} {D : va_G} {a : Nat → Nat} {cI cO cA : ClassId} (hinj : ∀ i j, i < 51 → j < 51 → a i = a j → i = j) {b1 : Nat} {p2 : Int32} {p3 : Int32} (hb1 : b1 = 10 ∨ b1 = 27) {σ : zSt} {o : Int32 × zSt} (h : M_X1_gather b1 p2 p3 σ = some o) : zMi l D (ztys cI cO cA) 51 a (fX a cI cO cA) yX1_gather cX1_gather 6 (some .int) rm_X1_gather [.ref (a 44), .ref (a b1), .int p2, .int p3] σ o := by
  unfold M_X1_gather at h
  refine zmeti (own := RX1) [some (.ref (a 44)), some (.ref (a b1)), some (.int p2), some (.int p3), none, none] (by decide) rfl hinj (Nat.le_of_ble_eq_true rfl) rfl (fun p e s m args below meth c C => ?_)
  refine r_iconst (v := 0) C dX1_gather_0 (by decide) ?_
  refine r_istore (lv' := [some (.ref (a 44)), some (.ref (a b1)), some (.int p2), some (.int p3), some (.int (0 : Int32)), none]) C dX1_gather_1 (by decide) rfl rfl ?_
  refine r_iconst (v := 0) C dX1_gather_3 (by decide) ?_
  refine r_istore (lv' := [some (.ref (a 44)), some (.ref (a b1)), some (.int p2), some (.int p3), some (.int (0 : Int32)), some (.int (0 : Int32))]) C dX1_gather_4 (by decide) rfl rfl ?_
  exact r_le (lv' := [some (.ref (a 44)), some (.ref (a b1)), some (.int p2), some (.int p3), some (.int (0 : Int32)), some (.int (0 : Int32))]) ⟨rfl, rfl, rfl, rfl, rfl, rfl, trivial⟩ (tL_X1_gather_6 C hb1 (0 : Int32) (0 : Int32) σ h)
/-! java/lang/Integer.bitCount_0f7a4 -/
abbrev rm_J6_bitCount_0f7a4 : Room := { frames := 0, cells := 0, slots := 0, locals := 0 }
def M_J6_bitCount_0f7a4 (p1 : Int32) (σ : zSt) : Option (Int32 × zSt) := znm ((p1 - (((p1).toUInt32 >>> (((1 : Int32)).toUInt32 &&& Int32.toUInt32 31)).toInt32 &&& (1431655765 : Int32)))) (fun x1 => znm (((x1 &&& (858993459 : Int32)) + (((x1).toUInt32 >>> (((2 : Int32)).toUInt32 &&& Int32.toUInt32 31)).toInt32 &&& (858993459 : Int32)))) (fun x2 => znm (((x2 + ((x2).toUInt32 >>> (((4 : Int32)).toUInt32 &&& Int32.toUInt32 31)).toInt32) &&& (252645135 : Int32))) (fun x3 => znm ((x3 + ((x3).toUInt32 >>> (((8 : Int32)).toUInt32 &&& Int32.toUInt32 31)).toInt32)) (fun x4 => znm ((x4 + ((x4).toUInt32 >>> (((16 : Int32)).toUInt32 &&& Int32.toUInt32 31)).toInt32)) (fun x5 => some ((x5 &&& (63 : Int32)), σ))))))
set_option maxRecDepth 20000 in
theorem c_J6_bitCount_0f7a4 {l : Launch} {D : va_G} {a : Nat → Nat} {cI cO cA : ClassId} (hinj : ∀ i j, i < 51 → j < 51 → a i = a j → i = j) {p1 : Int32} {σ : zSt} {o : Int32 × zSt} (h : M_J6_bitCount_0f7a4 p1 σ = some o) : zMi l D (ztys cI cO cA) 51 a (fX a cI cO cA) yJ6_bitCount_0f7a4 cJ6_bitCount_0f7a4 1 (some .int) rm_J6_bitCount_0f7a4 [.int p1] σ o := by
  unfold M_J6_bitCount_0f7a4 at h
  refine zmeti (own := RJ6) [some (.int p1)] (by decide) rfl hinj (Nat.le_of_ble_eq_true rfl) rfl (fun p e s m args below meth c C => ?_)
  refine r_iload_n (x := p1) C dJ6_bitCount_0f7a4_0 rfl ?_
  refine r_iload_n (x := p1) C dJ6_bitCount_0f7a4_1 rfl ?_
  refine r_iconst (v := 1) C dJ6_bitCount_0f7a4_2 (by decide) ?_
  refine r_iushr C dJ6_bitCount_0f7a4_3 ?_
  refine r_ldcw C zw36 dJ6_bitCount_0f7a4_4 ?_
  refine r_iand C dJ6_bitCount_0f7a4_7 ?_
  refine r_isub C dJ6_bitCount_0f7a4_8 ?_
  refine r_nm h (fun x1 h => ?_)
  refine r_istore_n (lv' := [some (.int x1)]) C dJ6_bitCount_0f7a4_9 (by decide) rfl rfl ?_
  refine r_iload_n (x := x1) C dJ6_bitCount_0f7a4_10 rfl ?_
  refine r_ldcw C zw37 dJ6_bitCount_0f7a4_11 ?_
  refine r_iand C dJ6_bitCount_0f7a4_14 ?_
  refine r_iload_n (x := x1) C dJ6_bitCount_0f7a4_15 rfl ?_
  refine r_iconst (v := 2) C dJ6_bitCount_0f7a4_16 (by decide) ?_
  refine r_iushr C dJ6_bitCount_0f7a4_17 ?_
  refine r_ldcw C zw37 dJ6_bitCount_0f7a4_18 ?_
  refine r_iand C dJ6_bitCount_0f7a4_21 ?_
  refine r_iadd C dJ6_bitCount_0f7a4_22 ?_
  refine r_nm h (fun x2 h => ?_)
  refine r_istore_n (lv' := [some (.int x2)]) C dJ6_bitCount_0f7a4_23 (by decide) rfl rfl ?_
  refine r_iload_n (x := x2) C dJ6_bitCount_0f7a4_24 rfl ?_
  refine r_iload_n (x := x2) C dJ6_bitCount_0f7a4_25 rfl ?_
  refine r_iconst (v := 4) C dJ6_bitCount_0f7a4_26 (by decide) ?_
  refine r_iushr C dJ6_bitCount_0f7a4_27 ?_
  refine r_iadd C dJ6_bitCount_0f7a4_28 ?_
  refine r_ldcw C zw38 dJ6_bitCount_0f7a4_29 ?_
  refine r_iand C dJ6_bitCount_0f7a4_32 ?_
  refine r_nm h (fun x3 h => ?_)
  refine r_istore_n (lv' := [some (.int x3)]) C dJ6_bitCount_0f7a4_33 (by decide) rfl rfl ?_
  refine r_iload_n (x := x3) C dJ6_bitCount_0f7a4_34 rfl ?_
  refine r_iload_n (x := x3) C dJ6_bitCount_0f7a4_35 rfl ?_
  refine r_bipush (v := 8) C dJ6_bitCount_0f7a4_36 (by decide) ?_
  refine r_iushr C dJ6_bitCount_0f7a4_38 ?_
  refine r_iadd C dJ6_bitCount_0f7a4_39 ?_
  refine r_nm h (fun x4 h => ?_)
  refine r_istore_n (lv' := [some (.int x4)]) C dJ6_bitCount_0f7a4_40 (by decide) rfl rfl ?_
  refine r_iload_n (x := x4) C dJ6_bitCount_0f7a4_41 rfl ?_
  refine r_iload_n (x := x4) C dJ6_bitCount_0f7a4_42 rfl ?_
  refine r_bipush (v := 16) C dJ6_bitCount_0f7a4_43 (by decide) ?_
  refine r_iushr C dJ6_bitCount_0f7a4_45 ?_
  refine r_iadd C dJ6_bitCount_0f7a4_46 ?_
  refine r_nm h (fun x5 h => ?_)
  refine r_istore_n (lv' := [some (.int x5)]) C dJ6_bitCount_0f7a4_47 (by decide) rfl rfl ?_
  refine r_iload_n (x := x5) C dJ6_bitCount_0f7a4_48 rfl ?_
  refine r_bipush (v := 63) C dJ6_bitCount_0f7a4_49 (by decide) ?_
  refine r_iand C dJ6_bitCount_0f7a4_51 ?_
  exact r_iret C dJ6_bitCount_0f7a4_52 h
/-! VineRows$Shape.join -/
abbrev rm_X1_join : Room := { frames := 1, cells := 0, slots := 0, locals := 20 }
def B_X1_join_46 (p1 : Int32) (p2 : Int32) (K8 : (Int32 → Int32 → Int32 → zSt → Option (zSt))) (v3 : Int32) (v5 : Int32) (s0 : Int32) (σ : zSt) : Option (zSt) := znm (σ 44 2) (fun x4 => znm (zsu σ 44 (upd (σ 44) 2 (x4 * s0))) (fun σ5 => zga (σ5 46) v5 8 (fun x6 => zbd (M_J6_bitCount_0f7a4 x6 σ5) (fun x8 σ7 => zga (σ7 46) v5 8 (fun x9 => znm (((v3 <<< (((2 : Int32) * x8) &&& 31)) ||| x9)) (fun x10 => znm (v5 + (1 : Int32)) (fun x11 => K8 x10 s0 x11 σ7)))))))
def B_X1_join_45 (p1 : Int32) (p2 : Int32) (K8 : (Int32 → Int32 → Int32 → zSt → Option (zSt))) (v3 : Int32) (v5 : Int32) (σ : zSt) : Option (zSt) := B_X1_join_46 p1 p2 K8 v3 v5 (1 : Int32) σ
def B_X1_join_8 (p1 : Int32) (p2 : Int32) (K8 : (Int32 → Int32 → Int32 → zSt → Option (zSt))) (v3 : Int32) (v4 : Int32) (v5 : Int32) (σ : zSt) : Option (zSt) := (if p1 ≤ v5 then zgs σ 45 p2 8 (v3 <<< ((1 : Int32) &&& 31)) (fun σ1 => some σ1) else (if v5 ≤ 0 then B_X1_join_45 p1 p2 K8 v3 v5 σ else zga (σ 46) v5 8 (fun x2 => zga (σ 46) (v5 - (1 : Int32)) 8 (fun x3 => (if x2 = x3 then B_X1_join_46 p1 p2 K8 v3 v5 (v4 + (1 : Int32)) σ else B_X1_join_45 p1 p2 K8 v3 v5 σ)))))
def L_X1_join_8 (p1 : Int32) (p2 : Int32) (v3 : Int32) (v4 : Int32) (v5 : Int32) (σ : zSt) : Option (zSt) := zloop (fun (rec : Int32 × Int32 × Int32 × zSt → Option (zSt)) x => B_X1_join_8 p1 p2  (fun v3 v4 v5 σ => rec (v3, v4, v5, σ)) x.1 x.2.1 x.2.2.1 x.2.2.2) zFU (v3, v4, v5, σ)
def M_X1_join (p1 : Int32) (p2 : Int32) (σ : zSt) : Option (zSt) := L_X1_join_8 p1 p2 (1 : Int32) (0 : Int32) (0 : Int32) σ
set_option maxRecDepth 20000 in
theorem tB_X1_join_46 {p : Program} {l : Launch} {e : Env} {s : State} {m : MethodId} {args : Array Value} {below : List Frame} {meth : Method} {c : Code} {D : va_G} {a : Nat → Nat} {cI cO cA : ClassId} {o : zSt} (C : zC p s m args meth c D (ztys cI cO cA) 51 a cX1_join 6 RX1 none) {p1 : Int32} {p2 : Int32} {K8 : (Int32 → Int32 → Int32 → zSt → Option (zSt))} (hK8 : ∀ (v3 : Int32) (v4 : Int32) (v5 : Int32) (σ : zSt), K8 v3 v4 v5 σ = some o → zV p l e rm_X1_join s m args below meth c D 51 a (fX a cI cO cA) 6 (zQv below args s D 51 a (fX a cI cO cA) o) σ 8 [some (.ref (a 44)), some (.int p1), some (.int p2), some (.int v3), some (.int v4), some (.int v5)] []) (v3 : Int32) (v5 : Int32) (s0 : Int32) (σ : zSt) (h : B_X1_join_46 p1 p2 K8 v3 v5 s0 σ = some o) : zV p l e rm_X1_join s m args below meth c D 51 a (fX a cI cO cA) 6 (zQv below args s D 51 a (fX a cI cO cA) o) σ 46 [some (.ref (a 44)), some (.int p1), some (.int p2), some (.int v3), none, some (.int v5)] [.int s0] := by
  unfold B_X1_join_46 at h
  refine r_istore (lv' := [some (.ref (a 44)), some (.int p1), some (.int p2), some (.int v3), some (.int s0), some (.int v5)]) C dX1_join_46 (by decide) rfl rfl ?_
  refine r_aload_n (x := (a 44)) C dX1_join_48 rfl ?_
  refine r_dup C dX1_join_49 rfl ?_
  refine gf_X1_22 C dX1_join_50 h (fun x4 h => ?_)
  refine r_iload (x := s0) C dX1_join_53 rfl ?_
  refine r_imul C dX1_join_55 ?_
  refine pf_X1_22 C dX1_join_56 h (fun σ5 h => ?_)
  refine r_iload_n (x := v3) C dX1_join_59 rfl ?_
  refine r_iconst (v := 2) C dX1_join_60 (by decide) ?_
  refine r_aload_n (x := (a 44)) C dX1_join_61 rfl ?_
  refine gf_X1_15 C dX1_join_62 ?_
  refine r_iload (x := v5) C dX1_join_65 rfl ?_
  refine r_iald (t0 := 0) C 46 aX_46 rfl dX1_join_67 h (fun x6 h => ?_)
  refine r_callSi C [.int x6] [.int (2 : Int32), .int v3] zc_X1_49 zB_J6_bitCount_0f7a4 ⟨rfl, rfl, by decide, by decide⟩ (fun out h => c_J6_bitCount_0f7a4 C.2.2.2.2.2.2.2.1  h) rfl rfl (Nat.le_of_ble_eq_true rfl) dX1_join_68 h (fun x8 σ7 h => ?_)
  refine r_imul C dX1_join_71 ?_
  refine r_ishl C dX1_join_72 ?_
  refine r_aload_n (x := (a 44)) C dX1_join_73 rfl ?_
  refine gf_X1_15 C dX1_join_74 ?_
  refine r_iload (x := v5) C dX1_join_77 rfl ?_
  refine r_iald (t0 := 0) C 46 aX_46 rfl dX1_join_79 h (fun x9 h => ?_)
  refine r_ior C dX1_join_80 ?_
  refine r_nm h (fun x10 h => ?_)
  refine r_istore_n (lv' := [some (.ref (a 44)), some (.int p1), some (.int p2), some (.int x10), some (.int s0), some (.int v5)]) C dX1_join_81 (by decide) rfl rfl ?_
  refine r_gen h (fun x11 ex11 h => ?_)
  refine r_iinc (x := v5) (v := x11) (lv' := [some (.ref (a 44)), some (.int p1), some (.int p2), some (.int x10), some (.int s0), some (.int x11)]) C dX1_join_82 rfl (by rw [← ex11]; rfl) (by decide) rfl rfl ?_
  clear ex11
  refine r_goto (tgt := 8) C dX1_join_85 (by decide) ?_
  exact r_le (lv' := [some (.ref (a 44)), some (.int p1), some (.int p2), some (.int x10), some (.int s0), some (.int x11)]) ⟨rfl, rfl, rfl, rfl, rfl, rfl, trivial⟩ (hK8 x10 s0 x11 σ7 h)
set_option maxRecDepth 20000 in
theorem tB_X1_join_45 {p : Program} {l : Launch} {e : Env} {s : State} {m : MethodId} {args : Array Value} {below : List Frame} {meth : Method} {c : Code} {D : va_G} {a : Nat → Nat} {cI cO cA : ClassId} {o : zSt} (C : zC p s m args meth c D (ztys cI cO cA) 51 a cX1_join 6 RX1 none) {p1 : Int32} {p2 : Int32} {K8 : (Int32 → Int32 → Int32 → zSt → Option (zSt))} (hK8 : ∀ (v3 : Int32) (v4 : Int32) (v5 : Int32) (σ : zSt), K8 v3 v4 v5 σ = some o → zV p l e rm_X1_join s m args below meth c D 51 a (fX a cI cO cA) 6 (zQv below args s D 51 a (fX a cI cO cA) o) σ 8 [some (.ref (a 44)), some (.int p1), some (.int p2), some (.int v3), some (.int v4), some (.int v5)] []) (v3 : Int32) (v5 : Int32) (σ : zSt) (h : B_X1_join_45 p1 p2 K8 v3 v5 σ = some o) : zV p l e rm_X1_join s m args below meth c D 51 a (fX a cI cO cA) 6 (zQv below args s D 51 a (fX a cI cO cA) o) σ 45 [some (.ref (a 44)), some (.int p1), some (.int p2), some (.int v3), none, some (.int v5)] [] := by
  unfold B_X1_join_45 at h
  refine r_iconst (v := 1) C dX1_join_45 (by decide) ?_
  exact r_le (lv' := [some (.ref (a 44)), some (.int p1), some (.int p2), some (.int v3), none, some (.int v5)]) ⟨rfl, rfl, rfl, rfl, rfl, trivial⟩ (tB_X1_join_46 C (K8 := K8) hK8 v3 v5 (1 : Int32) σ h)
set_option maxRecDepth 20000 in
theorem tB_X1_join_8 {p : Program} {l : Launch} {e : Env} {s : State} {m : MethodId} {args : Array Value} {below : List Frame} {meth : Method} {c : Code} {D : va_G} {a : Nat → Nat} {cI cO cA : ClassId} {o : zSt} (C : zC p s m args meth c D (ztys cI cO cA) 51 a cX1_join 6 RX1 none) {p1 : Int32} {p2 : Int32} {K8 : (Int32 → Int32 → Int32 → zSt → Option (zSt))} (hK8 : ∀ (v3 : Int32) (v4 : Int32) (v5 : Int32) (σ : zSt), K8 v3 v4 v5 σ = some o → zV p l e rm_X1_join s m args below meth c D 51 a (fX a cI cO cA) 6 (zQv below args s D 51 a (fX a cI cO cA) o) σ 8 [some (.ref (a 44)), some (.int p1), some (.int p2), some (.int v3), some (.int v4), some (.int v5)] []) (v3 : Int32) (v4 : Int32) (v5 : Int32) (σ : zSt) (h : B_X1_join_8 p1 p2 K8 v3 v4 v5 σ = some o) : zV p l e rm_X1_join s m args below meth c D 51 a (fX a cI cO cA) 6 (zQv below args s D 51 a (fX a cI cO cA) o) σ 8 [some (.ref (a 44)), some (.int p1), some (.int p2), some (.int v3), some (.int v4), some (.int v5)] [] := by
  unfold B_X1_join_8 at h
  refine r_iload (x := v5) C dX1_join_8 rfl ?_
  refine r_iload_n (x := p1) C dX1_join_10 rfl ?_
  refine r_icmp_ge (tgt := 88) C dX1_join_11 (by decide) h (fun h => ?_) (fun h => ?_)
  · refine r_aload_n (x := (a 44)) C dX1_join_88 rfl ?_
    refine gf_X1_9 C dX1_join_89 ?_
    refine r_iload_n (x := p2) C dX1_join_92 rfl ?_
    refine r_iload_n (x := v3) C dX1_join_93 rfl ?_
    refine r_iconst (v := 1) C dX1_join_94 (by decide) ?_
    refine r_ishl C dX1_join_95 ?_
    refine r_iast (t0 := 0) C 45 aX_45 rfl dX1_join_96 h (fun σ1 h => ?_)
    exact r_vret C dX1_join_97 h
  · refine r_iload (x := v5) C dX1_join_14 rfl ?_
    refine r_if_le (tgt := 45) C dX1_join_16 (by decide) h (fun h => ?_) (fun h => ?_)
    · exact r_le (lv' := [some (.ref (a 44)), some (.int p1), some (.int p2), some (.int v3), none, some (.int v5)]) ⟨rfl, rfl, rfl, rfl, rfl, trivial⟩ (tB_X1_join_45 C (K8 := K8) hK8 v3 v5 σ h)
    · refine r_aload_n (x := (a 44)) C dX1_join_19 rfl ?_
      refine gf_X1_15 C dX1_join_20 ?_
      refine r_iload (x := v5) C dX1_join_23 rfl ?_
      refine r_iald (t0 := 0) C 46 aX_46 rfl dX1_join_25 h (fun x2 h => ?_)
      refine r_aload_n (x := (a 44)) C dX1_join_26 rfl ?_
      refine gf_X1_15 C dX1_join_27 ?_
      refine r_iload (x := v5) C dX1_join_30 rfl ?_
      refine r_iconst (v := 1) C dX1_join_32 (by decide) ?_
      refine r_isub C dX1_join_33 ?_
      refine r_iald (t0 := 0) C 46 aX_46 rfl dX1_join_34 h (fun x3 h => ?_)
      refine r_icmp_ne (tgt := 45) C dX1_join_35 (by decide) h (fun h => ?_) (fun h => ?_)
      · exact r_le (lv' := [some (.ref (a 44)), some (.int p1), some (.int p2), some (.int v3), none, some (.int v5)]) ⟨rfl, rfl, rfl, rfl, rfl, trivial⟩ (tB_X1_join_45 C (K8 := K8) hK8 v3 v5 σ h)
      · refine r_iload (x := v4) C dX1_join_38 rfl ?_
        refine r_iconst (v := 1) C dX1_join_40 (by decide) ?_
        refine r_iadd C dX1_join_41 ?_
        refine r_goto (tgt := 46) C dX1_join_42 (by decide) ?_
        exact r_le (lv' := [some (.ref (a 44)), some (.int p1), some (.int p2), some (.int v3), none, some (.int v5)]) ⟨rfl, rfl, rfl, rfl, rfl, trivial⟩ (tB_X1_join_46 C (K8 := K8) hK8 v3 v5 (v4 + (1 : Int32)) σ h)
set_option maxRecDepth 20000 in
theorem tL_X1_join_8 {p : Program} {l : Launch} {e : Env} {s : State} {m : MethodId} {args : Array Value} {below : List Frame} {meth : Method} {c : Code} {D : va_G} {a : Nat → Nat} {cI cO cA : ClassId} {o : zSt} (C : zC p s m args meth c D (ztys cI cO cA) 51 a cX1_join 6 RX1 none) {p1 : Int32} {p2 : Int32}  (v3 : Int32) (v4 : Int32) (v5 : Int32) (σ : zSt) (h : L_X1_join_8 p1 p2  v3 v4 v5 σ = some o) : zV p l e rm_X1_join s m args below meth c D 51 a (fX a cI cO cA) 6 (zQv below args s D 51 a (fX a cI cO cA) o) σ 8 [some (.ref (a 44)), some (.int p1), some (.int p2), some (.int v3), some (.int v4), some (.int v5)] [] := by
  unfold L_X1_join_8 at h
  refine zloop_ind (G := fun x => zV p l e rm_X1_join s m args below meth c D 51 a (fX a cI cO cA) 6 (zQv below args s D 51 a (fX a cI cO cA) o) x.2.2.2 8 [some (.ref (a 44)), some (.int p1), some (.int p2), some (.int x.1), some (.int x.2.1), some (.int x.2.2.1)] []) ?_ zFU _ h
  intro rec hr x h
  exact tB_X1_join_8 C   (fun v3 v4 v5 σ => hr (v3, v4, v5, σ)) _ _ _ _ h
set_option maxRecDepth 20000 in
theorem c_X1_join {l : Launch} {D : va_G} {a : Nat → Nat} {cI cO cA : ClassId} (hinj : ∀ i j, i < 51 → j < 51 → a i = a j → i = j) {p1 : Int32} {p2 : Int32} {σ : zSt} {o : zSt} (h : M_X1_join p1 p2 σ = some o) : zMv l D (ztys cI cO cA) 51 a (fX a cI cO cA) yX1_join cX1_join 6 none rm_X1_join [.ref (a 44), .int p1, .int p2] σ o := by
  unfold M_X1_join at h
  refine zmetv (own := RX1) [some (.ref (a 44)), some (.int p1), some (.int p2), none, none, none] (by decide) rfl hinj (Nat.le_of_ble_eq_true rfl) rfl (fun p e s m args below meth c C => ?_)
  refine r_iconst (v := 1) C dX1_join_0 (by decide) ?_
  refine r_istore_n (lv' := [some (.ref (a 44)), some (.int p1), some (.int p2), some (.int (1 : Int32)), none, none]) C dX1_join_1 (by decide) rfl rfl ?_
  refine r_iconst (v := 0) C dX1_join_2 (by decide) ?_
  refine r_istore (lv' := [some (.ref (a 44)), some (.int p1), some (.int p2), some (.int (1 : Int32)), some (.int (0 : Int32)), none]) C dX1_join_3 (by decide) rfl rfl ?_
  refine r_iconst (v := 0) C dX1_join_5 (by decide) ?_
  refine r_istore (lv' := [some (.ref (a 44)), some (.int p1), some (.int p2), some (.int (1 : Int32)), some (.int (0 : Int32)), some (.int (0 : Int32))]) C dX1_join_6 (by decide) rfl rfl ?_
  exact r_le (lv' := [some (.ref (a 44)), some (.int p1), some (.int p2), some (.int (1 : Int32)), some (.int (0 : Int32)), some (.int (0 : Int32))]) ⟨rfl, rfl, rfl, rfl, rfl, rfl, trivial⟩ (tL_X1_join_8 C (1 : Int32) (0 : Int32) (0 : Int32) σ h)
/-! VineRows$Shape.signsFrom -/
abbrev rm_X1_signsFrom : Room := { frames := 2, cells := 0, slots := 0, locals := 48 }
def B_X1_signsFrom_55 (b1 : Nat) (p2 : Int32) (K12 : (Int32 → zSt → Option (Int32 × zSt))) (K19 : (Int32 → Int32 → zSt → Option (Int32 × zSt))) (v3 : Int32) (v4 : Int32) (σ : zSt) : Option (Int32 × zSt) := znm (v4 + (1 : Int32)) (fun x12 => K19 v3 x12 σ)
def B_X1_signsFrom_19 (b1 : Nat) (p2 : Int32) (K12 : (Int32 → zSt → Option (Int32 × zSt))) (K19 : (Int32 → Int32 → zSt → Option (Int32 × zSt))) (v3 : Int32) (v4 : Int32) (σ : zSt) : Option (Int32 × zSt) := znm (σ b1 0) (fun x5 => (if x5 ≤ v4 then znm (v3 + (-1 : Int32)) (fun x6 => K12 x6 σ) else zgr p2 8 (b1 + 9) (fun q7 => zga (σ q7) v4 8 (fun x8 => (if x8 = v3 then zbd (M_X1_gather b1 p2 v4 σ) (fun x10 σ9 => zbv (M_X1_join x10 v4 σ9) (fun σ11 => B_X1_signsFrom_55 b1 p2 K12 K19 v3 v4 σ11)) else B_X1_signsFrom_55 b1 p2 K12 K19 v3 v4 σ)))))
def L_X1_signsFrom_19 (b1 : Nat) (p2 : Int32) (K12 : (Int32 → zSt → Option (Int32 × zSt))) (v3 : Int32) (v4 : Int32) (σ : zSt) : Option (Int32 × zSt) := zloop (fun (rec : Int32 × Int32 × zSt → Option (Int32 × zSt)) x => B_X1_signsFrom_19 b1 p2 K12 (fun v3 v4 σ => rec (v3, v4, σ)) x.1 x.2.1 x.2.2) zFU (v3, v4, σ)
def B_X1_signsFrom_12 (b1 : Nat) (p2 : Int32) (K12 : (Int32 → zSt → Option (Int32 × zSt))) (v3 : Int32) (σ : zSt) : Option (Int32 × zSt) := (if v3 < 0 then zga (σ 45) p2 8 (fun x4 => some (x4, σ)) else L_X1_signsFrom_19 b1 p2 K12 v3 (0 : Int32) σ)
def L_X1_signsFrom_12 (b1 : Nat) (p2 : Int32) (v3 : Int32) (σ : zSt) : Option (Int32 × zSt) := zloop (fun (rec : Int32 × zSt → Option (Int32 × zSt)) x => B_X1_signsFrom_12 b1 p2  (fun v3 σ => rec (v3, σ)) x.1 x.2) zFU (v3, σ)
def M_X1_signsFrom (b1 : Nat) (p2 : Int32) (σ : zSt) : Option (Int32 × zSt) := znm (zsu σ 44 (upd (σ 44) 2 (1 : Int32))) (fun σ1 => znm (σ1 b1 0) (fun x2 => znm ((x2 - (1 : Int32))) (fun x3 => L_X1_signsFrom_12 b1 p2 x3 σ1)))
set_option maxRecDepth 20000 in
theorem tB_X1_signsFrom_55 {p : Program} {l : Launch} {e : Env} {s : State} {m : MethodId} {args : Array Value} {below : List Frame} {meth : Method} {c : Code} {D : va_G} {a : Nat → Nat} {cI cO cA : ClassId} {o : Int32 × zSt} (C : zC p s m args meth c D (ztys cI cO cA) 51 a cX1_signsFrom 5 RX1 (some .int)) {b1 : Nat} {p2 : Int32} (hb1 : b1 = 10 ∨ b1 = 27) {K12 : (Int32 → zSt → Option (Int32 × zSt))} {K19 : (Int32 → Int32 → zSt → Option (Int32 × zSt))} (hK12 : ∀ (v3 : Int32) (σ : zSt), K12 v3 σ = some o → zV p l e rm_X1_signsFrom s m args below meth c D 51 a (fX a cI cO cA) 5 (zQi below args s D 51 a (fX a cI cO cA) o) σ 12 [some (.ref (a 44)), some (.ref (a b1)), some (.int p2), some (.int v3), none] []) (hK19 : ∀ (v3 : Int32) (v4 : Int32) (σ : zSt), K19 v3 v4 σ = some o → zV p l e rm_X1_signsFrom s m args below meth c D 51 a (fX a cI cO cA) 5 (zQi below args s D 51 a (fX a cI cO cA) o) σ 19 [some (.ref (a 44)), some (.ref (a b1)), some (.int p2), some (.int v3), some (.int v4)] []) (v3 : Int32) (v4 : Int32) (σ : zSt) (h : B_X1_signsFrom_55 b1 p2 K12 K19 v3 v4 σ = some o) : zV p l e rm_X1_signsFrom s m args below meth c D 51 a (fX a cI cO cA) 5 (zQi below args s D 51 a (fX a cI cO cA) o) σ 55 [some (.ref (a 44)), some (.ref (a b1)), some (.int p2), some (.int v3), some (.int v4)] [] := by
  unfold B_X1_signsFrom_55 at h
  refine r_gen h (fun x12 ex12 h => ?_)
  refine r_iinc (x := v4) (v := x12) (lv' := [some (.ref (a 44)), some (.ref (a b1)), some (.int p2), some (.int v3), some (.int x12)]) C dX1_signsFrom_55 rfl (by rw [← ex12]; rfl) (by decide) rfl rfl ?_
  clear ex12
  refine r_goto (tgt := 19) C dX1_signsFrom_58 (by decide) ?_
  exact r_le (lv' := [some (.ref (a 44)), some (.ref (a b1)), some (.int p2), some (.int v3), some (.int x12)]) ⟨rfl, rfl, rfl, rfl, rfl, trivial⟩ (hK19 v3 x12 σ h)
set_option maxRecDepth 20000 in
theorem tB_X1_signsFrom_19 {p : Program} {l : Launch} {e : Env} {s : State} {m : MethodId} {args : Array Value} {below : List Frame} {meth : Method} {c : Code} {D : va_G} {a : Nat → Nat} {cI cO cA : ClassId} {o : Int32 × zSt} (C : zC p s m args meth c D (ztys cI cO cA) 51 a cX1_signsFrom 5 RX1 (some .int)) {b1 : Nat} {p2 : Int32} (hb1 : b1 = 10 ∨ b1 = 27) {K12 : (Int32 → zSt → Option (Int32 × zSt))} {K19 : (Int32 → Int32 → zSt → Option (Int32 × zSt))} (hK12 : ∀ (v3 : Int32) (σ : zSt), K12 v3 σ = some o → zV p l e rm_X1_signsFrom s m args below meth c D 51 a (fX a cI cO cA) 5 (zQi below args s D 51 a (fX a cI cO cA) o) σ 12 [some (.ref (a 44)), some (.ref (a b1)), some (.int p2), some (.int v3), none] []) (hK19 : ∀ (v3 : Int32) (v4 : Int32) (σ : zSt), K19 v3 v4 σ = some o → zV p l e rm_X1_signsFrom s m args below meth c D 51 a (fX a cI cO cA) 5 (zQi below args s D 51 a (fX a cI cO cA) o) σ 19 [some (.ref (a 44)), some (.ref (a b1)), some (.int p2), some (.int v3), some (.int v4)] []) (v3 : Int32) (v4 : Int32) (σ : zSt) (h : B_X1_signsFrom_19 b1 p2 K12 K19 v3 v4 σ = some o) : zV p l e rm_X1_signsFrom s m args below meth c D 51 a (fX a cI cO cA) 5 (zQi below args s D 51 a (fX a cI cO cA) o) σ 19 [some (.ref (a 44)), some (.ref (a b1)), some (.int p2), some (.int v3), some (.int v4)] [] := by
  unfold B_X1_signsFrom_19 at h
  refine r_iload (x := v4) C dX1_signsFrom_19 rfl ?_
  refine r_aload_n (x := (a b1)) C dX1_signsFrom_21 rfl ?_
  refine gf_X1_26 C hb1 dX1_signsFrom_22 h (fun x5 h => ?_)
  refine r_icmp_ge (tgt := 61) C dX1_signsFrom_25 (by decide) h (fun h => ?_) (fun h => ?_)
  · refine r_gen h (fun x6 ex6 h => ?_)
    refine r_iinc (x := v3) (v := x6) (lv' := [some (.ref (a 44)), some (.ref (a b1)), some (.int p2), some (.int x6), some (.int v4)]) C dX1_signsFrom_61 rfl (by rw [← ex6]; rfl) (by decide) rfl rfl ?_
    clear ex6
    refine r_goto (tgt := 12) C dX1_signsFrom_64 (by decide) ?_
    exact r_le (lv' := [some (.ref (a 44)), some (.ref (a b1)), some (.int p2), some (.int x6), none]) ⟨rfl, rfl, rfl, rfl, trivial⟩ (hK12 x6 σ h)
  · refine r_aload_n (x := (a b1)) C dX1_signsFrom_28 rfl ?_
    refine gf_X1_31 C hb1 dX1_signsFrom_29 ?_
    refine r_iload_n (x := p2) C dX1_signsFrom_32 rfl ?_
    refine r_aald (t0 := 2) C (b1 + 4) (aX_away hb1) rfl rfl dX1_signsFrom_33 h (fun q7 hq7 lq7 h => ?_)
    refine r_iload (x := v4) C dX1_signsFrom_34 rfl ?_
    refine r_iald (t0 := 0) C q7 (aX_row hb1 hq7 lq7) rfl dX1_signsFrom_36 h (fun x8 h => ?_)
    refine r_iload_n (x := v3) C dX1_signsFrom_37 rfl ?_
    refine r_icmp_ne (tgt := 55) C dX1_signsFrom_38 (by decide) h (fun h => ?_) (fun h => ?_)
    · exact r_le (lv' := [some (.ref (a 44)), some (.ref (a b1)), some (.int p2), some (.int v3), some (.int v4)]) ⟨rfl, rfl, rfl, rfl, rfl, trivial⟩ (tB_X1_signsFrom_55 C hb1 (K12 := K12) (K19 := K19) hK12 hK19 v3 v4 σ h)
    · refine r_aload_n (x := (a 44)) C dX1_signsFrom_41 rfl ?_
      refine r_aload_n (x := (a 44)) C dX1_signsFrom_42 rfl ?_
      refine r_aload_n (x := (a b1)) C dX1_signsFrom_43 rfl ?_
      refine r_iload_n (x := p2) C dX1_signsFrom_44 rfl ?_
      refine r_iload (x := v4) C dX1_signsFrom_45 rfl ?_
      refine r_callVi C [.ref (a b1), .int p2, .int v4] [.ref (a 44)] (b := 44) (by decide) fX_44 rfl rfl zc_X1_35 zB_X1_gather ⟨rfl, rfl, by decide, by decide⟩ (fun out h => c_X1_gather C.2.2.2.2.2.2.2.1 hb1 h) rfl rfl (Nat.le_of_ble_eq_true rfl) dX1_signsFrom_47 h (fun x10 σ9 h => ?_)
      refine r_iload (x := v4) C dX1_signsFrom_50 rfl ?_
      refine r_callVv C [.int x10, .int v4] [] (b := 44) (by decide) fX_44 rfl rfl zc_X1_39 zB_X1_join ⟨rfl, rfl, by decide, by decide⟩ (fun out h => c_X1_join C.2.2.2.2.2.2.2.1  h) rfl rfl (Nat.le_of_ble_eq_true rfl) dX1_signsFrom_52 h (fun σ11 h => ?_)
      exact r_le (lv' := [some (.ref (a 44)), some (.ref (a b1)), some (.int p2), some (.int v3), some (.int v4)]) ⟨rfl, rfl, rfl, rfl, rfl, trivial⟩ (tB_X1_signsFrom_55 C hb1 (K12 := K12) (K19 := K19) hK12 hK19 v3 v4 σ11 h)
set_option maxRecDepth 20000 in
theorem tL_X1_signsFrom_19 {p : Program} {l : Launch} {e : Env} {s : State} {m : MethodId} {args : Array Value} {below : List Frame} {meth : Method} {c : Code} {D : va_G} {a : Nat → Nat} {cI cO cA : ClassId} {o : Int32 × zSt} (C : zC p s m args meth c D (ztys cI cO cA) 51 a cX1_signsFrom 5 RX1 (some .int)) {b1 : Nat} {p2 : Int32} (hb1 : b1 = 10 ∨ b1 = 27) {K12 : (Int32 → zSt → Option (Int32 × zSt))} (hK12 : ∀ (v3 : Int32) (σ : zSt), K12 v3 σ = some o → zV p l e rm_X1_signsFrom s m args below meth c D 51 a (fX a cI cO cA) 5 (zQi below args s D 51 a (fX a cI cO cA) o) σ 12 [some (.ref (a 44)), some (.ref (a b1)), some (.int p2), some (.int v3), none] []) (v3 : Int32) (v4 : Int32) (σ : zSt) (h : L_X1_signsFrom_19 b1 p2 K12 v3 v4 σ = some o) : zV p l e rm_X1_signsFrom s m args below meth c D 51 a (fX a cI cO cA) 5 (zQi below args s D 51 a (fX a cI cO cA) o) σ 19 [some (.ref (a 44)), some (.ref (a b1)), some (.int p2), some (.int v3), some (.int v4)] [] := by
  unfold L_X1_signsFrom_19 at h
  refine zloop_ind (G := fun x => zV p l e rm_X1_signsFrom s m args below meth c D 51 a (fX a cI cO cA) 5 (zQi below args s D 51 a (fX a cI cO cA) o) x.2.2 19 [some (.ref (a 44)), some (.ref (a b1)), some (.int p2), some (.int x.1), some (.int x.2.1)] []) ?_ zFU _ h
  intro rec hr x h
  exact tB_X1_signsFrom_19 C hb1 hK12 (fun v3 v4 σ => hr (v3, v4, σ)) _ _ _ h
set_option maxRecDepth 20000 in
theorem tB_X1_signsFrom_12 {p : Program} {l : Launch} {e : Env} {s : State} {m : MethodId} {args : Array Value} {below : List Frame} {meth : Method} {c : Code} {D : va_G} {a : Nat → Nat} {cI cO cA : ClassId} {o : Int32 × zSt} (C : zC p s m args meth c D (ztys cI cO cA) 51 a cX1_signsFrom 5 RX1 (some .int)) {b1 : Nat} {p2 : Int32} (hb1 : b1 = 10 ∨ b1 = 27) {K12 : (Int32 → zSt → Option (Int32 × zSt))} (hK12 : ∀ (v3 : Int32) (σ : zSt), K12 v3 σ = some o → zV p l e rm_X1_signsFrom s m args below meth c D 51 a (fX a cI cO cA) 5 (zQi below args s D 51 a (fX a cI cO cA) o) σ 12 [some (.ref (a 44)), some (.ref (a b1)), some (.int p2), some (.int v3), none] []) (v3 : Int32) (σ : zSt) (h : B_X1_signsFrom_12 b1 p2 K12 v3 σ = some o) : zV p l e rm_X1_signsFrom s m args below meth c D 51 a (fX a cI cO cA) 5 (zQi below args s D 51 a (fX a cI cO cA) o) σ 12 [some (.ref (a 44)), some (.ref (a b1)), some (.int p2), some (.int v3), none] [] := by
  unfold B_X1_signsFrom_12 at h
  refine r_iload_n (x := v3) C dX1_signsFrom_12 rfl ?_
  refine r_if_lt (tgt := 67) C dX1_signsFrom_13 (by decide) h (fun h => ?_) (fun h => ?_)
  · refine r_aload_n (x := (a 44)) C dX1_signsFrom_67 rfl ?_
    refine gf_X1_9 C dX1_signsFrom_68 ?_
    refine r_iload_n (x := p2) C dX1_signsFrom_71 rfl ?_
    refine r_iald (t0 := 0) C 45 aX_45 rfl dX1_signsFrom_72 h (fun x4 h => ?_)
    exact r_iret C dX1_signsFrom_73 h
  · refine r_iconst (v := 0) C dX1_signsFrom_16 (by decide) ?_
    refine r_istore (lv' := [some (.ref (a 44)), some (.ref (a b1)), some (.int p2), some (.int v3), some (.int (0 : Int32))]) C dX1_signsFrom_17 (by decide) rfl rfl ?_
    exact r_le (lv' := [some (.ref (a 44)), some (.ref (a b1)), some (.int p2), some (.int v3), some (.int (0 : Int32))]) ⟨rfl, rfl, rfl, rfl, rfl, trivial⟩ (tL_X1_signsFrom_19 C hb1 (K12 := K12) hK12 v3 (0 : Int32) σ h)
set_option maxRecDepth 20000 in
theorem tL_X1_signsFrom_12 {p : Program} {l : Launch} {e : Env} {s : State} {m : MethodId} {args : Array Value} {below : List Frame} {meth : Method} {c : Code} {D : va_G} {a : Nat → Nat} {cI cO cA : ClassId} {o : Int32 × zSt} (C : zC p s m args meth c D (ztys cI cO cA) 51 a cX1_signsFrom 5 RX1 (some .int)) {b1 : Nat} {p2 : Int32} (hb1 : b1 = 10 ∨ b1 = 27)  (v3 : Int32) (σ : zSt) (h : L_X1_signsFrom_12 b1 p2  v3 σ = some o) : zV p l e rm_X1_signsFrom s m args below meth c D 51 a (fX a cI cO cA) 5 (zQi below args s D 51 a (fX a cI cO cA) o) σ 12 [some (.ref (a 44)), some (.ref (a b1)), some (.int p2), some (.int v3), none] [] := by
  unfold L_X1_signsFrom_12 at h
  refine zloop_ind (G := fun x => zV p l e rm_X1_signsFrom s m args below meth c D 51 a (fX a cI cO cA) 5 (zQi below args s D 51 a (fX a cI cO cA) o) x.2 12 [some (.ref (a 44)), some (.ref (a b1)), some (.int p2), some (.int x.1), none] []) ?_ zFU _ h
  intro rec hr x h
  exact tB_X1_signsFrom_12 C hb1  (fun v3 σ => hr (v3, σ)) _ _ h
set_option maxRecDepth 20000 in
theorem c_X1_signsFrom {l : Launch} {D : va_G} {a : Nat → Nat} {cI cO cA : ClassId} (hinj : ∀ i j, i < 51 → j < 51 → a i = a j → i = j) {b1 : Nat} {p2 : Int32} (hb1 : b1 = 10 ∨ b1 = 27) {σ : zSt} {o : Int32 × zSt} (h : M_X1_signsFrom b1 p2 σ = some o) : zMi l D (ztys cI cO cA) 51 a (fX a cI cO cA) yX1_signsFrom cX1_signsFrom 5 (some .int) rm_X1_signsFrom [.ref (a 44), .ref (a b1), .int p2] σ o := by
  unfold M_X1_signsFrom at h
  refine zmeti (own := RX1) [some (.ref (a 44)), some (.ref (a b1)), some (.int p2), none, none] (by decide) rfl hinj (Nat.le_of_ble_eq_true rfl) rfl (fun p e s m args below meth c C => ?_)
  refine r_aload_n (x := (a 44)) C dX1_signsFrom_0 rfl ?_
  refine r_iconst (v := 1) C dX1_signsFrom_1 (by decide) ?_
  refine pf_X1_22 C dX1_signsFrom_2 h (fun σ1 h => ?_)
  refine r_aload_n (x := (a b1)) C dX1_signsFrom_5 rfl ?_
  refine gf_X1_26 C hb1 dX1_signsFrom_6 h (fun x2 h => ?_)
  refine r_iconst (v := 1) C dX1_signsFrom_9 (by decide) ?_
  refine r_isub C dX1_signsFrom_10 ?_
  refine r_nm h (fun x3 h => ?_)
  refine r_istore_n (lv' := [some (.ref (a 44)), some (.ref (a b1)), some (.int p2), some (.int x3), none]) C dX1_signsFrom_11 (by decide) rfl rfl ?_
  exact r_le (lv' := [some (.ref (a 44)), some (.ref (a b1)), some (.int p2), some (.int x3), none]) ⟨rfl, rfl, rfl, rfl, trivial⟩ (tL_X1_signsFrom_12 C hb1 x3 σ1 h)
/-! VineRows$Shape.sameShape -/
abbrev rm_X1_sameShape : Room := { frames := 3, cells := 0, slots := 0, locals := 72 }
def B_X1_sameShape_53 (b1 : Nat) (K21 : (Int32 → Int32 → Int32 → Int32 → Int32 → zSt → Option (Int32 × zSt))) (v2 : Int32) (v3 : Int32) (v4 : Int32) (v5 : Int32) (v6 : Int32) (σ : zSt) : Option (Int32 × zSt) := znm (v6 + (1 : Int32)) (fun x11 => K21 v2 v3 v4 v5 x11 σ)
def B_X1_sameShape_21 (b1 : Nat) (K21 : (Int32 → Int32 → Int32 → Int32 → Int32 → zSt → Option (Int32 × zSt))) (v2 : Int32) (v3 : Int32) (v4 : Int32) (v5 : Int32) (v6 : Int32) (σ : zSt) : Option (Int32 × zSt) := znm (σ b1 0) (fun x4 => (if x4 ≤ v6 then znm ((v3 * v4)) (fun x5 => (if x5 ≤ 0 then some ((0 : Int32), σ) else zdv v5 x5 (fun x6 => some (x6, σ)))) else znm ((v5 * (v6 + (1 : Int32)))) (fun x7 => zbd (M_X1_signsFrom b1 v6 σ) (fun x9 σ8 => (if x9 = v2 then znm (v4 + (1 : Int32)) (fun x10 => B_X1_sameShape_53 b1 K21 v2 v3 x10 x7 v6 σ8) else B_X1_sameShape_53 b1 K21 v2 v3 v4 x7 v6 σ8)))))
def L_X1_sameShape_21 (b1 : Nat) (v2 : Int32) (v3 : Int32) (v4 : Int32) (v5 : Int32) (v6 : Int32) (σ : zSt) : Option (Int32 × zSt) := zloop (fun (rec : Int32 × Int32 × Int32 × Int32 × Int32 × zSt → Option (Int32 × zSt)) x => B_X1_sameShape_21 b1  (fun v2 v3 v4 v5 v6 σ => rec (v2, v3, v4, v5, v6, σ)) x.1 x.2.1 x.2.2.1 x.2.2.2.1 x.2.2.2.2.1 x.2.2.2.2.2) zFU (v2, v3, v4, v5, v6, σ)
def M_X1_sameShape (b1 : Nat) (σ : zSt) : Option (Int32 × zSt) := zbd (M_X1_signsFrom b1 (0 : Int32) σ) (fun x2 σ1 => znm (σ1 44 2) (fun x3 => L_X1_sameShape_21 b1 x2 x3 (0 : Int32) (1 : Int32) (0 : Int32) σ1))
set_option maxRecDepth 20000 in
theorem tB_X1_sameShape_53 {p : Program} {l : Launch} {e : Env} {s : State} {m : MethodId} {args : Array Value} {below : List Frame} {meth : Method} {c : Code} {D : va_G} {a : Nat → Nat} {cI cO cA : ClassId} {o : Int32 × zSt} (C : zC p s m args meth c D (ztys cI cO cA) 51 a cX1_sameShape 7 RX1 (some .int)) {b1 : Nat} (hb1 : b1 = 10 ∨ b1 = 27) {K21 : (Int32 → Int32 → Int32 → Int32 → Int32 → zSt → Option (Int32 × zSt))} (hK21 : ∀ (v2 : Int32) (v3 : Int32) (v4 : Int32) (v5 : Int32) (v6 : Int32) (σ : zSt), K21 v2 v3 v4 v5 v6 σ = some o → zV p l e rm_X1_sameShape s m args below meth c D 51 a (fX a cI cO cA) 7 (zQi below args s D 51 a (fX a cI cO cA) o) σ 21 [some (.ref (a 44)), some (.ref (a b1)), some (.int v2), some (.int v3), some (.int v4), some (.int v5), some (.int v6)] []) (v2 : Int32) (v3 : Int32) (v4 : Int32) (v5 : Int32) (v6 : Int32) (σ : zSt) (h : B_X1_sameShape_53 b1 K21 v2 v3 v4 v5 v6 σ = some o) : zV p l e rm_X1_sameShape s m args below meth c D 51 a (fX a cI cO cA) 7 (zQi below args s D 51 a (fX a cI cO cA) o) σ 53 [some (.ref (a 44)), some (.ref (a b1)), some (.int v2), some (.int v3), some (.int v4), some (.int v5), some (.int v6)] [] := by
  unfold B_X1_sameShape_53 at h
  refine r_gen h (fun x11 ex11 h => ?_)
  refine r_iinc (x := v6) (v := x11) (lv' := [some (.ref (a 44)), some (.ref (a b1)), some (.int v2), some (.int v3), some (.int v4), some (.int v5), some (.int x11)]) C dX1_sameShape_53 rfl (by rw [← ex11]; rfl) (by decide) rfl rfl ?_
  clear ex11
  refine r_goto (tgt := 21) C dX1_sameShape_56 (by decide) ?_
  exact r_le (lv' := [some (.ref (a 44)), some (.ref (a b1)), some (.int v2), some (.int v3), some (.int v4), some (.int v5), some (.int x11)]) ⟨rfl, rfl, rfl, rfl, rfl, rfl, rfl, trivial⟩ (hK21 v2 v3 v4 v5 x11 σ h)
set_option maxRecDepth 20000 in
theorem tB_X1_sameShape_21 {p : Program} {l : Launch} {e : Env} {s : State} {m : MethodId} {args : Array Value} {below : List Frame} {meth : Method} {c : Code} {D : va_G} {a : Nat → Nat} {cI cO cA : ClassId} {o : Int32 × zSt} (C : zC p s m args meth c D (ztys cI cO cA) 51 a cX1_sameShape 7 RX1 (some .int)) {b1 : Nat} (hb1 : b1 = 10 ∨ b1 = 27) {K21 : (Int32 → Int32 → Int32 → Int32 → Int32 → zSt → Option (Int32 × zSt))} (hK21 : ∀ (v2 : Int32) (v3 : Int32) (v4 : Int32) (v5 : Int32) (v6 : Int32) (σ : zSt), K21 v2 v3 v4 v5 v6 σ = some o → zV p l e rm_X1_sameShape s m args below meth c D 51 a (fX a cI cO cA) 7 (zQi below args s D 51 a (fX a cI cO cA) o) σ 21 [some (.ref (a 44)), some (.ref (a b1)), some (.int v2), some (.int v3), some (.int v4), some (.int v5), some (.int v6)] []) (v2 : Int32) (v3 : Int32) (v4 : Int32) (v5 : Int32) (v6 : Int32) (σ : zSt) (h : B_X1_sameShape_21 b1 K21 v2 v3 v4 v5 v6 σ = some o) : zV p l e rm_X1_sameShape s m args below meth c D 51 a (fX a cI cO cA) 7 (zQi below args s D 51 a (fX a cI cO cA) o) σ 21 [some (.ref (a 44)), some (.ref (a b1)), some (.int v2), some (.int v3), some (.int v4), some (.int v5), some (.int v6)] [] := by
  unfold B_X1_sameShape_21 at h
  refine r_iload (x := v6) C dX1_sameShape_21 rfl ?_
  refine r_aload_n (x := (a b1)) C dX1_sameShape_23 rfl ?_
  refine gf_X1_26 C hb1 dX1_sameShape_24 h (fun x4 h => ?_)
  refine r_icmp_ge (tgt := 59) C dX1_sameShape_27 (by decide) h (fun h => ?_) (fun h => ?_)
  · refine r_iload_n (x := v3) C dX1_sameShape_59 rfl ?_
    refine r_iload (x := v4) C dX1_sameShape_60 rfl ?_
    refine r_imul C dX1_sameShape_62 ?_
    refine r_nm h (fun x5 h => ?_)
    refine r_istore (lv' := [some (.ref (a 44)), some (.ref (a b1)), some (.int v2), some (.int v3), some (.int v4), some (.int v5), some (.int x5)]) C dX1_sameShape_63 (by decide) rfl rfl ?_
    refine r_iload (x := x5) C dX1_sameShape_65 rfl ?_
    refine r_if_le (tgt := 78) C dX1_sameShape_67 (by decide) h (fun h => ?_) (fun h => ?_)
    · refine r_iconst (v := 0) C dX1_sameShape_78 (by decide) ?_
      exact r_iret C dX1_sameShape_79 h
    · refine r_iload (x := v5) C dX1_sameShape_70 rfl ?_
      refine r_iload (x := x5) C dX1_sameShape_72 rfl ?_
      refine r_idiv C dX1_sameShape_74 h (fun x6 h => ?_)
      refine r_goto (tgt := 79) C dX1_sameShape_75 (by decide) ?_
      exact r_iret C dX1_sameShape_79 h
  · refine r_iload (x := v5) C dX1_sameShape_30 rfl ?_
    refine r_iload (x := v6) C dX1_sameShape_32 rfl ?_
    refine r_iconst (v := 1) C dX1_sameShape_34 (by decide) ?_
    refine r_iadd C dX1_sameShape_35 ?_
    refine r_imul C dX1_sameShape_36 ?_
    refine r_nm h (fun x7 h => ?_)
    refine r_istore (lv' := [some (.ref (a 44)), some (.ref (a b1)), some (.int v2), some (.int v3), some (.int v4), some (.int x7), some (.int v6)]) C dX1_sameShape_37 (by decide) rfl rfl ?_
    refine r_aload_n (x := (a 44)) C dX1_sameShape_39 rfl ?_
    refine r_aload_n (x := (a b1)) C dX1_sameShape_40 rfl ?_
    refine r_iload (x := v6) C dX1_sameShape_41 rfl ?_
    refine r_callVi C [.ref (a b1), .int v6] [] (b := 44) (by decide) fX_44 rfl rfl zc_X1_18 zB_X1_signsFrom ⟨rfl, rfl, by decide, by decide⟩ (fun out h => c_X1_signsFrom C.2.2.2.2.2.2.2.1 hb1 h) rfl rfl (Nat.le_of_ble_eq_true rfl) dX1_sameShape_43 h (fun x9 σ8 h => ?_)
    refine r_iload_n (x := v2) C dX1_sameShape_46 rfl ?_
    refine r_icmp_ne (tgt := 53) C dX1_sameShape_47 (by decide) h (fun h => ?_) (fun h => ?_)
    · exact r_le (lv' := [some (.ref (a 44)), some (.ref (a b1)), some (.int v2), some (.int v3), some (.int v4), some (.int x7), some (.int v6)]) ⟨rfl, rfl, rfl, rfl, rfl, rfl, rfl, trivial⟩ (tB_X1_sameShape_53 C hb1 (K21 := K21) hK21 v2 v3 v4 x7 v6 σ8 h)
    · refine r_gen h (fun x10 ex10 h => ?_)
      refine r_iinc (x := v4) (v := x10) (lv' := [some (.ref (a 44)), some (.ref (a b1)), some (.int v2), some (.int v3), some (.int x10), some (.int x7), some (.int v6)]) C dX1_sameShape_50 rfl (by rw [← ex10]; rfl) (by decide) rfl rfl ?_
      clear ex10
      exact r_le (lv' := [some (.ref (a 44)), some (.ref (a b1)), some (.int v2), some (.int v3), some (.int x10), some (.int x7), some (.int v6)]) ⟨rfl, rfl, rfl, rfl, rfl, rfl, rfl, trivial⟩ (tB_X1_sameShape_53 C hb1 (K21 := K21) hK21 v2 v3 x10 x7 v6 σ8 h)
set_option maxRecDepth 20000 in
theorem tL_X1_sameShape_21 {p : Program} {l : Launch} {e : Env} {s : State} {m : MethodId} {args : Array Value} {below : List Frame} {meth : Method} {c : Code} {D : va_G} {a : Nat → Nat} {cI cO cA : ClassId} {o : Int32 × zSt} (C : zC p s m args meth c D (ztys cI cO cA) 51 a cX1_sameShape 7 RX1 (some .int)) {b1 : Nat} (hb1 : b1 = 10 ∨ b1 = 27)  (v2 : Int32) (v3 : Int32) (v4 : Int32) (v5 : Int32) (v6 : Int32) (σ : zSt) (h : L_X1_sameShape_21 b1  v2 v3 v4 v5 v6 σ = some o) : zV p l e rm_X1_sameShape s m args below meth c D 51 a (fX a cI cO cA) 7 (zQi below args s D 51 a (fX a cI cO cA) o) σ 21 [some (.ref (a 44)), some (.ref (a b1)), some (.int v2), some (.int v3), some (.int v4), some (.int v5), some (.int v6)] [] := by
  unfold L_X1_sameShape_21 at h
  refine zloop_ind (G := fun x => zV p l e rm_X1_sameShape s m args below meth c D 51 a (fX a cI cO cA) 7 (zQi below args s D 51 a (fX a cI cO cA) o) x.2.2.2.2.2 21 [some (.ref (a 44)), some (.ref (a b1)), some (.int x.1), some (.int x.2.1), some (.int x.2.2.1), some (.int x.2.2.2.1), some (.int x.2.2.2.2.1)] []) ?_ zFU _ h
  intro rec hr x h
  exact tB_X1_sameShape_21 C hb1  (fun v2 v3 v4 v5 v6 σ => hr (v2, v3, v4, v5, v6, σ)) _ _ _ _ _ _ h
set_option maxRecDepth 20000 in
theorem c_X1_sameShape {l : Launch} {D : va_G} {a : Nat → Nat} {cI cO cA : ClassId} (hinj : ∀ i j, i < 51 → j < 51 → a i = a j → i = j) {b1 : Nat} (hb1 : b1 = 10 ∨ b1 = 27) {σ : zSt} {o : Int32 × zSt} (h : M_X1_sameShape b1 σ = some o) : zMi l D (ztys cI cO cA) 51 a (fX a cI cO cA) yX1_sameShape cX1_sameShape 7 (some .int) rm_X1_sameShape [.ref (a 44), .ref (a b1)] σ o := by
  unfold M_X1_sameShape at h
  refine zmeti (own := RX1) [some (.ref (a 44)), some (.ref (a b1)), none, none, none, none, none] (by decide) rfl hinj (Nat.le_of_ble_eq_true rfl) rfl (fun p e s m args below meth c C => ?_)
  refine r_aload_n (x := (a 44)) C dX1_sameShape_0 rfl ?_
  refine r_aload_n (x := (a b1)) C dX1_sameShape_1 rfl ?_
  refine r_iconst (v := 0) C dX1_sameShape_2 (by decide) ?_
  refine r_callVi C [.ref (a b1), .int (0 : Int32)] [] (b := 44) (by decide) fX_44 rfl rfl zc_X1_18 zB_X1_signsFrom ⟨rfl, rfl, by decide, by decide⟩ (fun out h => c_X1_signsFrom C.2.2.2.2.2.2.2.1 hb1 h) rfl rfl (Nat.le_of_ble_eq_true rfl) dX1_sameShape_3 h (fun x2 σ1 h => ?_)
  refine r_istore_n (lv' := [some (.ref (a 44)), some (.ref (a b1)), some (.int x2), none, none, none, none]) C dX1_sameShape_6 (by decide) rfl rfl ?_
  refine r_aload_n (x := (a 44)) C dX1_sameShape_7 rfl ?_
  refine gf_X1_22 C dX1_sameShape_8 h (fun x3 h => ?_)
  refine r_istore_n (lv' := [some (.ref (a 44)), some (.ref (a b1)), some (.int x2), some (.int x3), none, none, none]) C dX1_sameShape_11 (by decide) rfl rfl ?_
  refine r_iconst (v := 0) C dX1_sameShape_12 (by decide) ?_
  refine r_istore (lv' := [some (.ref (a 44)), some (.ref (a b1)), some (.int x2), some (.int x3), some (.int (0 : Int32)), none, none]) C dX1_sameShape_13 (by decide) rfl rfl ?_
  refine r_iconst (v := 1) C dX1_sameShape_15 (by decide) ?_
  refine r_istore (lv' := [some (.ref (a 44)), some (.ref (a b1)), some (.int x2), some (.int x3), some (.int (0 : Int32)), some (.int (1 : Int32)), none]) C dX1_sameShape_16 (by decide) rfl rfl ?_
  refine r_iconst (v := 0) C dX1_sameShape_18 (by decide) ?_
  refine r_istore (lv' := [some (.ref (a 44)), some (.ref (a b1)), some (.int x2), some (.int x3), some (.int (0 : Int32)), some (.int (1 : Int32)), some (.int (0 : Int32))]) C dX1_sameShape_19 (by decide) rfl rfl ?_
  exact r_le (lv' := [some (.ref (a 44)), some (.ref (a b1)), some (.int x2), some (.int x3), some (.int (0 : Int32)), some (.int (1 : Int32)), some (.int (0 : Int32))]) ⟨rfl, rfl, rfl, rfl, rfl, rfl, rfl, trivial⟩ (tL_X1_sameShape_21 C hb1 x2 x3 (0 : Int32) (1 : Int32) (0 : Int32) σ1 h)
/-! VineRows$Sheet.begin -/
abbrev rm_X2_begin : Room := { frames := 0, cells := 0, slots := 0, locals := 0 }
def B_X2_begin_12 (q : Nat) (p1 : Int32) (p2 : Int32) (K12 : (Int32 → zSt → Option (zSt))) (v3 : Int32) (σ : zSt) : Option (zSt) := (if (60 : Int32) ≤ v3 then some σ else zgs σ (q + 4) v3 60 (0 : Int32) (fun σ3 => znm (v3 + (1 : Int32)) (fun x4 => K12 x4 σ3)))
def L_X2_begin_12 (q : Nat) (p1 : Int32) (p2 : Int32) (v3 : Int32) (σ : zSt) : Option (zSt) := zloop (fun (rec : Int32 × zSt → Option (zSt)) x => B_X2_begin_12 q p1 p2  (fun v3 σ => rec (v3, σ)) x.1 x.2) zFU (v3, σ)
def M_X2_begin (q : Nat) (p1 : Int32) (p2 : Int32) (σ : zSt) : Option (zSt) := znm (zsu σ q (upd (σ q) 1 p1)) (fun σ1 => znm (zsu σ1 q (upd (σ1 q) 2 p2)) (fun σ2 => L_X2_begin_12 q p1 p2 (0 : Int32) σ2))
set_option maxRecDepth 20000 in
theorem tB_X2_begin_12 {p : Program} {l : Launch} {e : Env} {s : State} {m : MethodId} {args : Array Value} {below : List Frame} {meth : Method} {c : Code} {D : va_G} {a : Nat → Nat} {cI cO cA : ClassId} {o : zSt} (C : zC p s m args meth c D (ztys cI cO cA) 51 a cX2_begin 4 RX2 none) {q : Nat} {p1 : Int32} {p2 : Int32} (hq : 2 ≤ q ∧ q < 6) {K12 : (Int32 → zSt → Option (zSt))} (hK12 : ∀ (v3 : Int32) (σ : zSt), K12 v3 σ = some o → zV p l e rm_X2_begin s m args below meth c D 51 a (fX a cI cO cA) 4 (zQv below args s D 51 a (fX a cI cO cA) o) σ 12 [some (.ref (a q)), none, none, some (.int v3)] []) (v3 : Int32) (σ : zSt) (h : B_X2_begin_12 q p1 p2 K12 v3 σ = some o) : zV p l e rm_X2_begin s m args below meth c D 51 a (fX a cI cO cA) 4 (zQv below args s D 51 a (fX a cI cO cA) o) σ 12 [some (.ref (a q)), none, none, some (.int v3)] [] := by
  unfold B_X2_begin_12 at h
  refine r_iload_n (x := v3) C dX2_begin_12 rfl ?_
  refine r_bipush (v := 60) C dX2_begin_13 (by decide) ?_
  refine r_icmp_ge (tgt := 31) C dX2_begin_15 (by decide) h (fun h => ?_) (fun h => ?_)
  · exact r_vret C dX2_begin_31 h
  · refine r_aload_n (x := (a q)) C dX2_begin_18 rfl ?_
    refine gf_X2_9 C hq dX2_begin_19 ?_
    refine r_iload_n (x := v3) C dX2_begin_22 rfl ?_
    refine r_iconst (v := 0) C dX2_begin_23 (by decide) ?_
    refine r_iast (t0 := 0) C (q + 4) (aX_cells hq) rfl dX2_begin_24 h (fun σ3 h => ?_)
    refine r_gen h (fun x4 ex4 h => ?_)
    refine r_iinc (x := v3) (v := x4) (lv' := [some (.ref (a q)), none, none, some (.int x4)]) C dX2_begin_25 rfl (by rw [← ex4]; rfl) (by decide) rfl rfl ?_
    clear ex4
    refine r_goto (tgt := 12) C dX2_begin_28 (by decide) ?_
    exact r_le (lv' := [some (.ref (a q)), none, none, some (.int x4)]) ⟨rfl, rfl, trivial⟩ (hK12 x4 σ3 h)
set_option maxRecDepth 20000 in
theorem tL_X2_begin_12 {p : Program} {l : Launch} {e : Env} {s : State} {m : MethodId} {args : Array Value} {below : List Frame} {meth : Method} {c : Code} {D : va_G} {a : Nat → Nat} {cI cO cA : ClassId} {o : zSt} (C : zC p s m args meth c D (ztys cI cO cA) 51 a cX2_begin 4 RX2 none) {q : Nat} {p1 : Int32} {p2 : Int32} (hq : 2 ≤ q ∧ q < 6)  (v3 : Int32) (σ : zSt) (h : L_X2_begin_12 q p1 p2  v3 σ = some o) : zV p l e rm_X2_begin s m args below meth c D 51 a (fX a cI cO cA) 4 (zQv below args s D 51 a (fX a cI cO cA) o) σ 12 [some (.ref (a q)), none, none, some (.int v3)] [] := by
  unfold L_X2_begin_12 at h
  refine zloop_ind (G := fun x => zV p l e rm_X2_begin s m args below meth c D 51 a (fX a cI cO cA) 4 (zQv below args s D 51 a (fX a cI cO cA) o) x.2 12 [some (.ref (a q)), none, none, some (.int x.1)] []) ?_ zFU _ h
  intro rec hr x h
  exact tB_X2_begin_12 C hq  (fun v3 σ => hr (v3, σ)) _ _ h
set_option maxRecDepth 20000 in
theorem c_X2_begin {l : Launch} {D : va_G} {a : Nat → Nat} {cI cO cA : ClassId} (hinj : ∀ i j, i < 51 → j < 51 → a i = a j → i = j) {q : Nat} {p1 : Int32} {p2 : Int32} (hq : 2 ≤ q ∧ q < 6) {σ : zSt} {o : zSt} (h : M_X2_begin q p1 p2 σ = some o) : zMv l D (ztys cI cO cA) 51 a (fX a cI cO cA) yX2_begin cX2_begin 4 none rm_X2_begin [.ref (a q), .int p1, .int p2] σ o := by
  unfold M_X2_begin at h
  refine zmetv (own := RX2) [some (.ref (a q)), some (.int p1), some (.int p2), none] (by decide) rfl hinj (Nat.le_of_ble_eq_true rfl) rfl (fun p e s m args below meth c C => ?_)
  refine r_aload_n (x := (a q)) C dX2_begin_0 rfl ?_
  refine r_iload_n (x := p1) C dX2_begin_1 rfl ?_
  refine pf_X2_15 C hq dX2_begin_2 h (fun σ1 h => ?_)
  refine r_aload_n (x := (a q)) C dX2_begin_5 rfl ?_
  refine r_iload_n (x := p2) C dX2_begin_6 rfl ?_
  refine pf_X2_19 C hq dX2_begin_7 h (fun σ2 h => ?_)
  refine r_iconst (v := 0) C dX2_begin_10 (by decide) ?_
  refine r_istore_n (lv' := [some (.ref (a q)), some (.int p1), some (.int p2), some (.int (0 : Int32))]) C dX2_begin_11 (by decide) rfl rfl ?_
  exact r_le (lv' := [some (.ref (a q)), none, none, some (.int (0 : Int32))]) ⟨rfl, rfl, trivial⟩ (tL_X2_begin_12 C hq (0 : Int32) σ2 h)
/-! VineRows$Sheet.faultAs -/
abbrev rm_X2_faultAs : Room := { frames := 0, cells := 0, slots := 0, locals := 0 }
def M_X2_faultAs (q : Nat) (p1 : Int32) (σ : zSt) : Option (Int32 × zSt) := znm (σ q 1) (fun x1 => (if x1 = (-1 : Int32) then some ((1 : Int32), σ) else znm (σ q 1) (fun x2 => (if x2 = p1 then some ((0 : Int32), σ) else some ((2 : Int32), σ)))))
set_option maxRecDepth 20000 in
theorem c_X2_faultAs {l : Launch} {D : va_G} {a : Nat → Nat} {cI cO cA : ClassId} (hinj : ∀ i j, i < 51 → j < 51 → a i = a j → i = j) {q : Nat} {p1 : Int32} (hq : 2 ≤ q ∧ q < 6) {σ : zSt} {o : Int32 × zSt} (h : M_X2_faultAs q p1 σ = some o) : zMi l D (ztys cI cO cA) 51 a (fX a cI cO cA) yX2_faultAs cX2_faultAs 2 (some .int) rm_X2_faultAs [.ref (a q), .int p1] σ o := by
  unfold M_X2_faultAs at h
  refine zmeti (own := RX2) [some (.ref (a q)), some (.int p1)] (by decide) rfl hinj (Nat.le_of_ble_eq_true rfl) rfl (fun p e s m args below meth c C => ?_)
  refine r_aload_n (x := (a q)) C dX2_faultAs_0 rfl ?_
  refine gf_X2_15 C hq dX2_faultAs_1 h (fun x1 h => ?_)
  refine r_iconst (v := -1) C dX2_faultAs_4 (by decide) ?_
  refine r_icmp_ne (tgt := 10) C dX2_faultAs_5 (by decide) h (fun h => ?_) (fun h => ?_)
  · refine r_aload_n (x := (a q)) C dX2_faultAs_10 rfl ?_
    refine gf_X2_15 C hq dX2_faultAs_11 h (fun x2 h => ?_)
    refine r_iload_n (x := p1) C dX2_faultAs_14 rfl ?_
    refine r_icmp_ne (tgt := 22) C dX2_faultAs_15 (by decide) h (fun h => ?_) (fun h => ?_)
    · refine r_iconst (v := 2) C dX2_faultAs_22 (by decide) ?_
      exact r_iret C dX2_faultAs_23 h
    · refine r_iconst (v := 0) C dX2_faultAs_18 (by decide) ?_
      refine r_goto (tgt := 23) C dX2_faultAs_19 (by decide) ?_
      exact r_iret C dX2_faultAs_23 h
  · refine r_iconst (v := 1) C dX2_faultAs_8 (by decide) ?_
    exact r_iret C dX2_faultAs_9 h
end
