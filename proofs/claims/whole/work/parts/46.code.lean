/-! PURE: alike: signs 1 .. 0, told apart -/
def zon2 (x j : Nat) : Nat := zsum (zbi x) j
def zvd (c k : Nat) : Prop := 2 ≤ k ∧ c < 2 ^ k ∧ (∀ j, 0 < j → j < k → 2 * zon2 c j < j) ∧ 2 * zon2 c k = k
def zpk (c : Nat) : Nat := zon2 c 16
theorem zsum_cut (f : Nat → Nat) (k : Nat) : ∀ i, zsum f (k + i) = zsum f k + zsum (fun t => f (k + t)) i
  | 0 => rfl
  | i + 1 => by
    show zsum f (k + i) + f (k + i) = zsum f k + (zsum (fun t => f (k + t)) i + f (k + i))
    rw [zsum_cut f k i]
    omega
theorem zbi_lo {a c k j : Nat} (h : c < 2 ^ k) (hj : j < k) : zbi (2 ^ k * a + c) j = zbi c j := by
  unfold zbi
  rw [Nat.testBit_two_pow_mul_add a h j, if_pos hj]
theorem zbi_hi {a c k j : Nat} (h : c < 2 ^ k) : zbi (2 ^ k * a + c) (k + j) = zbi a j := by
  unfold zbi
  rw [Nat.testBit_two_pow_mul_add a h (k + j), if_neg (show ¬ k + j < k by omega), Nat.add_sub_cancel_left]
theorem zon2_lo {a c k j : Nat} (h : c < 2 ^ k) (hj : j ≤ k) : zon2 (2 ^ k * a + c) j = zon2 c j := zsum_ext (fun i hi => zbi_lo h (by omega))
theorem zon2_hi {a c k i : Nat} (h : c < 2 ^ k) : zon2 (2 ^ k * a + c) (k + i) = zon2 c k + zon2 a i := by
  unfold zon2
  rw [zsum_cut]
  congr 1
  · exact zsum_ext (fun i hi => zbi_lo h hi)
  · exact zsum_ext (fun i hi => zbi_hi h)
theorem zon2_big {c k : Nat} (h : c < 2 ^ k) : ∀ i, zon2 c (k + i) = zon2 c k := by
  intro i
  have := zon2_hi (a := 0) (i := i) h
  rw [Nat.mul_zero, Nat.zero_add] at this
  rw [this]
  have z : zon2 0 i = 0 := by
    unfold zon2
    have : ∀ m, zsum (zbi 0) m = 0 := by
      intro m
      induction m with
      | zero => rfl
      | succ m ih =>
        show zsum (zbi 0) m + zbi 0 m = 0
        rw [ih]
        unfold zbi
        rw [Nat.zero_testBit]
        rfl
    exact this i
  rw [z]
  rfl
theorem zpk_vd {c k : Nat} (h : zvd c k) (hk : k ≤ 16) : 2 * zpk c = k := by
  have := zon2_big h.2.1 (16 - k)
  rw [show k + (16 - k) = 16 by omega] at this
  unfold zpk
  rw [this]
  exact h.2.2.2
theorem zvd_cut {a c k a' c' k' : Nat} (h : zvd c k) (h' : zvd c' k') (e : 2 ^ k * a + c = 2 ^ k' * a' + c') : k = k' ∧ c = c' ∧ a = a' := by
  have key : ∀ {a c k a' c' k' : Nat}, zvd c k → zvd c' k' → 2 ^ k * a + c = 2 ^ k' * a' + c' → ¬ k < k' := by
    intro a c k a' c' k' h h' e hk
    have e1 := zon2_lo (a := a) (j := k) h.2.1 (Nat.le_refl k)
    have e2 := zon2_lo (a := a') (j := k) h'.2.1 (by omega)
    rw [e, e2] at e1
    have f1 := h.2.2.2
    have f2 := h'.2.2.1 k (by have := h.1; omega) hk
    omega
  have e1 : k = k' := by
    have := key h h' e
    have := key h' h e.symm
    omega
  subst e1
  refine ⟨rfl, ?_, ?_⟩
  · have := congrArg (· % 2 ^ k) e
    simp only [Nat.mul_add_mod, Nat.mod_eq_of_lt h.2.1, Nat.mod_eq_of_lt h'.2.1] at this
    exact this
  · have := congrArg (· / 2 ^ k) e
    simp only [Nat.mul_add_div (Nat.two_pow_pos k), Nat.div_eq_of_lt h.2.1, Nat.div_eq_of_lt h'.2.1, Nat.add_zero] at this
    exact this
/-- signs after one another, the last first -/
def zar : List Nat → Nat
  | [] => 1
  | c :: R => 2 ^ (2 * zpk c) * zar R + c
def zks : List Nat → Nat
  | [] => 0
  | c :: R => 2 * zpk c + zks R
def zgo (R : List Nat) : Prop := ∀ c, c ∈ R → zvd c (2 * zpk c)
theorem zar_pos : ∀ R, 1 ≤ zar R
  | [] => Nat.le_refl 1
  | c :: R => by
    have h := zar_pos R
    have h2 := Nat.two_pow_pos (2 * zpk c)
    have : 0 < 2 ^ (2 * zpk c) * zar R := Nat.mul_pos h2 h
    show 1 ≤ 2 ^ (2 * zpk c) * zar R + c
    omega
theorem zar_big {c : Nat} {R : List Nat} (h : zgo (c :: R)) : 1 < zar (c :: R) := by
  have h1 := (h c (by simp)).1
  have h2 := zar_pos R
  have h3 : 2 ^ 2 ≤ 2 ^ (2 * zpk c) := Nat.pow_le_pow_right (by decide) h1
  have : 4 * 1 ≤ 2 ^ (2 * zpk c) * zar R := Nat.mul_le_mul h3 h2
  show 1 < 2 ^ (2 * zpk c) * zar R + c
  omega
theorem zar_inj : ∀ R R', zgo R → zgo R' → zar R = zar R' → R = R'
  | [], [], _, _, _ => rfl
  | [], c :: R, _, h, e => by
    have := zar_big h
    have e1 : zar [] = 1 := rfl
    omega
  | c :: R, [], h, _, e => by
    have := zar_big h
    have e1 : zar [] = 1 := rfl
    omega
  | c :: R, c' :: R', h, h', e => by
    obtain ⟨e1, e2, e3⟩ := zvd_cut (h c (by simp)) (h' c' (by simp)) e
    rw [e2, zar_inj R R' (fun x hx => h x (by simp [hx])) (fun x hx => h' x (by simp [hx])) e3]
theorem zar_body : ∀ R, zgo R → 2 ^ zks R ≤ zar R ∧ zar R < 2 ^ (zks R + 1) ∧ (∀ j, j ≤ zks R → 2 * zon2 (zar R) j ≤ j) ∧ 2 * zon2 (zar R) (zks R) = zks R
  | [], _ => by
    refine ⟨Nat.le_refl 1, by decide, fun j hj => ?_, rfl⟩
    have : j = 0 := Nat.le_zero.mp hj
    subst this
    exact Nat.le_refl 0
  | c :: R, h => by
    obtain ⟨i1, i2, i3, i4⟩ := zar_body R (fun x hx => h x (by simp [hx]))
    have hv := h c (by simp)
    obtain ⟨v1, v2, v3, v4⟩ := hv
    unfold zar zks
    generalize 2 * zpk c = k at *
    have cut : ∀ i, zon2 (2 ^ k * zar R + c) (k + i) = zon2 c k + zon2 (zar R) i := fun i => zon2_hi v2
    refine ⟨?_, ?_, fun j hj => ?_, ?_⟩
    · rw [Nat.pow_add]
      have := Nat.mul_le_mul (Nat.le_refl (2 ^ k)) i1
      omega
    · have : 2 ^ k * (zar R + 1) ≤ 2 ^ k * 2 ^ (zks R + 1) := Nat.mul_le_mul (Nat.le_refl _) i2
      rw [← Nat.pow_add, Nat.mul_add] at this
      rw [Nat.add_assoc]
      omega
    · by_cases e : j ≤ k
      · rw [zon2_lo v2 e]
        by_cases e0 : j = 0
        · subst e0; exact Nat.le_refl 0
        · by_cases e1 : j = k
          · subst e1; omega
          · have := v3 j (by omega) (by omega)
            omega
      · have := cut (j - k)
        rw [show k + (j - k) = j by omega] at this
        rw [this]
        have := i3 (j - k) (by omega)
        omega
    · rw [cut]
      omega
theorem zcode_vd {R : List Nat} (h : zgo R) : zvd (2 * zar R) (zks R + 2) := by
  obtain ⟨i1, i2, i3, i4⟩ := zar_body R h
  have sh : ∀ i, zon2 (2 * zar R) (1 + i) = zon2 (zar R) i := by
    intro i
    have := zon2_hi (a := zar R) (c := 0) (k := 1) (i := i) (by decide)
    rw [Nat.pow_one, Nat.add_zero] at this
    rw [this]
    have : zon2 0 1 = 0 := rfl
    rw [this, Nat.zero_add]
  refine ⟨by omega, ?_, fun j h1 h2 => ?_, ?_⟩
  · rw [show zks R + 2 = (zks R + 1) + 1 by omega, Nat.pow_succ]
    omega
  · have := sh (j - 1)
    rw [show 1 + (j - 1) = j by omega] at this
    rw [this]
    have := i3 (j - 1) (by omega)
    omega
  · have := sh (zks R + 1)
    rw [show 1 + (zks R + 1) = zks R + 2 by omega] at this
    rw [this]
    have e : zon2 (zar R) (zks R + 1) = zon2 (zar R) (zks R) + zbi (zar R) (zks R) := rfl
    have b : zbi (zar R) (zks R) = 1 := by
      unfold zbi
      rw [if_pos]
      rw [Nat.testBit_eq_decide_div_mod_eq]
      have d1 : zar R / 2 ^ zks R = 1 := by
        rw [Nat.pow_succ] at i2
        have p := Nat.two_pow_pos (zks R)
        exact Nat.div_eq_of_lt_le (by omega) (by omega)
      rw [d1]
      rfl
    rw [e, b]
    omega
theorem zks_perm {R R' : List Nat} (h : R.Perm R') : zks R = zks R' := by
  induction h with
  | nil => rfl
  | cons x _ ih => unfold zks; rw [ih]
  | swap x y l => unfold zks; show 2 * zpk y + (2 * zpk x + zks l) = 2 * zpk x + (2 * zpk y + zks l); omega
  | trans _ _ h1 h2 => rw [h1, h2]
/-- how many ways there are to change equal ones about -/
def zfp : List Nat → Nat
  | [] => 1
  | x :: l => (1 + l.count x) * zfp l
theorem zfp_perm {R R' : List Nat} (h : R.Perm R') : zfp R = zfp R' := by
  induction h with
  | nil => rfl
  | cons x p ih => unfold zfp; rw [ih, p.count_eq x]
  | swap x y l =>
    show (1 + (x :: l).count y) * ((1 + l.count x) * zfp l) = (1 + (y :: l).count x) * ((1 + l.count y) * zfp l)
    by_cases e : x = y
    · subst e; rfl
    · rw [List.count_cons_of_ne e, List.count_cons_of_ne (fun q => e q.symm), ← Nat.mul_assoc, ← Nat.mul_assoc, Nat.mul_comm (1 + l.count y)]
  | trans _ _ h1 h2 => rw [h1, h2]
