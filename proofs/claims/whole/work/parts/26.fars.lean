/-! PURE: distances; findFars finds them -/
theorem zphp : ∀ (n : Nat) (g : Nat → Nat), (∀ i, i ≤ n → g i < n) → ∃ i j, i < j ∧ j ≤ n ∧ g i = g j
  | 0, g, h => absurd (h 0 (Nat.le_refl _)) (Nat.not_lt_zero _)
  | n + 1, g, h => by
    by_cases e : ∃ i, i ≤ n ∧ g i = g (n + 1)
    · obtain ⟨i, h1, h2⟩ := e
      exact ⟨i, n + 1, by omega, Nat.le_refl _, h2⟩
    · have e' : ∀ i, i ≤ n → g i ≠ g (n + 1) := fun i hi q => e ⟨i, hi, q⟩
      have hl := h (n + 1) (Nat.le_refl _)
      obtain ⟨i, j, h1, h2, h3⟩ := zphp n (fun i => if g (n + 1) < g i then g i - 1 else g i) (fun i hi => by
        have h1 := h i (by omega)
        have h2 := e' i hi
        show (if g (n + 1) < g i then g i - 1 else g i) < n
        split <;> omega)
      refine ⟨i, j, h1, by omega, ?_⟩
      have a1 := e' i (by omega)
      have a2 := e' j (by omega)
      have h3 : (if g (n + 1) < g i then g i - 1 else g i) = (if g (n + 1) < g j then g j - 1 else g j) := h3
      split at h3 <;> split at h3 <;> omega
theorem zTR.down {S : Nat → Prop} {tw : Nat → Nat} {d : Nat → Nat → Nat} (h : zTR S tw d) {r : Nat} (hr : S r) : ∀ (k p : Nat), S p → k ≤ d r p → ∃ q, S q ∧ d r q = k := by
  intro k p hp hk
  have key : ∀ (c p : Nat), S p → d r p = k + c → ∃ q, S q ∧ d r q = k := by
    intro c
    induction c with
    | zero => intro p hp e; exact ⟨p, hp, by omega⟩
    | succ c ih =>
      intro p hp e
      have hne : p ≠ r := fun q => by
        rw [q, h.2.2.1 r hr] at e
        omega
      obtain ⟨q, q1, q2, -⟩ := h.2.2.2.2.2 r p hr hp hne
      exact ih q (h.2.1 p q hp q1).1 (by omega)
  exact key (d r p - k) p hp (by omega)
theorem zTR.lt {tw : Nat → Nat} {d : Nat → Nat → Nat} {n : Nat} (h : zTR (fun p => p < n) tw d) {r p : Nat} (hr : r < n) (hp : p < n) : d r p < n := by
  by_cases e : d r p < n
  · exact e
  · exfalso
    have hq : ∀ k, ∃ q, k ≤ n → q < n ∧ d r q = k := by
      intro k
      by_cases hk : k ≤ n
      · obtain ⟨q, h1, h2⟩ := h.down hr k p hp (by omega)
        exact ⟨q, fun _ => ⟨h1, h2⟩⟩
      · exact ⟨0, fun c => absurd c hk⟩
    obtain ⟨g, hg⟩ := Classical.axiomOfChoice hq
    obtain ⟨i, j, h1, h2, h3⟩ := zphp n g (fun i hi => (hg i hi).1)
    have e1 := (hg i (by omega)).2
    have e2 := (hg j h2).2
    rw [h3, e2] at e1
    omega
/-- fars, where all from posts below a are found, and from a those nearer than k, and of those at k the ones below p -/
def zff (f : Nat → Int32) (n : Nat) (d : Nat → Nat → Nat) (a k p : Nat) : Nat → Int32 := fun m => if (m / 8 < a ∨ (m / 8 = a ∧ (d a (m % 8) < k ∨ (d a (m % 8) = k ∧ m % 8 < p)))) ∧ m % 8 < n then nI (d (m / 8) (m % 8)) else f m
theorem zff_p {f : Nat → Int32} {n : Nat} {d : Nat → Nat → Nat} {a k p : Nat} (hp : p < n) (hn : n ≤ 8) (h : d a p = k) : upd (zff f n d a k p) (8 * a + p) (nI k) = zff f n d a k (p + 1) := by
  funext m
  unfold upd
  have e1 : (8 * a + p) / 8 = a := by omega
  have e2 : (8 * a + p) % 8 = p := by omega
  by_cases e : m = 8 * a + p
  · rw [if_pos e, e]
    unfold zff
    rw [e1, e2, if_pos ⟨Or.inr ⟨rfl, Or.inr ⟨h, by omega⟩⟩, hp⟩, h]
  · rw [if_neg e]
    unfold zff
    by_cases c : (m / 8 < a ∨ (m / 8 = a ∧ (d a (m % 8) < k ∨ (d a (m % 8) = k ∧ m % 8 < p)))) ∧ m % 8 < n
    · rw [if_pos c, if_pos (by omega)]
    · rw [if_neg c, if_neg (by omega)]
theorem zff_n {f : Nat → Int32} {n : Nat} {d : Nat → Nat → Nat} {a k p : Nat} (hn : n ≤ 8) (h : d a p ≠ k) : zff f n d a k (p + 1) = zff f n d a k p := by
  funext m
  unfold zff
  by_cases e : m % 8 = p
  · have h' : d a (m % 8) ≠ k := by rw [e]; exact h
    by_cases c : (m / 8 < a ∨ (m / 8 = a ∧ (d a (m % 8) < k ∨ (d a (m % 8) = k ∧ m % 8 < p)))) ∧ m % 8 < n
    · rw [if_pos c, if_pos (by omega)]
    · rw [if_neg c, if_neg (by omega)]
  · by_cases c : (m / 8 < a ∨ (m / 8 = a ∧ (d a (m % 8) < k ∨ (d a (m % 8) = k ∧ m % 8 < p)))) ∧ m % 8 < n
    · rw [if_pos c, if_pos (by omega)]
    · rw [if_neg c, if_neg (by omega)]
theorem zff_k {f : Nat → Int32} {n : Nat} {d : Nat → Nat → Nat} {a k : Nat} : zff f n d a k n = zff f n d a (k + 1) 0 := by
  funext m
  unfold zff
  by_cases c : (m / 8 < a ∨ (m / 8 = a ∧ (d a (m % 8) < k ∨ (d a (m % 8) = k ∧ m % 8 < n)))) ∧ m % 8 < n
  · rw [if_pos c, if_pos (by omega)]
  · rw [if_neg c, if_neg (by omega)]
theorem zff_a {f : Nat → Int32} {n : Nat} {d : Nat → Nat → Nat} {a k : Nat} (h : ∀ p, p < n → d a p < k) : zff f n d a k 0 = zff f n d (a + 1) 0 0 := by
  funext m
  unfold zff
  by_cases c : (m / 8 < a ∨ (m / 8 = a ∧ (d a (m % 8) < k ∨ (d a (m % 8) = k ∧ m % 8 < 0)))) ∧ m % 8 < n
  · rw [if_pos c, if_pos (by omega)]
  · rw [if_neg c, if_neg]
    intro q
    have := h (m % 8) q.2
    omega
theorem zff_0 {f : Nat → Int32} {n : Nat} {d : Nat → Nat → Nat} : zff f n d 0 0 0 = f := by
  funext m
  unfold zff
  rw [if_neg (by omega)]
theorem zff_at {f : Nat → Int32} {n : Nat} {d : Nat → Nat → Nat} {a p : Nat} (ha : a < n) (hp : p < n) (hn : n ≤ 8) : zff f n d n 0 0 (8 * a + p) = nI (d a p) := by
  unfold zff
  have e1 : (8 * a + p) / 8 = a := by omega
  have e2 : (8 * a + p) % 8 = p := by omega
  rw [e1, e2, if_pos ⟨Or.inl ha, hp⟩]
/-- the twigs of all of which P holds, below i -/
def zun (P : Nat → Bool) (tw : Nat → Nat) : Nat → Nat
  | 0 => 0
  | i + 1 => if P i = true then zun P tw i ||| tw i else zun P tw i
theorem zun_bit (P : Nat → Bool) (tw : Nat → Nat) (q : Nat) : ∀ n, (zun P tw n).testBit q = true ↔ ∃ p, p < n ∧ P p = true ∧ (tw p).testBit q = true
  | 0 => by simp [zun]
  | n + 1 => by
    unfold zun
    by_cases hP : P n = true
    · rw [if_pos hP, Nat.testBit_or, Bool.or_eq_true, zun_bit P tw q n]
      constructor
      · rintro (⟨p, h1, h2, h3⟩ | h)
        · exact ⟨p, by omega, h2, h3⟩
        · exact ⟨n, by omega, hP, h⟩
      · rintro ⟨p, h1, h2, h3⟩
        by_cases e : p = n
        · subst e; exact Or.inr h3
        · exact Or.inl ⟨p, by omega, h2, h3⟩
    · rw [if_neg hP, zun_bit P tw q n]
      constructor
      · rintro ⟨p, h1, h2, h3⟩
        exact ⟨p, by omega, h2, h3⟩
      · rintro ⟨p, h1, h2, h3⟩
        by_cases e : p = n
        · subst e; exact absurd h2 hP
        · exact ⟨p, by omega, h2, h3⟩
theorem zun_lt (P : Nat → Bool) {tw : Nat → Nat} : ∀ {n : Nat}, (∀ p, p < n → tw p < 256) → zun P tw n < 256
  | 0, _ => by simp [zun]
  | n + 1, h => by
    have h1 := zun_lt P (n := n) (fun p hp => h p (by omega))
    unfold zun
    split
    · exact Nat.or_lt_two_pow (n := 8) h1 (h n (by omega))
    · exact h1
theorem zfun_ext {a b : Nat} (h : ∀ i, a.testBit i = true ↔ b.testBit i = true) : a = b := by
  apply Nat.eq_of_testBit_eq
  intro i
  have := h i
  cases ha : a.testBit i <;> cases hb : b.testBit i <;> simp_all
theorem zset_iff (P : Nat → Bool) (n j : Nat) : (zset P n).testBit j = true ↔ j < n ∧ P j = true := by
  rw [zset_bit, Bool.and_eq_true, decide_eq_true_iff]
theorem zdf_iff (a b i : Nat) : (zdf a b).testBit i = true ↔ a.testBit i = true ∧ ¬ b.testBit i = true := by
  rw [zdf_bit]
  cases a.testBit i <;> cases b.testBit i <;> simp
theorem zor_iff (a b i : Nat) : (a ||| b).testBit i = true ↔ a.testBit i = true ∨ b.testBit i = true := by
  rw [Nat.testBit_or, Bool.or_eq_true]
/-- one step outwards -/
theorem zlevel {n : Nat} {tw : Nat → Nat} {d : Nat → Nat → Nat} (h : zTR (fun p => p < n) tw d) {a : Nat} (ha : a < n) (k : Nat) : zdf (zun (fun p => decide (d a p = k)) tw n) (zset (fun p => decide (d a p < k)) n ||| zset (fun p => decide (d a p = k)) n) = zset (fun p => decide (d a p = k + 1)) n := by
  apply zfun_ext
  intro q
  rw [zdf_iff, zor_iff, zset_iff, zset_iff, zset_iff, zun_bit]
  simp only [decide_eq_true_iff]
  constructor
  · rintro ⟨⟨p, h1, h2, h3⟩, h4⟩
    have h5 := (h.2.1 p q h1 h3).1
    have h6 := h.2.2.2.2.1 a p q ha h1 h3
    refine ⟨h5, ?_⟩
    have : ¬ d a q < k := fun c => h4 (Or.inl ⟨h5, c⟩)
    omega
  · rintro ⟨h1, h2⟩
    have hne : q ≠ a := fun e => by
      rw [e, h.2.2.1 a ha] at h2
      omega
    obtain ⟨p, p1, p2, -⟩ := h.2.2.2.2.2 a q ha h1 hne
    obtain ⟨p3, p4, -⟩ := h.2.1 q p h1 p1
    refine ⟨⟨p, p3, by omega, p4⟩, ?_⟩
    rintro (⟨-, c⟩ | ⟨-, c⟩) <;> omega
theorem zset_or_lt {n : Nat} {d : Nat → Nat} {k : Nat} : zset (fun p => decide (d p < k)) n ||| zset (fun p => decide (d p = k)) n = zset (fun p => decide (d p < k + 1)) n := by
  apply zfun_ext
  intro q
  rw [zor_iff, zset_iff, zset_iff, zset_iff]
  simp only [decide_eq_true_iff]
  omega
theorem zset_0 {P : Nat → Bool} {n : Nat} (h : zset P n = 0) : ∀ p, p < n → ¬ P p = true := by
  intro p hp hP
  have : (zset P n).testBit p = true := (zset_iff P n p).mpr ⟨hp, hP⟩
  rw [h] at this
  simp at this
theorem zset_256 {P : Nat → Bool} {n : Nat} (hn : n ≤ 8) : zset P n < 256 := Nat.lt_of_lt_of_le (zset_lt P n) (zp256 hn)
theorem fars_in {τ : zSt} {n : Nat} {kd ld tw : Nat → Nat} {d : Nat → Nat → Nat} (hV : zVM τ n kd ld tw) (hO : zOK n kd ld tw) {a : Nat} (ha : a < n) (K2 : Int32 → zSt → Option zSt) (K19 : Int32 → Int32 → Int32 → Int32 → zSt → Option zSt) (hd : Nat) (k : Nat) (hk : k < 9) :
    L_X6_findFars_29 K2 K19 (nI a) (nI (zset (fun p => decide (d a p < k)) n)) (nI (zset (fun p => decide (d a p = k)) n)) (nI k) (nI 0) (nI 0) (zsu τ 10 (zff (τ 10) n d a k 0)) = K19 (nI a) (nI (zset (fun p => decide (d a p < k + 1)) n)) (nI (zdf (zun (fun p => decide (d a p = k)) tw n) (zset (fun p => decide (d a p < k + 1)) n))) (nI (k + 1)) (zsu τ 10 (zff (τ 10) n d a (k + 1) 0)) := by
  have hn := hO.1
  have h0 := hV.1
  have b1 : zset (fun p => decide (d a p < k)) n < 256 := zset_256 hn
  have b2 : zset (fun p => decide (d a p = k)) n < 256 := zset_256 hn
  unfold L_X6_findFars_29
  refine zloop_for (fun p => (nI a, nI (zset (fun p => decide (d a p < k)) n), nI (zset (fun p => decide (d a p = k)) n), nI k, nI (zun (fun p => decide (d a p = k)) tw p), nI p, zsu τ 10 (zff (τ 10) n d a k p))) n rfl (by omega) (fun rec p hp => ?_) (fun rec => ?_)
  · obtain ⟨v1, v2, v3⟩ := hV.2 p hp
    obtain ⟨o1, o2, o3⟩ := hO.2 p hp
    by_cases e : d a p = k
    · have hb : (zset (fun p => decide (d a p = k)) n).testBit p = true := (zset_iff _ _ _).mpr ⟨hp, by simp [e]⟩
      have eu : zun (fun p => decide (d a p = k)) tw (p + 1) = zun (fun p => decide (d a p = k)) tw p ||| tw p := by
        show (if decide (d a p = k) = true then _ else _) = _
        rw [if_pos (by simp [e])]
      have := zff_p (f := τ 10) (n := n) (d := d) (a := a) (k := k) (p := p) hp hn e
      unfold B_X6_findFars_29
      simp (disch := omega) only [↓reduceIte, ↓znm, ↓zbd_some, ↓zbv_some, ↓zga_in, ↓zgs_in, ↓zgr_in, zga_in, zgs_in, zgr_in, zgz_n0, zgz_n1, zlit, nI_add, pk_mul, pk_sub, znI_or, znI_and, znI_df, zon_ok, zbt_ok, zlt_t, zlt_f, zle_t, zle_f, zeq_f, zsu_ne (show (0 : Nat) ≠ 10 by decide), zsu_ne (show (4 : Nat) ≠ 10 by decide), h0, ↓zbd_of (isOf_ok (show zset (fun p => decide (d a p = k)) n < 2147483648 by omega) (show p < 31 by omega) _), hb, B_X6_findFars_73, zsu_eq, zsu_su, this, v3, eu]
    · have hb : (zset (fun p => decide (d a p = k)) n).testBit p = false := by
        rw [zset_bit]; simp [e]
      have eu : zun (fun p => decide (d a p = k)) tw (p + 1) = zun (fun p => decide (d a p = k)) tw p := by
        show (if decide (d a p = k) = true then _ else _) = _
        rw [if_neg (by simp [e])]
      have := zff_n (f := τ 10) (n := n) (d := d) (a := a) (k := k) (p := p) hn e
      unfold B_X6_findFars_29
      simp (disch := omega) only [↓reduceIte, ↓znm, ↓zbd_some, ↓zbv_some, ↓zga_in, ↓zgs_in, ↓zgr_in, zga_in, zgs_in, zgr_in, zgz_n0, zgz_n1, zlit, nI_add, pk_mul, pk_sub, znI_or, znI_and, znI_df, zon_ok, zbt_ok, zlt_t, zlt_f, zle_t, zle_f, zeq_f, zsu_ne (show (0 : Nat) ≠ 10 by decide), h0, ↓zbd_of (isOf_ok (show zset (fun p => decide (d a p = k)) n < 2147483648 by omega) (show p < 31 by omega) _), hb, Bool.false_eq_true, B_X6_findFars_73, this, eu]
  · unfold B_X6_findFars_29
    simp (disch := omega) only [↓reduceIte, ↓znm, ↓zbd_some, ↓zbv_some, ↓zga_in, ↓zgs_in, ↓zgr_in, zga_in, zgs_in, zgr_in, zgz_n0, zgz_n1, zlit, nI_add, pk_mul, pk_sub, znI_or, znI_and, znI_df, zon_ok, zbt_ok, zlt_t, zlt_f, zle_t, zle_f, zeq_f, zsu_ne (show (0 : Nat) ≠ 10 by decide), h0, zset_or_lt, zff_k]
theorem fars_mid {τ : zSt} {n : Nat} {kd ld tw : Nat → Nat} {d : Nat → Nat → Nat} (hV : zVM τ n kd ld tw) (hO : zOK n kd ld tw) (hT : zTR (fun p => p < n) tw d) {a : Nat} (ha : a < n) (K2 : Int32 → zSt → Option zSt) :
    L_X6_findFars_19 K2 (nI a) (nI 0) (nI (2 ^ a)) (nI 0) (zsu τ 10 (zff (τ 10) n d a 0 0)) = K2 (nI (a + 1)) (zsu τ 10 (zff (τ 10) n d (a + 1) 0 0)) := by
  have hn := hO.1
  have hex : ∃ k, zset (fun p => decide (d a p = k)) n = 0 := by
    refine ⟨n, ?_⟩
    apply zfun_ext
    intro q
    rw [zset_iff]
    simp only [decide_eq_true_iff, Nat.zero_testBit, Bool.false_eq_true, iff_false]
    rintro ⟨h1, h2⟩
    have := hT.lt ha h1
    omega
  obtain ⟨E, hE, hmin⟩ := pk_least (fun k => zset (fun p => decide (d a p = k)) n = 0) hex
  have hEn : E ≤ n := by
    by_cases c : E ≤ n
    · exact c
    · exfalso
      apply hmin n (by omega)
      apply zfun_ext
      intro q
      rw [zset_iff]
      simp only [decide_eq_true_iff, Nat.zero_testBit, Bool.false_eq_true, iff_false]
      rintro ⟨h1, h2⟩
      have := hT.lt ha h1
      omega
  have hall : ∀ p, p < n → d a p < E := by
    intro p hp
    by_cases c : d a p < E
    · exact c
    · exfalso
      obtain ⟨q, h1, h2⟩ := hT.down ha E p hp (by omega)
      exact zset_0 hE q h1 (by simp [h2])
  have s0 : zset (fun p => decide (d a p < 0)) n = 0 := by
    apply zfun_ext
    intro q
    rw [zset_iff]
    simp
  have s1 : zset (fun p => decide (d a p = 0)) n = 2 ^ a := by
    apply zfun_ext
    intro q
    rw [zset_iff, Nat.testBit_two_pow]
    simp only [decide_eq_true_iff]
    constructor
    · rintro ⟨h1, h2⟩
      by_cases c : a = q
      · exact c
      · exfalso
        obtain ⟨p, p1, p2, -⟩ := hT.2.2.2.2.2 a q ha h1 (fun e => c e.symm)
        omega
    · rintro rfl
      exact ⟨ha, hT.2.2.1 a ha⟩
  unfold L_X6_findFars_19
  refine zloop_for (fun k => (nI a, nI (zset (fun p => decide (d a p < k)) n), nI (zset (fun p => decide (d a p = k)) n), nI k, zsu τ 10 (zff (τ 10) n d a k 0))) E ?_ (by omega) (fun rec k hk => ?_) (fun rec => ?_)
  · rw [s0, s1]
  · have b2 : zset (fun p => decide (d a p = k)) n < 256 := zset_256 hn
    have hne : ¬ zset (fun p => decide (d a p = k)) n = 0 := hmin k hk
    have := fars_in (d := d) hV hO ha K2 (fun v1 v2 v3 v4 σ => rec (v1, v2, v3, v4, σ)) 0 k (by omega)
    rw [← zset_or_lt, zlevel hT ha k, zset_or_lt] at this
    unfold B_X6_findFars_19
    simp (disch := omega) only [↓reduceIte, ↓znm, ↓zbd_some, ↓zbv_some, ↓zga_in, ↓zgs_in, ↓zgr_in, zga_in, zgs_in, zgr_in, zgz_n0, zgz_n1, zlit, nI_add, pk_mul, pk_sub, znI_or, znI_and, znI_df, zon_ok, zbt_ok, zlt_t, zlt_f, zle_t, zle_f, zeq_f, this]
  · unfold B_X6_findFars_19
    simp (disch := omega) only [↓reduceIte, ↓znm, ↓zbd_some, ↓zbv_some, ↓zga_in, ↓zgs_in, ↓zgr_in, zga_in, zgs_in, zgr_in, zgz_n0, zgz_n1, zlit, nI_add, pk_mul, pk_sub, znI_or, znI_and, znI_df, zon_ok, zbt_ok, zlt_t, zlt_f, zle_t, zle_f, zeq_f, hE, zff_a hall]
theorem fars_ok {τ : zSt} {n : Nat} {kd ld tw : Nat → Nat} {d : Nat → Nat → Nat} (hV : zVM τ n kd ld tw) (hO : zOK n kd ld tw) (hT : zTR (fun p => p < n) tw d) : ∃ φ, M_X6_findFars τ = some (zsu τ 10 φ) ∧ ∀ a p, a < n → p < n → φ (8 * a + p) = nI (d a p) := by
  have hn := hO.1
  have h0 := hV.1
  refine ⟨zff (τ 10) n d n 0 0, ?_, fun a p ha hp => zff_at ha hp hn⟩
  unfold M_X6_findFars L_X6_findFars_2
  refine zloop_for (fun a => (nI a, zsu τ 10 (zff (τ 10) n d a 0 0))) n ?_ (by omega) (fun rec a ha => ?_) (fun rec => ?_)
  · rw [zff_0, zsu_self]; rfl
  · have := fars_mid hV hO hT ha (fun v1 σ => rec (v1, σ))
    unfold B_X6_findFars_2
    simp (disch := omega) only [↓reduceIte, ↓znm, ↓zbd_some, ↓zbv_some, ↓zga_in, ↓zgs_in, ↓zgr_in, zga_in, zgs_in, zgr_in, zgz_n0, zgz_n1, zlit, nI_add, pk_mul, pk_sub, znI_or, znI_and, znI_df, zon_ok, zbt_ok, zlt_t, zlt_f, zle_t, zle_f, zeq_f, zsu_ne (show (0 : Nat) ≠ 10 by decide), h0, this]
  · unfold B_X6_findFars_2
    simp (disch := omega) only [↓reduceIte, ↓znm, ↓zbd_some, ↓zbv_some, ↓zga_in, ↓zgs_in, ↓zgr_in, zga_in, zgs_in, zgr_in, zgz_n0, zgz_n1, zlit, nI_add, pk_mul, pk_sub, znI_or, znI_and, znI_df, zon_ok, zbt_ok, zlt_t, zlt_f, zle_t, zle_f, zeq_f, zsu_ne (show (0 : Nat) ≠ 10 by decide), h0]
