/-! PURE: pairs: the greedy twigs, and a cover of as many posts -/
def zbi (m i : Nat) : Nat := if m.testBit i = true then 1 else 0
theorem zpc_sum (m : Nat) : zpc m = zsum (zbi m) 8 := by
  unfold zpc
  rw [show List.range 8 = [0, 1, 2, 3, 4, 5, 6, 7] from rfl]
  simp only [List.countP_cons, List.countP_nil, zsum, zbi]
  omega
theorem zsum_ad2 (f g : Nat → Nat) : ∀ n, zsum (fun i => f i + g i) n = zsum f n + zsum g n
  | 0 => rfl
  | n + 1 => by
    unfold zsum
    rw [zsum_ad2 f g n]
    omega
theorem zsum_mono {f g : Nat → Nat} : ∀ {n : Nat}, (∀ i, i < n → f i ≤ g i) → zsum f n ≤ zsum g n
  | 0, _ => Nat.le_refl _
  | n + 1, h => by
    unfold zsum
    have h1 := zsum_mono (n := n) (fun i hi => h i (by omega))
    have h2 := h n (by omega)
    omega
theorem zpc_or {a b : Nat} (h : a &&& b = 0) : zpc (a ||| b) = zpc a + zpc b := by
  rw [zpc_sum, zpc_sum, zpc_sum, ← zsum_ad2]
  apply zsum_ext
  intro i _
  have hi : ¬ (a.testBit i = true ∧ b.testBit i = true) := by
    intro q
    have := (zand_iff a b i).mpr q
    rw [h] at this
    simp at this
  unfold zbi
  rw [Nat.testBit_or]
  cases c1 : a.testBit i <;> cases c2 : b.testBit i <;> simp_all
theorem zpc_or_le (a b : Nat) : zpc (a ||| b) ≤ zpc a + zpc b := by
  rw [zpc_sum, zpc_sum, zpc_sum, ← zsum_ad2]
  apply zsum_mono
  intro i _
  unfold zbi
  rw [Nat.testBit_or]
  cases c1 : a.testBit i <;> cases c2 : b.testBit i <;> simp
theorem zpc_sub {a b : Nat} (h : ∀ i, a.testBit i = true → b.testBit i = true) : zpc a ≤ zpc b := by
  rw [zpc_sum, zpc_sum]
  apply zsum_mono
  intro i _
  unfold zbi
  by_cases c : a.testBit i = true
  · rw [if_pos c, if_pos (h i c)]; exact Nat.le_refl 1
  · rw [if_neg c]; exact Nat.zero_le _
theorem zpc_pos {m i : Nat} (hi : i < 8) (h : m.testBit i = true) : 1 ≤ zpc m := by
  have := zpc_sub (a := 2 ^ i) (b := m) (fun j hj => by rw [(zbit2 i j).mp hj]; exact h)
  rw [(zpc_2p i hi).1] at this
  exact this
theorem zand0 {a b : Nat} (h : ∀ i, a.testBit i = true → b.testBit i = true → False) : a &&& b = 0 := by
  apply zfun_ext
  intro i
  constructor
  · intro q
    obtain ⟨q1, q2⟩ := (zand_iff _ _ _).mp q
    exact (h i q1 q2).elim
  · intro q
    exact absurd q (by simp)
theorem zand0' {a b i : Nat} (h : a &&& b = 0) (ha : a.testBit i = true) (hb : b.testBit i = true) : False := by
  have := (zand_iff a b i).mpr ⟨ha, hb⟩
  rw [h] at this
  simp at this
theorem zbo_bit (x y i : Nat) : (2 ^ x ||| 2 ^ y).testBit i = true ↔ i = x ∨ i = y := by
  rw [Nat.testBit_or, Bool.or_eq_true, zbit2, zbit2]
theorem zbo_pc {x y : Nat} (hx : x < 8) (hy : y < 8) (h : x ≠ y) : zpc (2 ^ x ||| 2 ^ y) = 2 := by
  rw [zpc_or (zand0 (fun i h1 h2 => h (((zbit2 x i).mp h1).symm.trans ((zbit2 y i).mp h2)))), (zpc_2p x hx).1, (zpc_2p y hy).1]
theorem zbo_lt {x y : Nat} (hx : x < 8) (hy : y < 8) : 2 ^ x ||| 2 ^ y < 256 := Nat.or_lt_two_pow (n := 8) (z2p hx) (z2p hy)
/-- the twigs taken greedily: posts used, how many, a cover -/
def zgy (tw : Nat → Nat) (n : Nat) : Nat → Nat × Nat × Nat
  | 0 => (0, 0, 0)
  | k + 1 => if (zgy tw n k).1 &&& (2 ^ ztk tw n k ||| 2 ^ zhk tw n k) = 0 then ((zgy tw n k).1 ||| (2 ^ ztk tw n k ||| 2 ^ zhk tw n k), (zgy tw n k).2.1 + 1, (zgy tw n k).2.2 ||| 2 ^ zhk tw n k) else zgy tw n k
/-- twig k is taken -/
def zgt (tw : Nat → Nat) (n k : Nat) : Prop := (zgy tw n k).1 &&& (2 ^ ztk tw n k ||| 2 ^ zhk tw n k) = 0
theorem zgy_pos {tw : Nat → Nat} {n k : Nat} (h : zgt tw n k) : zgy tw n (k + 1) = ((zgy tw n k).1 ||| (2 ^ ztk tw n k ||| 2 ^ zhk tw n k), (zgy tw n k).2.1 + 1, (zgy tw n k).2.2 ||| 2 ^ zhk tw n k) := if_pos h
theorem zgy_neg {tw : Nat → Nat} {n k : Nat} (h : ¬ zgt tw n k) : zgy tw n (k + 1) = zgy tw n k := if_neg h
/-- what step k takes -/
theorem zstep {n : Nat} {tw : Nat → Nat} {d : Nat → Nat → Nat} (hn : n ≤ 8) (hT : zTR (fun p => p < n) tw d) {k : Nat} (hk : k < n - 1) : ztk tw n k < n ∧ zhk tw n k < n ∧ ztk tw n k ≠ zhk tw n k ∧ (zL tw n k).testBit (ztk tw n k) = true ∧ (zL tw n k).testBit (zhk tw n k) = true ∧ (tw (ztk tw n k)).testBit (zhk tw n k) = true ∧ (∀ q, (zL tw n (k + 1)).testBit q = true ↔ (zL tw n k).testBit q = true ∧ q ≠ ztk tw n k) ∧ (∀ q, (tw (ztk tw n k)).testBit q = true → (zL tw n k).testBit q = true → q = zhk tw n k) := by
  obtain ⟨i1, i2, i3, i4⟩ := zelim hn hT k (by omega)
  obtain ⟨l1, l2⟩ := i4 hk
  have l3 := (zand_iff _ _ _).mp ((l2 (zhk tw n k)).mpr rfl)
  refine ⟨i3 _ l1, i3 _ l3.2, fun e => (i2.2.1 _ _ l1 ((l2 _).mpr rfl)).2.2 e, l1, l3.2, l3.1, fun q => by rw [zL_s, zdf_iff, zbit2], fun q h1 h2 => (l2 q).mp ((zand_iff _ _ _).mpr ⟨h1, h2⟩)⟩
theorem zgy_inv {n : Nat} {tw : Nat → Nat} {d : Nat → Nat → Nat} (hn : n ≤ 8) (hT : zTR (fun p => p < n) tw d) : ∀ k, k ≤ n - 1 → (zgy tw n k).1 < 256 ∧ zpc (zgy tw n k).1 = 2 * (zgy tw n k).2.1 ∧ zpc (zgy tw n k).2.2 ≤ (zgy tw n k).2.1 ∧ (∀ q, (zgy tw n k).1.testBit q = true → (zL tw n k).testBit q = true → (zgy tw n k).2.2.testBit q = true) ∧ (∀ j, j < k → (zgy tw n k).2.2.testBit (ztk tw n j) = true ∨ (zgy tw n k).2.2.testBit (zhk tw n j) = true) ∧ (∀ q, (zgy tw n k).1.testBit q = true ↔ ∃ j, j < k ∧ zgt tw n j ∧ (q = ztk tw n j ∨ q = zhk tw n j)) ∧ (zgy tw n k).2.1 ≤ k := by
  intro k
  induction k with
  | zero =>
    intro _
    refine ⟨(by decide : 0 < 256), (by decide : zpc 0 = 2 * 0), (by decide : zpc 0 ≤ 0), fun q h => absurd h (by show ¬ (0 : Nat).testBit q = true; simp), fun j h => absurd h (Nat.not_lt_zero _), fun q => ⟨fun h => absurd h (by show ¬ (0 : Nat).testBit q = true; simp), ?_⟩, Nat.le_refl _⟩
    rintro ⟨j, h, -⟩
    exact absurd h (Nat.not_lt_zero _)
  | succ k ih =>
    intro hk
    obtain ⟨i1, i2, i3, i4, i5, i6, i7⟩ := ih (by omega)
    obtain ⟨s1, s2, s3, s4, s5, s6, s7, s8⟩ := zstep hn hT (k := k) (by omega)
    by_cases c : zgt tw n k
    · rw [zgy_pos c]
      dsimp only
      refine ⟨Nat.or_lt_two_pow (n := 8) i1 (zbo_lt (by omega) (by omega)), ?_, ?_, ?_, ?_, ?_, by omega⟩
      · rw [zpc_or c, i2, zbo_pc (by omega) (by omega) s3]
        omega
      · have := zpc_or_le (zgy tw n k).2.2 (2 ^ zhk tw n k)
        rw [(zpc_2p _ (by omega)).1] at this
        omega
      · intro q hq hL
        obtain ⟨l1, l2⟩ := (s7 q).mp hL
        rw [Nat.testBit_or, Bool.or_eq_true] at hq ⊢
        rcases hq with hq | hq
        · exact Or.inl (i4 q hq l1)
        · rcases (zbo_bit _ _ _).mp hq with e | e
          · exact absurd e l2
          · exact Or.inr ((zbit2 _ _).mpr e)
      · intro j hj
        rw [Nat.testBit_or, Nat.testBit_or, Bool.or_eq_true, Bool.or_eq_true]
        by_cases e : j = k
        · rw [e]
          exact Or.inr (Or.inr ((zbit2 _ _).mpr rfl))
        · rcases i5 j (by omega) with h | h
          · exact Or.inl (Or.inl h)
          · exact Or.inr (Or.inl h)
      · intro q
        rw [Nat.testBit_or, Bool.or_eq_true, i6 q, zbo_bit]
        constructor
        · rintro (⟨j, h1, h2⟩ | h)
          · exact ⟨j, by omega, h2⟩
          · exact ⟨k, by omega, c, h⟩
        · rintro ⟨j, h1, h2, h3⟩
          by_cases e : j = k
          · rw [e] at h3; exact Or.inr h3
          · exact Or.inl ⟨j, by omega, h2, h3⟩
    · rw [zgy_neg c]
      refine ⟨i1, i2, i3, fun q hq hL => i4 q hq ((s7 q).mp hL).1, fun j hj => ?_, fun q => ?_, by omega⟩
      · by_cases e : j = k
        · rw [e]
          by_cases c1 : (zgy tw n k).1.testBit (ztk tw n k) = true
          · exact Or.inl (i4 _ c1 s4)
          · by_cases c2 : (zgy tw n k).1.testBit (zhk tw n k) = true
            · exact Or.inr (i4 _ c2 s5)
            · exfalso
              apply c
              apply zand0
              intro i h1 h2
              rcases (zbo_bit _ _ _).mp h2 with e2 | e2
              · exact c1 (e2 ▸ h1)
              · exact c2 (e2 ▸ h1)
        · exact i5 j (by omega)
      · rw [i6 q]
        constructor
        · rintro ⟨j, h1, h2⟩
          exact ⟨j, by omega, h2⟩
        · rintro ⟨j, h1, h2, h3⟩
          by_cases e : j = k
          · exact absurd (e ▸ h2) c
          · exact ⟨j, by omega, h2, h3⟩
/-- two taken twigs do not touch -/
theorem zgt_apart {n : Nat} {tw : Nat → Nat} {d : Nat → Nat → Nat} (hn : n ≤ 8) (hT : zTR (fun p => p < n) tw d) {j k : Nat} (hjk : j < k) (hk : k < n - 1) (cj : zgt tw n j) (ck : zgt tw n k) {q : Nat} (h1 : q = ztk tw n j ∨ q = zhk tw n j) (h2 : q = ztk tw n k ∨ q = zhk tw n k) : False := by
  obtain ⟨-, -, -, -, -, i6, -⟩ := zgy_inv hn hT k (by omega)
  exact zand0' ck ((i6 q).mpr ⟨j, hjk, cj, h1⟩) ((zbo_bit _ _ _).mpr h2)
/-- each twig is met in some step -/
theorem zmet {n : Nat} {tw : Nat → Nat} {d : Nat → Nat → Nat} (hn : n ≤ 8) (h2 : 2 ≤ n) (hT : zTR (fun p => p < n) tw d) {x y : Nat} (hx : x < n) (hxy : (tw x).testBit y = true) : ∃ j, j < n - 1 ∧ ((x = ztk tw n j ∧ y = zhk tw n j) ∨ (y = ztk tw n j ∧ x = zhk tw n j)) := by
  obtain ⟨a1, a2⟩ := zlast_only hn h2 hT
  obtain ⟨t1, t2, t3⟩ := hT.2.1 x y hx hxy
  -- the last step at which both are there
  have key : ∀ j k, k + j = n - 1 → (zL tw n k).testBit x = true → (zL tw n k).testBit y = true → ∃ j, j < n - 1 ∧ ((x = ztk tw n j ∧ y = zhk tw n j) ∨ (y = ztk tw n j ∧ x = zhk tw n j)) := by
    intro j
    induction j with
    | zero =>
      intro k hk h1 h3
      have : k = n - 1 := by omega
      subst this
      exact absurd (((a2 x).mp h1).trans ((a2 y).mp h3).symm) t3
    | succ j ih =>
      intro k hk h1 h3
      obtain ⟨s1, s2, s3, s4, s5, s6, s7, s8⟩ := zstep hn hT (k := k) (by omega)
      by_cases e1 : x = ztk tw n k
      · exact ⟨k, by omega, Or.inl ⟨e1, s8 y (e1 ▸ hxy) h3⟩⟩
      · by_cases e2 : y = ztk tw n k
        · exact ⟨k, by omega, Or.inr ⟨e2, s8 x (e2 ▸ t2) h1⟩⟩
        · exact ih (k + 1) (by omega) ((s7 x).mpr ⟨h1, e1⟩) ((s7 y).mpr ⟨h3, e2⟩)
  exact key (n - 1) 0 (by omega) ((zfull_bit x).mpr hx) ((zfull_bit y).mpr t1)
/-- the class -/
theorem twigsApart_ok {σ : zSt} {b n : Nat} {kd ld tw : Nat → Nat} {d : Nat → Nat → Nat} (hV : zVX σ b n kd ld tw) (hO : zOK n kd ld tw) (hT : zTR (fun p => p < n) tw d) (h2 : 2 ≤ n) : M_X4_twigsApart b σ = some (nI (zgy tw n (n - 1)).2.1, zsp σ b n tw (n - 1)) := by
  have hn := hO.1
  unfold M_X4_twigsApart
  simp (disch := omega) only [↓reduceIte, ↓znm, ↓zbd_some, ↓zbv_some, ↓zga_in, ↓zgs_in, ↓zgr_in, zga_in, zgs_in, zgr_in, zgz_n0, zgz_n1, zlit, nI_add, pk_mul, pk_sub, znI_or, znI_and, znI_df, zon_ok, zbt_ok, zlt_t, zlt_f, zle_t, zle_f, zeq_f, ↓zbv_of (strip_ok hV hO h2)]
  have hV1 := hV.sp tw n (n - 1)
  obtain ⟨σ1, hσ1⟩ : ∃ σ1, σ1 = zsp σ b n tw (n - 1) := ⟨_, rfl⟩
  have ht : ∀ k, k < n - 1 → σ1 (b + 5) k = nI (ztk tw n k) ∧ σ1 (b + 6) k = nI (zhk tw n k) := by
    intro k hk
    rw [hσ1]
    unfold zsp
    exact ⟨by rw [if_pos ⟨rfl, hk⟩], by rw [if_neg (by omega), if_pos ⟨rfl, hk⟩]⟩
  rw [← hσ1] at hV1 ⊢
  unfold L_X4_twigsApart_10
  refine zloop_for (fun k => (nI (zgy tw n k).1, nI (zgy tw n k).2.1, nI k, σ1)) (n - 1) rfl (by omega) (fun rec k hk => ?_) (fun rec => ?_)
  · obtain ⟨s1, s2, s3, s4, s5, s6, s7, s8⟩ := zstep hn hT (k := k) (by omega)
    obtain ⟨i1, -⟩ := zgy_inv hn hT k (by omega)
    obtain ⟨t1, t2⟩ := ht k hk
    have hal := Nat.lt_of_le_of_lt (Nat.and_le_left (n := (zgy tw n k).1) (m := 2 ^ ztk tw n k ||| 2 ^ zhk tw n k)) i1
    unfold B_X4_twigsApart_10 B_X4_twigsApart_54
    by_cases c : zgt tw n k
    · have c' : (zgy tw n k).1 &&& (2 ^ ztk tw n k ||| 2 ^ zhk tw n k) = 0 := c
      rw [zgy_pos c]
      simp (disch := omega) only [↓reduceIte, ↓znm, ↓zbd_some, ↓zbv_some, ↓zga_in, ↓zgs_in, ↓zgr_in, zga_in, zgs_in, zgr_in, zgz_n0, zgz_n1, zlit, nI_add, pk_mul, pk_sub, znI_or, znI_and, znI_df, zon_ok, zbt_ok, zlt_t, zlt_f, zle_t, zle_f, zeq_f, hV1.1, t1, t2, c']
    · have c' : ¬ (zgy tw n k).1 &&& (2 ^ ztk tw n k ||| 2 ^ zhk tw n k) = 0 := c
      rw [zgy_neg c]
      have n1 := zeq_f c' (by omega) (by omega)
      simp (disch := omega) only [↓reduceIte, ↓znm, ↓zbd_some, ↓zbv_some, ↓zga_in, ↓zgs_in, ↓zgr_in, zga_in, zgs_in, zgr_in, zgz_n0, zgz_n1, zlit, nI_add, pk_mul, pk_sub, znI_or, znI_and, znI_df, zon_ok, zbt_ok, zlt_t, zlt_f, zle_t, zle_f, zeq_f, hV1.1, t1, t2, n1]
  · unfold B_X4_twigsApart_10
    simp (disch := omega) only [↓reduceIte, ↓znm, ↓zbd_some, ↓zbv_some, ↓zga_in, ↓zgs_in, ↓zgr_in, zga_in, zgs_in, zgr_in, zgz_n0, zgz_n1, zlit, nI_add, pk_mul, pk_sub, znI_or, znI_and, znI_df, zon_ok, zbt_ok, zlt_t, zlt_f, zle_t, zle_f, zeq_f, hV1.1]
