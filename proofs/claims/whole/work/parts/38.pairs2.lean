/-! PURE: pairs: the reference -/
theorem zboo (R : Nat → Prop) : ∃ Q : Nat → Bool, ∀ i, Q i = true ↔ R i := ⟨fun i => @decide (R i) (Classical.propDecidable _), fun i => @decide_eq_true_iff (R i) (Classical.propDecidable _)⟩
def zTP (n : Nat) (tw : Nat → Nat) (m : Nat) (A B : Nat → Nat) (a b : Nat) : Prop := (∀ j, j < m → A j < B j ∧ B j < n ∧ (tw (A j)).testBit (B j) = true ∧ (A j < a ∨ (A j = a ∧ B j < b))) ∧ (∀ i j, i < m → j < m → A i = A j → B i = B j → i = j) ∧ (∀ x y, x < y → y < n → (tw x).testBit y = true → (x < a ∨ (x = a ∧ y < b)) → ∃ j, j < m ∧ A j = x ∧ B j = y)
def zTS (τ σ : zSt) (m : Nat) (A B : Nat → Nat) : Prop := (∀ c, c ≠ 16 → c ≠ 17 → σ c = τ c) ∧ ∀ j, j < m → σ 16 j = nI (A j) ∧ σ 17 j = nI (B j)
theorem zTP.le {n : Nat} {tw : Nat → Nat} {d : Nat → Nat → Nat} (hT : zTR (fun p => p < n) tw d) (h2 : 2 ≤ n) {m : Nat} {A B : Nat → Nat} {a b : Nat} (h : zTP n tw m A B a b) : m ≤ n - 1 := by
  by_cases c : m ≤ n - 1
  · exact c
  · exfalso
    obtain ⟨g, hg⟩ : ∃ g : Nat → Nat, ∀ j, g j = if d 0 (A j) < d 0 (B j) then B j else A j := ⟨_, fun _ => rfl⟩
    obtain ⟨h', hh'⟩ : ∃ g : Nat → Nat, ∀ j, g j = if d 0 (A j) < d 0 (B j) then A j else B j := ⟨_, fun _ => rfl⟩
    have key : ∀ j, j < m → g j < n ∧ g j ≠ 0 ∧ (tw (g j)).testBit (h' j) = true ∧ d 0 (h' j) + 1 = d 0 (g j) := by
      intro j hj
      obtain ⟨a1, a2, a3, a4⟩ := h.1 j hj
      obtain ⟨b1, b2, b3⟩ := hT.2.1 (A j) (B j) (by omega) a3
      have h5 := hT.2.2.2.2.1 0 (A j) (B j) (by omega) (by omega) a3
      have h00 : d 0 0 = 0 := hT.2.2.1 0 (by omega)
      rw [hg j, hh' j]
      by_cases e : d 0 (A j) < d 0 (B j)
      · rw [if_pos e, if_pos e]
        refine ⟨a2, by omega, b2, by omega⟩
      · rw [if_neg e, if_neg e]
        refine ⟨by omega, fun q => ?_, a3, by omega⟩
        rw [q] at h5 e
        omega
    obtain ⟨i, j, q1, q2, q3⟩ := zphp (n - 1) (fun j => g j - 1) (fun j hj => by
      have := key j (by omega)
      show g j - 1 < n - 1
      omega)
    obtain ⟨k1, k2, k3, k4⟩ := key i (by omega)
    obtain ⟨l1, l2, l3, l4⟩ := key j (by omega)
    have e1 : g i = g j := by omega
    obtain ⟨r, r1, r2, r3⟩ := hT.2.2.2.2.2 0 (g i) (by omega) k1 k2
    have e2 : h' i = h' j := (r3 _ k3 k4).trans (r3 _ (e1 ▸ l3) (by rw [e1]; exact l4)).symm
    have ai := h.1 i (by omega)
    have aj := h.1 j (by omega)
    rw [hg i, hg j] at e1
    rw [hh' i, hh' j] at e2
    have := h.2.1 i j (by omega) (by omega)
    by_cases ci : d 0 (A i) < d 0 (B i) <;> by_cases cj : d 0 (A j) < d 0 (B j) <;> simp only [ci, cj, if_true, if_false] at e1 e2 <;> omega
theorem findTwigs_in {τ : zSt} {n : Nat} {kd ld tw : Nat → Nat} {d : Nat → Nat → Nat} (hV : zVM τ n kd ld tw) (hO : zOK n kd ld tw) (hT : zTR (fun p => p < n) tw d) (h2 : 2 ≤ n) (K4 : Int32 → Int32 → zSt → Option (Int32 × zSt)) (Po : Int32 × zSt → Prop) {a : Nat} (ha : a < n) (hK : ∀ m A B σ, zTS τ σ m A B → zTP n tw m A B (a + 1) 0 → ∃ o, K4 (nI m) (nI (a + 1)) σ = some o ∧ Po o) (m : Nat) (A B : Nat → Nat) (σ : zSt) (hs : zTS τ σ m A B) (hp : zTP n tw m A B a (a + 1)) : ∃ o, L_X6_findTwigs_16 K4 (nI m) (nI a) (nI (a + 1)) σ = some o ∧ Po o := by
  have hn := hO.1
  unfold L_X6_findTwigs_16
  refine zloop_ex (I := fun x => ∃ b m A B, b ≤ n ∧ a < b ∧ x.1 = nI m ∧ x.2.1 = nI a ∧ x.2.2.1 = nI b ∧ zTS τ x.2.2.2 m A B ∧ zTP n tw m A B a b) (μ := fun x => n - x.2.2.1.toNatClampNeg) ?_ zFU _ ⟨a + 1, m, A, B, by omega, by omega, rfl, rfl, rfl, hs, hp⟩ (by have := zFU_ge; show n - _ < _; omega)
  rintro rec ⟨v1, v2, v3, σ⟩ ⟨b, m, A, B, c1, c2, c3, c4, c5, hs, hp⟩ ih
  dsimp only at c3 c4 c5 hs ih ⊢
  subst c3 c4 c5
  have hm := hp.le hT h2
  have e0 : σ 0 5 = nI n := by rw [hs.1 0 (by decide) (by decide)]; exact hV.1
  have e4 : σ 4 a = nI (tw a) := by rw [hs.1 4 (by decide) (by decide)]; exact (hV.2 a ha).2.2
  have tl := (hO.2 a ha).2.2
  by_cases hb : b = n
  · have e : B_X6_findTwigs_16 K4 (fun v1 v2 v3 σ => rec (v1, v2, v3, σ)) (nI m) (nI a) (nI b) σ = K4 (nI m) (nI (a + 1)) σ := by
      unfold B_X6_findTwigs_16
      simp (disch := omega) only [↓reduceIte, ↓znm, ↓zbd_some, ↓zbv_some, ↓zga_in, ↓zgs_in, ↓zgr_in, zga_in, zgs_in, zgr_in, zgz_n0, zgz_n1, zlit, nI_add, pk_mul, pk_sub, znI_or, znI_and, znI_df, zon_ok, zbt_ok, zlt_t, zlt_f, zle_t, zle_f, zeq_f, e0]
    rw [e]
    refine hK m A B σ hs ⟨fun j hj => ?_, hp.2.1, fun x y h1 h3 h4 h5 => hp.2.2 x y h1 h3 h4 (by omega)⟩
    obtain ⟨q1, q2, q3, q4⟩ := hp.1 j hj
    exact ⟨q1, q2, q3, by omega⟩
  · by_cases hbit : (tw a).testBit b = true
    · have hp' : zTP n tw (m + 1) (fun j => if j = m then a else A j) (fun j => if j = m then b else B j) a (b + 1) := by
        refine ⟨fun j hj => ?_, fun i j hi hj e1 e2 => ?_, fun x y h1 h3 h4 h5 => ?_⟩
        · dsimp only
          by_cases e : j = m
          · rw [if_pos e, if_pos e]
            exact ⟨by omega, by omega, hbit, by omega⟩
          · rw [if_neg e, if_neg e]
            obtain ⟨q1, q2, q3, q4⟩ := hp.1 j (by omega)
            exact ⟨q1, q2, q3, by omega⟩
        · dsimp only at e1 e2
          by_cases f1 : i = m
          · by_cases f2 : j = m
            · omega
            · rw [if_pos f1, if_neg f2] at e1 e2
              have := (hp.1 j (by omega)).2.2.2
              omega
          · by_cases f2 : j = m
            · rw [if_neg f1, if_pos f2] at e1 e2
              have := (hp.1 i (by omega)).2.2.2
              omega
            · rw [if_neg f1, if_neg f2] at e1 e2
              exact hp.2.1 i j (by omega) (by omega) e1 e2
        · by_cases f : x = a ∧ y = b
          · exact ⟨m, by omega, by dsimp only; rw [if_pos rfl]; exact f.1.symm, by dsimp only; rw [if_pos rfl]; exact f.2.symm⟩
          · obtain ⟨j, j1, j2, j3⟩ := hp.2.2 x y h1 h3 h4 (by omega)
            exact ⟨j, by omega, by dsimp only; rw [if_neg (by omega)]; exact j2, by dsimp only; rw [if_neg (by omega)]; exact j3⟩
      have hm' := hp'.le hT h2
      obtain ⟨s1, hs1⟩ : ∃ s1, s1 = zsu σ 16 (upd (σ 16) m (nI a)) := ⟨_, rfl⟩
      obtain ⟨s2, hs2⟩ : ∃ s2, s2 = zsu s1 17 (upd (s1 17) m (nI b)) := ⟨_, rfl⟩
      have e : B_X6_findTwigs_16 K4 (fun v1 v2 v3 σ => rec (v1, v2, v3, σ)) (nI m) (nI a) (nI b) σ = rec (nI (m + 1), nI a, nI (b + 1), s2) := by
        unfold B_X6_findTwigs_16 B_X6_findTwigs_54
        simp (disch := omega) only [↓reduceIte, ↓znm, ↓zbd_some, ↓zbv_some, ↓zga_in, ↓zgs_in, ↓zgr_in, zga_in, zgs_in, zgr_in, zgz_n0, zgz_n1, zlit, nI_add, pk_mul, pk_sub, znI_or, znI_and, znI_df, zon_ok, zbt_ok, zlt_t, zlt_f, zle_t, zle_f, zeq_f, e0, e4, ↓zbd_of (isOf_ok (m := tw a) (k := b) (by omega) (by omega) σ), hbit, ← hs1, ← hs2]
      rw [e]
      refine ih _ ⟨b + 1, m + 1, _, _, by omega, by omega, rfl, rfl, rfl, ⟨fun c g1 g2 => ?_, fun j hj => ?_⟩, hp'⟩ ?_
      · dsimp only
        rw [hs2, zsu_ne g2, hs1, zsu_ne g1]; exact hs.1 c g1 g2
      · dsimp only
        rw [hs2, zput_at, zput_at, hs1, zput_at, zput_at]
        by_cases f : j = m
        · simp only [f]
          exact ⟨rfl, rfl⟩
        · have := hs.2 j (by omega)
          simp only [f, and_false, if_false]
          exact this
      · show n - (nI (b + 1)).toNatClampNeg < n - (nI b).toNatClampNeg
        rw [nI_clamp (by omega), nI_clamp (by omega)]
        omega
    · have hp' : zTP n tw m A B a (b + 1) := by
        refine ⟨fun j hj => ?_, hp.2.1, fun x y h1 h3 h4 h5 => ?_⟩
        · obtain ⟨q1, q2, q3, q4⟩ := hp.1 j hj
          exact ⟨q1, q2, q3, by omega⟩
        · by_cases f : x = a ∧ y = b
          · rw [f.1, f.2] at h4
            exact absurd h4 hbit
          · exact hp.2.2 x y h1 h3 h4 (by omega)
      have e : B_X6_findTwigs_16 K4 (fun v1 v2 v3 σ => rec (v1, v2, v3, σ)) (nI m) (nI a) (nI b) σ = rec (nI m, nI a, nI (b + 1), σ) := by
        unfold B_X6_findTwigs_16 B_X6_findTwigs_54
        simp (disch := omega) only [↓reduceIte, ↓znm, ↓zbd_some, ↓zbv_some, ↓zga_in, ↓zgs_in, ↓zgr_in, zga_in, zgs_in, zgr_in, zgz_n0, zgz_n1, zlit, nI_add, pk_mul, pk_sub, znI_or, znI_and, znI_df, zon_ok, zbt_ok, zlt_t, zlt_f, zle_t, zle_f, zeq_f, e0, e4, ↓zbd_of (isOf_ok (m := tw a) (k := b) (by omega) (by omega) σ), hbit, Bool.false_eq_true]
      rw [e]
      refine ih _ ⟨b + 1, m, A, B, by omega, by omega, rfl, rfl, rfl, hs, hp'⟩ ?_
      show n - (nI (b + 1)).toNatClampNeg < n - (nI b).toNatClampNeg
      rw [nI_clamp (by omega), nI_clamp (by omega)]
      omega
theorem findTwigs_ok {τ : zSt} {n : Nat} {kd ld tw : Nat → Nat} {d : Nat → Nat → Nat} (hV : zVM τ n kd ld tw) (hO : zOK n kd ld tw) (hT : zTR (fun p => p < n) tw d) (h2 : 2 ≤ n) : ∃ m A B σ, M_X6_findTwigs τ = some (nI m, σ) ∧ zTS τ σ m A B ∧ zTP n tw m A B n 0 := by
  have hn := hO.1
  unfold M_X6_findTwigs L_X6_findTwigs_4
  have := zloop_ex (F := (fun (rec : Int32 × Int32 × zSt → Option (Int32 × zSt)) x => B_X6_findTwigs_4   (fun v1 v2 σ => rec (v1, v2, σ)) x.1 x.2.1 x.2.2)) (Po := fun o => ∃ m A B, o.1 = nI m ∧ zTS τ o.2 m A B ∧ zTP n tw m A B n 0) (I := fun x => ∃ a m A B, a ≤ n ∧ x.1 = nI m ∧ x.2.1 = nI a ∧ zTS τ x.2.2 m A B ∧ zTP n tw m A B a 0) (μ := fun x => n - x.2.1.toNatClampNeg) ?_ zFU (nI 0, nI 0, τ) ⟨0, 0, fun _ => 0, fun _ => 0, by omega, rfl, rfl, ⟨fun _ _ _ => rfl, fun j h => by omega⟩, ⟨fun j h => by omega, fun i j h => by omega, fun x y _ _ _ h => by omega⟩⟩ (by have := zFU_ge; show n - _ < _; omega)
  · obtain ⟨⟨r, σ⟩, o1, m, A, B, o2, o3, o4⟩ := this
    dsimp only at o2 o3
    subst o2
    exact ⟨m, A, B, σ, o1, o3, o4⟩
  rintro rec ⟨v1, v2, σ⟩ ⟨a, m, A, B, c1, c2, c3, hs, hp⟩ ih
  dsimp only at c2 c3 hs ih ⊢
  subst c2 c3
  have e0 : σ 0 5 = nI n := by rw [hs.1 0 (by decide) (by decide)]; exact hV.1
  by_cases ha : a = n
  · subst ha
    refine ⟨(nI m, σ), ?_, m, A, B, rfl, hs, hp⟩
    unfold B_X6_findTwigs_4
    simp (disch := omega) only [↓reduceIte, ↓znm, ↓zbd_some, ↓zbv_some, ↓zga_in, ↓zgs_in, ↓zgr_in, zga_in, zgs_in, zgr_in, zgz_n0, zgz_n1, zlit, nI_add, pk_mul, pk_sub, znI_or, znI_and, znI_df, zon_ok, zbt_ok, zlt_t, zlt_f, zle_t, zle_f, zeq_f, e0]
  · have e : B_X6_findTwigs_4 (fun v1 v2 σ => rec (v1, v2, σ)) (nI m) (nI a) σ = L_X6_findTwigs_16 (fun v1 v2 σ => rec (v1, v2, σ)) (nI m) (nI a) (nI (a + 1)) σ := by
      unfold B_X6_findTwigs_4
      simp (disch := omega) only [↓reduceIte, ↓znm, ↓zbd_some, ↓zbv_some, ↓zga_in, ↓zgs_in, ↓zgr_in, zga_in, zgs_in, zgr_in, zgz_n0, zgz_n1, zlit, nI_add, pk_mul, pk_sub, znI_or, znI_and, znI_df, zon_ok, zbt_ok, zlt_t, zlt_f, zle_t, zle_f, zeq_f, e0]
    rw [e]
    refine findTwigs_in hV hO hT h2 _ _ (by omega) (fun m A B σ hs hp => ?_) m A B σ hs ⟨fun j hj => ?_, hp.2.1, fun x y h1 h3 h4 h5 => hp.2.2 x y h1 h3 h4 (by omega)⟩
    · refine ih _ ⟨a + 1, m, A, B, by omega, rfl, rfl, hs, hp⟩ ?_
      show n - (nI (a + 1)).toNatClampNeg < n - (nI a).toNatClampNeg
      rw [nI_clamp (by omega), nI_clamp (by omega)]
      omega
    · obtain ⟨q1, q2, q3, q4⟩ := hp.1 j hj
      exact ⟨q1, q2, q3, by omega⟩
/-- posts taken by the first i twigs of set s; that no two of them touch -/
def zbw (A B : Nat → Nat) (s i : Nat) : Nat := if s.testBit i = true then 2 ^ A i ||| 2 ^ B i else 0
def zpt (A B : Nat → Nat) (s : Nat) : Nat → Nat
  | 0 => 0
  | i + 1 => zpt A B s i ||| zbw A B s i
def zcn (A B : Nat → Nat) (s m : Nat) : Prop := ∀ i, i < m → zpt A B s i &&& zbw A B s i = 0
theorem zbw_lt {A B : Nat → Nat} {m : Nat} (h : ∀ j, j < m → A j < 8 ∧ B j < 8) (s : Nat) {i : Nat} (hi : i < m) : zbw A B s i < 256 := by
  unfold zbw
  split
  · exact zbo_lt (h i hi).1 (h i hi).2
  · decide
theorem zpt_lt {A B : Nat → Nat} {m : Nat} (h : ∀ j, j < m → A j < 8 ∧ B j < 8) (s : Nat) : ∀ i, i ≤ m → zpt A B s i < 256
  | 0, _ => by unfold zpt; decide
  | i + 1, hi => by
    unfold zpt
    exact Nat.or_lt_two_pow (n := 8) (zpt_lt h s i (by omega)) (zbw_lt h s (by omega))
theorem zpt_bit (A B : Nat → Nat) (s q : Nat) : ∀ i, (zpt A B s i).testBit q = true ↔ ∃ j, j < i ∧ s.testBit j = true ∧ (q = A j ∨ q = B j)
  | 0 => by
    constructor
    · intro h
      exact absurd h (by unfold zpt; simp)
    · rintro ⟨p, h, -⟩
      omega
  | i + 1 => by
    unfold zpt
    rw [Nat.testBit_or, Bool.or_eq_true, zpt_bit A B s q i]
    unfold zbw
    by_cases c : s.testBit i = true
    · rw [if_pos c, zbo_bit]
      constructor
      · rintro (⟨p, h1, h2⟩ | h)
        · exact ⟨p, by omega, h2⟩
        · exact ⟨i, by omega, c, h⟩
      · rintro ⟨p, h1, h2, h3⟩
        by_cases e : p = i
        · exact Or.inr (e ▸ h3)
        · exact Or.inl ⟨p, by omega, h2, h3⟩
    · rw [if_neg c]
      constructor
      · rintro (⟨p, h1, h2⟩ | h)
        · exact ⟨p, by omega, h2⟩
        · exact absurd h (by simp)
      · rintro ⟨p, h1, h2, h3⟩
        by_cases e : p = i
        · exact absurd (e ▸ h2) c
        · exact Or.inl ⟨p, by omega, h2, h3⟩
/-- how many of the first i -/
theorem zpt_two {A B : Nat → Nat} {m : Nat} (h : ∀ j, j < m → A j < 8 ∧ B j < 8 ∧ A j ≠ B j) {s : Nat} (hc : zcn A B s m) : ∀ i, i ≤ m → zpc (zpt A B s i) = 2 * zsum (zbi s) i
  | 0, _ => by unfold zpt zsum; rw [zpc_0]
  | i + 1, hi => by
    obtain ⟨h1, h2, h3⟩ := h i (by omega)
    unfold zpt zsum
    rw [zpc_or (hc i (by omega)), zpt_two h hc i (by omega)]
    unfold zbw zbi
    by_cases c : s.testBit i = true
    · rw [if_pos c, if_pos c, zbo_pc h1 h2 h3]; omega
    · rw [if_neg c, if_neg c, zpc_0]; rfl
theorem zpt_cov {A B : Nat → Nat} {m C : Nat} (h : ∀ j, j < m → A j < 8 ∧ B j < 8 ∧ (C.testBit (A j) = true ∨ C.testBit (B j) = true)) {s : Nat} (hc : zcn A B s m) : ∀ i, i ≤ m → zsum (zbi s) i ≤ zpc (zpt A B s i &&& C)
  | 0, _ => by unfold zsum; exact Nat.zero_le _
  | i + 1, hi => by
    obtain ⟨h1, h2, h3⟩ := h i (by omega)
    have ih := zpt_cov h hc i (by omega)
    have c0 := hc i (by omega)
    unfold zsum
    by_cases c : s.testBit i = true
    · have e1 : zbi s i = 1 := if_pos c
      have e2 : zbw A B s i = 2 ^ A i ||| 2 ^ B i := if_pos c
      have e3 : zpt A B s (i + 1) &&& C = (zpt A B s i &&& C) ||| (zbw A B s i &&& C) := by
        show (zpt A B s i ||| zbw A B s i) &&& C = _
        exact Nat.and_or_distrib_right _ _ _
      rw [e3, zpc_or (zand0 (fun t t1 t2 => zand0' c0 ((zand_iff _ _ _).mp t1).1 ((zand_iff _ _ _).mp t2).1)), e1]
      have : 1 ≤ zpc (zbw A B s i &&& C) := by
        rcases h3 with h3 | h3
        · exact zpc_pos h1 ((zand_iff _ _ _).mpr ⟨by rw [e2, zbo_bit]; exact Or.inl rfl, h3⟩)
        · exact zpc_pos h2 ((zand_iff _ _ _).mpr ⟨by rw [e2, zbo_bit]; exact Or.inr rfl, h3⟩)
      omega
    · have e1 : zbi s i = 0 := if_neg c
      have e2 : zbw A B s i = 0 := if_neg c
      have e3 : zpt A B s (i + 1) = zpt A B s i := by
        show zpt A B s i ||| zbw A B s i = _
        rw [e2, Nat.or_zero]
      rw [e3, e1]
      omega
theorem zbits_lt {s m : Nat} (h : s < 2 ^ m) {i : Nat} (hi : m ≤ i) : s.testBit i = false := Nat.testBit_lt_two_pow (Nat.lt_of_lt_of_le h (Nat.pow_le_pow_right (by decide) hi))
theorem zpc_m {s m : Nat} (hm : m ≤ 8) (h : s < 2 ^ m) : zpc s = zsum (zbi s) m := by
  rw [zpc_sum]
  have key : ∀ j, m + j ≤ 8 → zsum (zbi s) (m + j) = zsum (zbi s) m := by
    intro j
    induction j with
    | zero => intro _; rfl
    | succ j ih =>
      intro hj
      rw [← Nat.add_assoc]
      show zsum (zbi s) (m + j) + zbi s (m + j) = _
      rw [ih (by omega)]
      have : zbi s (m + j) = 0 := by
        unfold zbi
        rw [zbits_lt h (show m ≤ m + j by omega)]
        rfl
      omega
  have := key (8 - m) (by omega)
  rw [show m + (8 - m) = 8 by omega] at this
  exact this
/-- the most of those sets below s whose twigs do not touch -/
def zmo (P : Nat → Bool) : Nat → Nat
  | 0 => 0
  | s + 1 => if P s = true ∧ zmo P s < zpc s then zpc s else zmo P s
theorem zmo_le {P : Nat → Bool} {N : Nat} : ∀ s, (∀ t, t < s → P t = true → zpc t ≤ N) → zmo P s ≤ N
  | 0, _ => Nat.zero_le _
  | s + 1, h => by
    have ih := zmo_le s (fun t ht hp => h t (by omega) hp)
    unfold zmo
    split
    · rename_i c
      exact h s (by omega) c.1
    · exact ih
theorem zmo_ge {P : Nat → Bool} {t : Nat} (hp : P t = true) : ∀ s, t < s → zpc t ≤ zmo P s
  | 0, h => by omega
  | s + 1, h => by
    unfold zmo
    by_cases e : t = s
    · subst e
      by_cases c : P t = true ∧ zmo P t < zpc t
      · rw [if_pos c]; exact Nat.le_refl _
      · rw [if_neg c]
        have : ¬ zmo P t < zpc t := fun q => c ⟨hp, q⟩
        omega
    · have ih := zmo_ge hp s (by omega)
      split
      · rename_i c
        omega
      · exact ih
theorem pairs_in {σ : zSt} {m : Nat} {A B : Nat → Nat} (hm : m ≤ 7) (hA : ∀ j, j < m → A j < 8 ∧ B j < 8 ∧ σ 16 j = nI (A j) ∧ σ 17 j = nI (B j)) {s v : Nat} (hs : s < 256) (hv : v ≤ 8) (P : Bool) (hP : P = true ↔ zcn A B s m) (K19 : Int32 → Int32 → Int32 → zSt → Option (Int32 × zSt)) : L_X6_pairs_35 K19 (nI m) (nI v) (nI s) (nI 0) (nI 1) (nI 0) σ = K19 (nI m) (nI (if P = true ∧ v < zpc s then zpc s else v)) (nI (s + 1)) σ := by
  have h8 := zpc_le s
  have hAB : ∀ j, j < m → A j < 8 ∧ B j < 8 := fun j hj => ⟨(hA j hj).1, (hA j hj).2.1⟩
  have bo : ∀ i (q : Int32 → Option (Int32 × zSt)), i < m → (if nI (if s.testBit i = true then 1 else 0) = nI 0 then q (nI 0) else q (nI (2 ^ A i ||| 2 ^ B i))) = q (nI (zbw A B s i)) := by
    intro i q hi
    unfold zbw
    by_cases c : s.testBit i = true
    · simp only [c, if_true]
      rw [if_neg (by decide)]
    · simp only [c, if_false, if_true, Bool.false_eq_true]
  have step : ∀ (rec : Int32 × Int32 × Int32 × Int32 × Int32 × Int32 × zSt → Option (Int32 × zSt)) i, i < m → B_X6_pairs_35 K19 (fun v1 v2 v3 v4 v5 v6 σ => rec (v1, v2, v3, v4, v5, v6, σ)) (nI m) (nI v) (nI s) (nI (zpt A B s i)) (nI 1) (nI i) σ = rec (nI m, nI v, nI s, nI (zpt A B s (i + 1)), nI (if zpt A B s i &&& zbw A B s i = 0 then 1 else 0), nI (i + 1), σ) := by
    intro rec i hi
    obtain ⟨a1, a2, a3, a4⟩ := hA i hi
    have hal := Nat.lt_of_le_of_lt (Nat.and_le_left (n := zpt A B s i) (m := zbw A B s i)) (zpt_lt hAB s i (by omega))
    have e1 : zpt A B s (i + 1) = zpt A B s i ||| zbw A B s i := rfl
    have e2 : ∀ w, w < 256 → B_X6_pairs_78 K19 (fun v1 v2 v3 v4 v5 v6 σ => rec (v1, v2, v3, v4, v5, v6, σ)) (nI m) (nI v) (nI s) (nI (zpt A B s i)) (nI i) (nI w) σ = rec (nI m, nI v, nI s, nI (zpt A B s i ||| w), nI (if zpt A B s i &&& w = 0 then 1 else 0), nI (i + 1), σ) := by
      intro w hw
      have hal := zand_lt (a := zpt A B s i) hw
      unfold B_X6_pairs_78 B_X6_pairs_93
      by_cases c : zpt A B s i &&& w = 0
      · simp (disch := omega) only [↓reduceIte, ↓znm, ↓zbd_some, ↓zbv_some, ↓zga_in, ↓zgs_in, ↓zgr_in, zga_in, zgs_in, zgr_in, zgz_n0, zgz_n1, zlit, nI_add, pk_mul, pk_sub, znI_or, znI_and, znI_df, zon_ok, zbt_ok, zlt_t, zlt_f, zle_t, zle_f, zeq_f, c]
      · have n1 := zeq_f c (by omega) (by omega)
        simp (disch := omega) only [↓reduceIte, ↓znm, ↓zbd_some, ↓zbv_some, ↓zga_in, ↓zgs_in, ↓zgr_in, zga_in, zgs_in, zgr_in, zgz_n0, zgz_n1, zlit, nI_add, pk_mul, pk_sub, znI_or, znI_and, znI_df, zon_ok, zbt_ok, zlt_t, zlt_f, zle_t, zle_f, zeq_f, c, n1]
    have e3 := e2 _ (zbw_lt hAB s hi)
    rw [e1, ← e3, ← bo i (fun w => B_X6_pairs_78 K19 (fun v1 v2 v3 v4 v5 v6 σ => rec (v1, v2, v3, v4, v5, v6, σ)) (nI m) (nI v) (nI s) (nI (zpt A B s i)) (nI i) w σ) hi]
    unfold B_X6_pairs_35
    by_cases c : s.testBit i = true
    · simp (disch := omega) only [↓reduceIte, ↓znm, ↓zbd_some, ↓zbv_some, ↓zga_in, ↓zgs_in, ↓zgr_in, zga_in, zgs_in, zgr_in, zgz_n0, zgz_n1, zlit, nI_add, pk_mul, pk_sub, znI_or, znI_and, znI_df, zon_ok, zbt_ok, zlt_t, zlt_f, zle_t, zle_f, zeq_f, ↓zbd_of (isOf_ok (m := s) (k := i) (by omega) (by omega) σ), c, a3, a4]
    · simp (disch := omega) only [↓reduceIte, ↓znm, ↓zbd_some, ↓zbv_some, ↓zga_in, ↓zgs_in, ↓zgr_in, zga_in, zgs_in, zgr_in, zgz_n0, zgz_n1, zlit, nI_add, pk_mul, pk_sub, znI_or, znI_and, znI_df, zon_ok, zbt_ok, zlt_t, zlt_f, zle_t, zle_f, zeq_f, ↓zbd_of (isOf_ok (m := s) (k := i) (by omega) (by omega) σ), c, Bool.false_eq_true]
  unfold L_X6_pairs_35
  rcases zfirst (fun i => ¬ zpt A B s i &&& zbw A B s i = 0) m with ⟨e, e1, e2, e3⟩ | hno
  · have hPf : ¬ P = true := fun q => e2 (hP.mp q e e1)
    rw [if_neg (fun q => hPf q.1)]
    refine zloop_for (fun i => (nI m, nI v, nI s, nI (zpt A B s i), nI (if i ≤ e then 1 else 0), nI i, σ)) (e + 1) rfl (by omega) (fun rec i hi => ?_) (fun rec => ?_)
    · rw [if_pos (show i ≤ e by omega)]
      refine (step rec i (by omega)).trans ?_
      by_cases c : i = e
      · subst c
        rw [if_neg e2, if_neg (by omega)]
      · rw [if_pos (Classical.not_not.mp (e3 i (by omega))), if_pos (by omega)]
    · dsimp only
      rw [if_neg (by omega)]
      unfold B_X6_pairs_35 B_X6_pairs_108 B_X6_pairs_128 B_X6_pairs_129
      by_cases c : m ≤ e + 1
      · simp (disch := omega) only [↓reduceIte, ↓znm, ↓zbd_some, ↓zbv_some, ↓zga_in, ↓zgs_in, ↓zgr_in, zga_in, zgs_in, zgr_in, zgz_n0, zgz_n1, zlit, nI_add, pk_mul, pk_sub, znI_or, znI_and, znI_df, zon_ok, zbt_ok, zlt_t, zlt_f, zle_t, zle_f, zeq_f]
      · simp (disch := omega) only [↓reduceIte, ↓znm, ↓zbd_some, ↓zbv_some, ↓zga_in, ↓zgs_in, ↓zgr_in, zga_in, zgs_in, zgr_in, zgz_n0, zgz_n1, zlit, nI_add, pk_mul, pk_sub, znI_or, znI_and, znI_df, zon_ok, zbt_ok, zlt_t, zlt_f, zle_t, zle_f, zeq_f]
  · have hPt : P = true := hP.mpr (fun i hi => Classical.not_not.mp (hno i hi))
    refine zloop_for (fun i => (nI m, nI v, nI s, nI (zpt A B s i), nI 1, nI i, σ)) m rfl (by omega) (fun rec i hi => ?_) (fun rec => ?_)
    · refine (step rec i hi).trans ?_
      rw [if_pos (Classical.not_not.mp (hno i hi))]
    · dsimp only
      unfold B_X6_pairs_35 B_X6_pairs_108 B_X6_pairs_128 B_X6_pairs_129
      have sz := size_ok hs σ
      by_cases c : v < zpc s
      · rw [if_pos (show P = true ∧ v < zpc s from ⟨hPt, c⟩)]
        simp (disch := omega) only [↓reduceIte, ↓znm, ↓zbd_some, ↓zbv_some, ↓zga_in, ↓zgs_in, ↓zgr_in, zga_in, zgs_in, zgr_in, zgz_n0, zgz_n1, zlit, nI_add, pk_mul, pk_sub, znI_or, znI_and, znI_df, zon_ok, zbt_ok, zlt_t, zlt_f, zle_t, zle_f, zeq_f, ↓zbd_of sz]
      · rw [if_neg (show ¬ (P = true ∧ v < zpc s) from fun q => c q.2)]
        simp (disch := omega) only [↓reduceIte, ↓znm, ↓zbd_some, ↓zbv_some, ↓zga_in, ↓zgs_in, ↓zgr_in, zga_in, zgs_in, zgr_in, zgz_n0, zgz_n1, zlit, nI_add, pk_mul, pk_sub, znI_or, znI_and, znI_df, zon_ok, zbt_ok, zlt_t, zlt_f, zle_t, zle_f, zeq_f, ↓zbd_of sz]
theorem zmo_8 (P : Nat → Bool) : ∀ s, zmo P s ≤ 8 := fun s => zmo_le s (fun t _ _ => zpc_le t)
theorem sim_pairs : zSim M_X5_pairs M_X6_pairs := by
  intro σ τ h
  obtain ⟨⟨n, kd, ld, tw, d, hV, hR⟩, hS, hI, hd⟩ := id h
  obtain ⟨h1, h2, h3, h4, h5, h6⟩ := hV
  have hn := h3.1
  unfold M_X5_pairs M_X6_pairs
  by_cases hz : n = 0
  · subst hz
    refine ⟨-nI 3, σ, τ, ?_, ?_, h⟩
    · simp (disch := omega) only [↓reduceIte, ↓znm, ↓zbd_some, ↓zbv_some, ↓zga_in, ↓zgs_in, ↓zgr_in, zga_in, zgs_in, zgr_in, zgz_n0, zgz_n1, zlit, nI_add, pk_mul, pk_sub, znI_or, znI_and, znI_df, zon_ok, zbt_ok, zlt_t, zlt_f, zle_t, zle_f, zeq_f, h1.1]
    · simp (disch := omega) only [↓reduceIte, ↓znm, ↓zbd_some, ↓zbv_some, ↓zga_in, ↓zgs_in, ↓zgr_in, zga_in, zgs_in, zgr_in, zgz_n0, zgz_n1, zlit, nI_add, pk_mul, pk_sub, znI_or, znI_and, znI_df, zon_ok, zbt_ok, zlt_t, zlt_f, zle_t, zle_f, zeq_f, h2.1]
  have hn2 : 2 ≤ n := h5.resolve_left hz
  obtain ⟨m, A, B, τ1, f1, f2, f3⟩ := findTwigs_ok h2 h3 h6 hn2
  have hm := f3.le h6 hn2
  have hA : ∀ j, j < m → A j < 8 ∧ B j < 8 ∧ τ1 16 j = nI (A j) ∧ τ1 17 j = nI (B j) := fun j hj => by
    have := f3.1 j hj
    exact ⟨by omega, by omega, (f2.2 j hj).1, (f2.2 j hj).2⟩
  obtain ⟨P, hP⟩ : ∃ P : Nat → Bool, ∀ s, P s = true ↔ zcn A B s m := by
    refine ⟨fun s => @decide (zcn A B s m) (Classical.propDecidable _), fun s => ?_⟩
    exact @decide_eq_true_iff _ (Classical.propDecidable _)
  have hp0 := Nat.two_pow_pos m
  have hp : 2 ^ m ≤ 128 := by
    have := Nat.pow_le_pow_right (n := 2) (by decide) (show m ≤ 7 by omega)
    simpa using this
  obtain ⟨g1, g2, g3, g4, g5, g6, g7⟩ := zgy_inv hn h6 (n - 1) (Nat.le_refl _)
  -- no set is better
  have up : zmo P (2 ^ m) ≤ (zgy tw n (n - 1)).2.1 := by
    apply zmo_le
    intro t ht hPt
    rw [zpc_m (by omega) ht]
    refine Nat.le_trans (zpt_cov (C := (zgy tw n (n - 1)).2.2) (m := m) (A := A) (B := B) (fun j hj => ?_) ((hP t).mp hPt) m (Nat.le_refl m)) (Nat.le_trans (zpc_sub (fun i hi => ((zand_iff _ _ _).mp hi).2)) g3)
    refine ⟨(hA j hj).1, (hA j hj).2.1, ?_⟩
    obtain ⟨q1, q2, q3, q4⟩ := f3.1 j hj
    obtain ⟨k, k1, k2⟩ := zmet hn hn2 h6 (x := A j) (y := B j) (by omega) q3
    rcases k2 with ⟨r1, r2⟩ | ⟨r1, r2⟩
    · rw [r1, r2]; exact g5 k k1
    · rw [r1, r2]; exact (g5 k k1).symm
  -- that of the greedy is one
  have down : (zgy tw n (n - 1)).2.1 ≤ zmo P (2 ^ m) := by
    obtain ⟨Q, hQ⟩ : ∃ Q : Nat → Bool, ∀ i, Q i = true ↔ ∃ k, k < n - 1 ∧ zgt tw n k ∧ ((A i = ztk tw n k ∧ B i = zhk tw n k) ∨ (B i = ztk tw n k ∧ A i = zhk tw n k)) := zboo _
    have hb : ∀ i, i < m → ((zset Q m).testBit i = true ↔ Q i = true) := fun i hi => by
      rw [zset_bit]; simp [hi]
    have hcn : zcn A B (zset Q m) m := by
      intro i hi
      apply zand0
      intro q t1 t2
      obtain ⟨j, j1, j2, j3⟩ := (zpt_bit A B _ q i).mp t1
      unfold zbw at t2
      by_cases c : (zset Q m).testBit i = true
      · rw [if_pos c, zbo_bit] at t2
        obtain ⟨k, k1, k2, k3⟩ := (hQ i).mp ((hb i hi).mp c)
        obtain ⟨l, l1, l2, l3⟩ := (hQ j).mp ((hb j (by omega)).mp j2)
        have ai := f3.1 i hi
        have aj := f3.1 j (by omega)
        rcases Nat.lt_trichotomy k l with e | e | e
        · exact zgt_apart hn h6 e l1 k2 l2 (q := q) (by omega) (by omega)
        · subst e
          have := f3.2.1 i j hi (by omega) (by omega) (by omega)
          omega
        · exact zgt_apart hn h6 e k1 l2 k2 (q := q) (by omega) (by omega)
      · rw [if_neg c] at t2
        exact absurd t2 (by simp)
    have e1 : zpt A B (zset Q m) m = (zgy tw n (n - 1)).1 := by
      apply zfun_ext
      intro q
      rw [zpt_bit, g6 q]
      constructor
      · rintro ⟨j, j1, j2, j3⟩
        obtain ⟨l, l1, l2, l3⟩ := (hQ j).mp ((hb j j1).mp j2)
        exact ⟨l, l1, l2, by omega⟩
      · rintro ⟨k, k1, k2, k3⟩
        obtain ⟨s1, s2, s3, s4, s5, s6, s7, s8⟩ := zstep hn h6 (k := k) k1
        have hsym := (h6.2.1 _ _ s1 s6).2.1
        rcases Nat.lt_or_gt_of_ne s3 with e | e
        · obtain ⟨j, j1, j2, j3⟩ := f3.2.2 _ _ e s2 s6 (by omega)
          exact ⟨j, j1, (hb j j1).mpr ((hQ j).mpr ⟨k, k1, k2, Or.inl ⟨j2, j3⟩⟩), by omega⟩
        · obtain ⟨j, j1, j2, j3⟩ := f3.2.2 _ _ e s1 hsym (by omega)
          exact ⟨j, j1, (hb j j1).mpr ((hQ j).mpr ⟨k, k1, k2, Or.inr ⟨j3, j2⟩⟩), by omega⟩
    have e2 := zpt_two (m := m) (A := A) (B := B) (fun j hj => ⟨(hA j hj).1, (hA j hj).2.1, by have := f3.1 j hj; omega⟩) hcn m (Nat.le_refl m)
    rw [e1, g2, ← zpc_m (by omega) (zset_lt Q m)] at e2
    have := zmo_ge ((hP _).mpr hcn) (2 ^ m) (zset_lt Q m)
    omega
  have hmo : zmo P (2 ^ m) = (zgy tw n (n - 1)).2.1 := Nat.le_antisymm up down
  have hlo : L_X6_pairs_19 (nI m) (nI 0) (nI 0) τ1 = some (nI (zmo P (2 ^ m)), τ1) := by
    unfold L_X6_pairs_19
    refine zloop_for (fun s => (nI m, nI (zmo P s), nI s, τ1)) (2 ^ m) rfl (by omega) (fun rec s hs => ?_) (fun rec => ?_)
    · have := pairs_in (by omega) hA (s := s) (v := zmo P s) (by omega) (zmo_8 P s) (P s) (hP s) (fun v1 v2 v3 σ => rec (v1, v2, v3, σ))
      unfold B_X6_pairs_19
      simp (disch := omega) only [↓reduceIte, ↓znm, ↓zbd_some, ↓zbv_some, ↓zga_in, ↓zgs_in, ↓zgr_in, zga_in, zgs_in, zgr_in, zgz_n0, zgz_n1, zlit, nI_add, pk_mul, pk_sub, znI_or, znI_and, znI_df, zon_ok, zbt_ok, zlt_t, zlt_f, zle_t, zle_f, zeq_f, this, zmo]
    · unfold B_X6_pairs_19
      simp (disch := omega) only [↓reduceIte, ↓znm, ↓zbd_some, ↓zbv_some, ↓zga_in, ↓zgs_in, ↓zgr_in, zga_in, zgs_in, zgr_in, zgz_n0, zgz_n1, zlit, nI_add, pk_mul, pk_sub, znI_or, znI_and, znI_df, zon_ok, zbt_ok, zlt_t, zlt_f, zle_t, zle_f, zeq_f]
  refine ⟨nI (zgy tw n (n - 1)).2.1, zsp σ 10 n tw (n - 1), τ1, ?_, ?_, (h.sp n tw _).eq zeqX.rf zeqX0.rf ⟨fun c _ _ => f2.1 c (by omega) (by omega), fun c _ _ => f2.1 c (by omega) (by omega), by rw [f2.1 0 (by decide) (by decide)], by rw [f2.1 0 (by decide) (by decide)]⟩ ⟨by rw [f2.1 0 (by decide) (by decide)], by rw [f2.1 0 (by decide) (by decide)], by rw [f2.1 0 (by decide) (by decide)]⟩⟩
  · simp (disch := omega) only [↓reduceIte, ↓znm, ↓zbd_some, ↓zbv_some, ↓zga_in, ↓zgs_in, ↓zgr_in, zga_in, zgs_in, zgr_in, zgz_n0, zgz_n1, zlit, nI_add, pk_mul, pk_sub, znI_or, znI_and, znI_df, zon_ok, zbt_ok, zlt_t, zlt_f, zle_t, zle_f, zeq_f, h1.1, ↓zbd_of (twigsApart_ok h1 h3 h6 hn2)]
  · simp (disch := omega) only [↓reduceIte, ↓znm, ↓zbd_some, ↓zbv_some, ↓zga_in, ↓zgs_in, ↓zgr_in, zga_in, zgs_in, zgr_in, zgz_n0, zgz_n1, zlit, nI_add, pk_mul, pk_sub, znI_or, znI_and, znI_df, zon_ok, zbt_ok, zlt_t, zlt_f, zle_t, zle_f, zeq_f, h2.1, ↓zbd_of f1, hlo, hmo]
