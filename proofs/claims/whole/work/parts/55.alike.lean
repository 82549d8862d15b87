/-! PURE: alike -/
def zim (tw : Nat → Nat) (l : List Nat) (p : Nat) : Nat → Nat
  | 0 => 0
  | i + 1 => if (tw p).testBit i = true then zim tw l p i ||| 2 ^ zgi l i else zim tw l p i
theorem zim_bit (tw : Nat → Nat) (l : List Nat) (p y : Nat) : ∀ i, (zim tw l p i).testBit y = true ↔ ∃ q, q < i ∧ (tw p).testBit q = true ∧ zgi l q = y
  | 0 => by
    constructor
    · intro h
      exact absurd h (by unfold zim; simp)
    · rintro ⟨p, h, -⟩
      omega
  | i + 1 => by
    unfold zim
    have ih := zim_bit tw l p y i
    by_cases c : (tw p).testBit i = true
    · rw [if_pos c, Nat.testBit_or, Bool.or_eq_true, ih, zbit2]
      constructor
      · rintro (⟨q, h1, h2⟩ | h)
        · exact ⟨q, by omega, h2⟩
        · exact ⟨i, by omega, c, h.symm⟩
      · rintro ⟨q, h1, h2, h3⟩
        by_cases e : q = i
        · rw [e] at h3; exact Or.inr h3.symm
        · exact Or.inl ⟨q, by omega, h2, h3⟩
    · rw [if_neg c, ih]
      constructor
      · rintro ⟨q, h1, h2⟩
        exact ⟨q, by omega, h2⟩
      · rintro ⟨q, h1, h2, h3⟩
        by_cases e : q = i
        · exact absurd (e ▸ h2) c
        · exact ⟨q, by omega, h2, h3⟩
theorem zim_lt {n : Nat} {tw : Nat → Nat} {l : List Nat} (h : ∀ p, p < n → zgi l p < 8) (p : Nat) : ∀ i, i ≤ n → zim tw l p i < 256
  | 0, _ => by unfold zim; decide
  | i + 1, hi => by
    unfold zim
    have ih := zim_lt (tw := tw) h p i (by omega)
    split
    · exact zor_lt ih (z2p (h i (by omega)))
    · exact ih
theorem isSame_ok {τ : zSt} {n : Nat} {kd ld tw : Nat → Nat} {d : Nat → Nat → Nat} (hV : zVM τ n kd ld tw) (hO : zOK n kd ld tw) (hT : zTR (fun p => p < n) tw d) {l : List Nat} (hl : l.length = n) (h1 : ∀ p, p < n → zgi l p < n) (h2 : ∀ p q, p < n → q < n → zgi l p = zgi l q → p = q) (h15 : ∀ p, p < n → τ 15 p = nI (zgi l p)) (B : Bool) (hB : B = true ↔ zau n tw l) : M_X6_isSame τ = some (nI (if B = true then 1 else 0), τ) := by
  have hn := hO.1
  have h0 := hV.1
  have good : zau n tw l ↔ ∀ p, p < n → zim tw l p n = tw (zgi l p) := by
    constructor
    · rintro ⟨-, -, -, a3⟩ p hp
      apply zfun_ext
      intro y
      rw [zim_bit]
      constructor
      · rintro ⟨q, q1, q2, q3⟩
        rw [← q3]
        exact (a3 p q hp q1).mpr q2
      · intro hy
        obtain ⟨q, q1, q2⟩ := zsurj h1 h2 (hT.2.1 _ y (h1 p hp) hy).1
        refine ⟨q, q1, ?_, q2⟩
        rw [← q2] at hy
        exact (a3 p q hp q1).mp hy
    · intro g
      refine ⟨hl, h1, h2, fun p q hp hq => ?_⟩
      rw [← g p hp, zim_bit]
      constructor
      · rintro ⟨q', q1, q2, q3⟩
        rw [← h2 q' q q1 hq q3]
        exact q2
      · intro h
        exact ⟨q, hq, h, rfl⟩
  have inner : ∀ p, p < n → ∀ K2 : Int32 → zSt → Option (Int32 × zSt), L_X6_isSame_14 K2 (nI p) (nI 0) (nI 0) τ = if zim tw l p n = tw (zgi l p) then K2 (nI (p + 1)) τ else some (nI 0, τ) := by
    intro p hp K2
    have tp := (hO.2 p hp).2.2
    have e4 := (hV.2 p hp).2.2
    have zl := zim_lt (tw := tw) (l := l) (n := n) (fun q hq => by have := h1 q hq; omega) p
    unfold L_X6_isSame_14
    refine zloop_for (fun i => (nI p, nI (zim tw l p i), nI i, τ)) n rfl (by omega) (fun rec i hi => ?_) (fun rec => ?_)
    · have b := h1 i hi
      unfold B_X6_isSame_14 B_X6_isSame_48
      by_cases c : (tw p).testBit i = true
      · simp (disch := omega) only [↓reduceIte, ↓znm, ↓zbd_some, ↓zbv_some, ↓zga_in, ↓zgs_in, ↓zgr_in, zga_in, zgs_in, zgr_in, zgz_n0, zgz_n1, zlit, nI_add, pk_mul, pk_sub, znI_or, znI_and, znI_df, zon_ok, zbt_ok, zlt_t, zlt_f, zle_t, zle_f, zeq_f, h0, e4, ↓zbd_of (isOf_ok (m := tw p) (k := i) (by omega) (by omega) τ), c, h15 i hi, zim]
      · simp (disch := omega) only [↓reduceIte, ↓znm, ↓zbd_some, ↓zbv_some, ↓zga_in, ↓zgs_in, ↓zgr_in, zga_in, zgs_in, zgr_in, zgz_n0, zgz_n1, zlit, nI_add, pk_mul, pk_sub, znI_or, znI_and, znI_df, zon_ok, zbt_ok, zlt_t, zlt_f, zle_t, zle_f, zeq_f, h0, e4, ↓zbd_of (isOf_ok (m := tw p) (k := i) (by omega) (by omega) τ), c, zim, Bool.false_eq_true, Nat.or_zero]
    · have b := h1 p hp
      have e5 := (hV.2 (zgi l p) b).2.2
      have t5 := (hO.2 (zgi l p) b).2.2
      have z5 := zl n (Nat.le_refl n)
      unfold B_X6_isSame_14
      by_cases c : zim tw l p n = tw (zgi l p)
      · simp (disch := omega) only [↓reduceIte, ↓znm, ↓zbd_some, ↓zbv_some, ↓zga_in, ↓zgs_in, ↓zgr_in, zga_in, zgs_in, zgr_in, zgz_n0, zgz_n1, zlit, nI_add, pk_mul, pk_sub, znI_or, znI_and, znI_df, zon_ok, zbt_ok, zlt_t, zlt_f, zle_t, zle_f, zeq_f, h0, h15 p hp, e5, c]
      · have n1 := zeq_f c (by omega) (by omega)
        simp (disch := omega) only [↓reduceIte, ↓znm, ↓zbd_some, ↓zbv_some, ↓zga_in, ↓zgs_in, ↓zgr_in, zga_in, zgs_in, zgr_in, zgz_n0, zgz_n1, zlit, nI_add, pk_mul, pk_sub, znI_or, znI_and, znI_df, zon_ok, zbt_ok, zlt_t, zlt_f, zle_t, zle_f, zeq_f, h0, h15 p hp, e5, n1, c]
  unfold M_X6_isSame L_X6_isSame_2
  rcases zfirst (fun p => ¬ zim tw l p n = tw (zgi l p)) n with ⟨e, e1, e2, e3⟩ | hno
  · have hBf : ¬ B = true := fun q => e2 (good.mp (hB.mp q) e e1)
    rw [if_neg hBf]
    refine zloop_for (fun p => (nI p, τ)) e rfl (by omega) (fun rec p hp => ?_) (fun rec => ?_)
    · have hi := inner p (by omega) (fun v1 σ => rec (v1, σ))
      rw [if_pos (Classical.not_not.mp (e3 p hp))] at hi
      unfold B_X6_isSame_2
      simp (disch := omega) only [↓reduceIte, ↓znm, ↓zbd_some, ↓zbv_some, ↓zga_in, ↓zgs_in, ↓zgr_in, zga_in, zgs_in, zgr_in, zgz_n0, zgz_n1, zlit, nI_add, pk_mul, pk_sub, znI_or, znI_and, znI_df, zon_ok, zbt_ok, zlt_t, zlt_f, zle_t, zle_f, zeq_f, h0, hi]
    · have hi := inner e e1 (fun v1 σ => rec (v1, σ))
      rw [if_neg e2] at hi
      unfold B_X6_isSame_2
      simp (disch := omega) only [↓reduceIte, ↓znm, ↓zbd_some, ↓zbv_some, ↓zga_in, ↓zgs_in, ↓zgr_in, zga_in, zgs_in, zgr_in, zgz_n0, zgz_n1, zlit, nI_add, pk_mul, pk_sub, znI_or, znI_and, znI_df, zon_ok, zbt_ok, zlt_t, zlt_f, zle_t, zle_f, zeq_f, h0, hi]
  · have hBt : B = true := hB.mpr (good.mpr (fun p hp => Classical.not_not.mp (hno p hp)))
    rw [if_pos hBt]
    refine zloop_for (fun p => (nI p, τ)) n rfl (by omega) (fun rec p hp => ?_) (fun rec => ?_)
    · have hi := inner p hp (fun v1 σ => rec (v1, σ))
      rw [if_pos (Classical.not_not.mp (hno p hp))] at hi
      unfold B_X6_isSame_2
      simp (disch := omega) only [↓reduceIte, ↓znm, ↓zbd_some, ↓zbv_some, ↓zga_in, ↓zgs_in, ↓zgr_in, zga_in, zgs_in, zgr_in, zgz_n0, zgz_n1, zlit, nI_add, pk_mul, pk_sub, znI_or, znI_and, znI_df, zon_ok, zbt_ok, zlt_t, zlt_f, zle_t, zle_f, zeq_f, h0, hi]
    · unfold B_X6_isSame_2
      simp (disch := omega) only [↓reduceIte, ↓znm, ↓zbd_some, ↓zbv_some, ↓zga_in, ↓zgs_in, ↓zgr_in, zga_in, zgs_in, zgr_in, zgz_n0, zgz_n1, zlit, nI_add, pk_mul, pk_sub, znI_or, znI_and, znI_df, zon_ok, zbt_ok, zlt_t, zlt_f, zle_t, zle_f, zeq_f, h0]
theorem alikeM_ok {τ : zSt} {n : Nat} {kd ld tw : Nat → Nat} {d : Nat → Nat → Nat} (hV : zVM τ n kd ld tw) (hO : zOK n kd ld tw) (hT : zTR (fun p => p < n) tw d) {P : List Nat → Bool} (hP : ∀ l, P l = true ↔ zau n tw l) {N : Nat} (hN : N = (List.range (zfac n)).countP (fun k => P (zru n (2 ^ n - 1) k))) (hN0 : 0 < N) : ∃ τ', L_X6_alike_19 (nI 0) (nI (zfac n)) (nI 0) τ = some (nI (zfac n / N), τ') ∧ ∀ c, c ≠ 15 → τ' c = τ c := by
  have hn := hO.1
  have hfl := zfac_le n hn
  have cle : ∀ k, (List.range k).countP (fun k => P (zru n (2 ^ n - 1) k)) ≤ k := fun k => by
    have := List.countP_le_length (p := fun k => P (zru n (2 ^ n - 1) k)) (l := List.range k)
    rw [List.length_range] at this
    exact this
  unfold L_X6_alike_19
  have := zloop_ex (F := (fun (rec : Int32 × Int32 × Int32 × zSt → Option (Int32 × zSt)) x => B_X6_alike_19   (fun v1 v2 v3 σ => rec (v1, v2, v3, σ)) x.1 x.2.1 x.2.2.1 x.2.2.2)) (I := fun x => ∃ k, k ≤ zfac n ∧ x.1 = nI ((List.range k).countP (fun k => P (zru n (2 ^ n - 1) k))) ∧ x.2.1 = nI (zfac n) ∧ x.2.2.1 = nI k ∧ ∀ c, c ≠ 15 → x.2.2.2 c = τ c) (μ := fun x => zfac n - x.2.2.1.toNatClampNeg) (Po := fun o => o.1 = nI (zfac n / N) ∧ ∀ c, c ≠ 15 → o.2 c = τ c) ?_ zFU (nI 0, nI (zfac n), nI 0, τ) ⟨0, by omega, rfl, rfl, rfl, fun _ _ => rfl⟩ (by have := zFU_ge; show zfac n - _ < _; omega)
  · obtain ⟨⟨v, τ'⟩, o1, o2, o3⟩ := this
    dsimp only at o2 o3
    subst o2
    exact ⟨τ', o1, o3⟩
  rintro rec ⟨v1, v2, v3, s⟩ ⟨k, hk, c1, c2, c3, hfr⟩ ih
  dsimp only at c1 c2 c3 hfr ih ⊢
  subst c1 c2 c3
  have hcl := cle k
  by_cases hkn : k = zfac n
  · subst hkn
    refine ⟨(nI (zfac n / N), s), ?_, rfl, hfr⟩
    rw [← hN] at hcl ⊢
    unfold B_X6_alike_19
    simp (disch := omega) only [↓reduceIte, ↓znm, ↓zbd_some, ↓zbv_some, ↓zga_in, ↓zgs_in, ↓zgr_in, zga_in, zgs_in, zgr_in, zgz_n0, zgz_n1, zlit, nI_add, pk_mul, pk_sub, znI_or, znI_and, znI_df, zon_ok, zbt_ok, zlt_t, zlt_f, zle_t, zle_f, zeq_f, zdv_n]
  · have hVs : zVM s n kd ld tw := by
      refine ⟨by rw [hfr 0 (by decide)]; exact hV.1, fun p hp => ?_⟩
      rw [hfr 5 (by decide), hfr 6 (by decide), hfr 4 (by decide)]
      exact hV.2 p hp
    obtain ⟨s1, g1, g2, g3⟩ := findNames_ok (τ := s) (n := n) (k := k) hn hVs.1 (by omega)
    have hVs1 : zVM s1 n kd ld tw := by
      refine ⟨by rw [g3 0 (by decide)]; exact hVs.1, fun p hp => ?_⟩
      rw [g3 5 (by decide), g3 6 (by decide), g3 4 (by decide)]
      exact hVs.2 p hp
    obtain ⟨l1, l2, l3⟩ := (zau_num hn (l := zru n (2 ^ n - 1) k)).mpr ⟨k, by omega, rfl⟩
    have is := isSame_ok hVs1 hO hT l1 l2 l3 g2 (P (zru n (2 ^ n - 1) k)) (hP _)
    have ec : (List.range (k + 1)).countP (fun k => P (zru n (2 ^ n - 1) k)) = (List.range k).countP (fun k => P (zru n (2 ^ n - 1) k)) + (if P (zru n (2 ^ n - 1) k) = true then 1 else 0) := by
      rw [List.range_succ, List.countP_append, List.countP_singleton]
    have e : B_X6_alike_19 (fun v1 v2 v3 σ => rec (v1, v2, v3, σ)) (nI ((List.range k).countP (fun k => P (zru n (2 ^ n - 1) k)))) (nI (zfac n)) (nI k) s = rec (nI ((List.range (k + 1)).countP (fun k => P (zru n (2 ^ n - 1) k))), nI (zfac n), nI (k + 1), s1) := by
      rw [ec]
      generalize (List.range k).countP (fun k => P (zru n (2 ^ n - 1) k)) = cc
      unfold B_X6_alike_19 B_X6_alike_42
      by_cases c : P (zru n (2 ^ n - 1) k) = true
      · rw [if_pos c] at is ⊢
        simp (disch := omega) only [↓reduceIte, ↓znm, ↓zbd_some, ↓zbv_some, ↓zga_in, ↓zgs_in, ↓zgr_in, zga_in, zgs_in, zgr_in, zgz_n0, zgz_n1, zlit, nI_add, pk_mul, pk_sub, znI_or, znI_and, znI_df, zon_ok, zbt_ok, zlt_t, zlt_f, zle_t, zle_f, zeq_f, ↓zbv_of g1, ↓zbd_of is]
      · rw [if_neg c] at is ⊢
        simp (disch := omega) only [↓reduceIte, ↓znm, ↓zbd_some, ↓zbv_some, ↓zga_in, ↓zgs_in, ↓zgr_in, zga_in, zgs_in, zgr_in, zgz_n0, zgz_n1, zlit, nI_add, pk_mul, pk_sub, znI_or, znI_and, znI_df, zon_ok, zbt_ok, zlt_t, zlt_f, zle_t, zle_f, zeq_f, ↓zbv_of g1, ↓zbd_of is]
    rw [e]
    refine ih _ ⟨k + 1, by omega, rfl, rfl, rfl, fun c hc => (g3 c hc).trans (hfr c hc)⟩ ?_
    show zfac n - (nI (k + 1)).toNatClampNeg < zfac n - (nI k).toNatClampNeg
    rw [nI_clamp (by omega), nI_clamp (by omega)]
    omega
theorem sameShape_ok {σ : zSt} {n : Nat} {kd ld tw : Nat → Nat} {d : Nat → Nat → Nat} (hV : zVX σ 10 n kd ld tw) (hO : zOK n kd ld tw) (hA : zAX σ 10 n d) (hT : zTR (fun p => p < n) tw d) (h0 : 0 < n) {N : Nat} (hN : zTu tw d n 0 * zsum (fun r => if zKc tw d n r r = zKc tw d n 0 0 then 1 else 0) n = N) (hN0 : 0 < N) (hN1 : N ≤ 40320) : ∃ σ', M_X1_sameShape 10 σ = some (nI (zfac n / N), σ') ∧ ∀ c, c ≠ 44 → c ≠ 45 → c ≠ 46 → σ' c = σ c := by
  have hn := hO.1
  have hfl := zfac_le n hn
  have keep : ∀ s : zSt, (∀ c, c ≠ 44 → c ≠ 45 → c ≠ 46 → s c = σ c) → zVX s 10 n kd ld tw ∧ zAX s 10 n d := by
    intro s hs
    refine ⟨⟨by rw [hs 10 (by decide) (by decide) (by decide)]; exact hV.1, fun p hp => ?_⟩, fun p hp q hq => ?_⟩
    · rw [hs (10 + 1) (by decide) (by decide) (by decide), hs (10 + 2) (by decide) (by decide) (by decide), hs (10 + 3) (by decide) (by decide) (by decide)]
      exact hV.2 p hp
    · rw [hs _ (by omega) (by omega) (by omega)]
      exact hA p hp q hq
  obtain ⟨s1, a1, a2, a3⟩ := signsFrom_ok hV hO hA hT h0
  unfold M_X1_sameShape
  simp (disch := omega) only [↓reduceIte, ↓znm, ↓zbd_some, ↓zbv_some, ↓zga_in, ↓zgs_in, ↓zgr_in, zga_in, zgs_in, zgr_in, zgz_n0, zgz_n1, zlit, nI_add, pk_mul, pk_sub, znI_or, znI_and, znI_df, zon_ok, zbt_ok, zlt_t, zlt_f, zle_t, zle_f, zeq_f, ↓zbd_of a1, a2]
  unfold L_X1_sameShape_21
  have := zloop_ex (F := (fun (rec : Int32 × Int32 × Int32 × Int32 × Int32 × zSt → Option (Int32 × zSt)) x => B_X1_sameShape_21 10  (fun v2 v3 v4 v5 v6 σ => rec (v2, v3, v4, v5, v6, σ)) x.1 x.2.1 x.2.2.1 x.2.2.2.1 x.2.2.2.2.1 x.2.2.2.2.2)) (I := fun x => ∃ p, p ≤ n ∧ x.1 = nI (zKc tw d n 0 0) ∧ x.2.1 = nI (zTu tw d n 0) ∧ x.2.2.1 = nI (zsum (fun r => if zKc tw d n r r = zKc tw d n 0 0 then 1 else 0) p) ∧ x.2.2.2.1 = nI (zfac p) ∧ x.2.2.2.2.1 = nI p ∧ ∀ c, c ≠ 44 → c ≠ 45 → c ≠ 46 → x.2.2.2.2.2 c = σ c) (μ := fun x => n - x.2.2.2.2.1.toNatClampNeg) (Po := fun o => o.1 = nI (zfac n / N) ∧ ∀ c, c ≠ 44 → c ≠ 45 → c ≠ 46 → o.2 c = σ c) ?_ zFU (nI (zKc tw d n 0 0), nI (zTu tw d n 0), nI 0, nI 1, nI 0, s1) ⟨0, by omega, rfl, rfl, rfl, rfl, rfl, a3⟩ (by have := zFU_ge; show n - _ < _; omega)
  · obtain ⟨⟨v, σ'⟩, o1, o2, o3⟩ := this
    dsimp only at o2 o3
    subst o2
    exact ⟨σ', o1, o3⟩
  rintro rec ⟨v2, v3, v4, v5, v6, s⟩ ⟨p, hp, c1, c2, c3, c4, c5, hfr⟩ ih
  dsimp only at c1 c2 c3 c4 c5 hfr ih ⊢
  subst c1 c2 c3 c4 c5
  obtain ⟨hVs, hAs⟩ := keep s hfr
  by_cases hpn : p = n
  · subst hpn
    refine ⟨(nI (zfac p / N), s), ?_, rfl, hfr⟩
    unfold B_X1_sameShape_21
    simp (disch := omega) only [↓reduceIte, ↓znm, ↓zbd_some, ↓zbv_some, ↓zga_in, ↓zgs_in, ↓zgr_in, zga_in, zgs_in, zgr_in, zgz_n0, zgz_n1, zlit, nI_add, pk_mul, pk_sub, znI_or, znI_and, znI_df, zon_ok, zbt_ok, zlt_t, zlt_f, zle_t, zle_f, zeq_f, hVs.1, hN, zdv_n]
  · obtain ⟨s2, b1, b2, b3⟩ := signsFrom_ok hVs hO hAs hT (show p < n by omega)
    have k1 := zKc_16 hn hT (show p < n by omega) (show p < n by omega)
    have k0 := zKc_16 hn hT h0 h0
    have ef : zfac p * (p + 1) = zfac (p + 1) := by
      show _ = (p + 1) * zfac p
      rw [Nat.mul_comm]
    have es : zsum (fun r => if zKc tw d n r r = zKc tw d n 0 0 then 1 else 0) (p + 1) = zsum (fun r => if zKc tw d n r r = zKc tw d n 0 0 then 1 else 0) p + (if zKc tw d n p p = zKc tw d n 0 0 then 1 else 0) := rfl
    have e : B_X1_sameShape_21 10 (fun v2 v3 v4 v5 v6 σ => rec (v2, v3, v4, v5, v6, σ)) (nI (zKc tw d n 0 0)) (nI (zTu tw d n 0)) (nI (zsum (fun r => if zKc tw d n r r = zKc tw d n 0 0 then 1 else 0) p)) (nI (zfac p)) (nI p) s = rec (nI (zKc tw d n 0 0), nI (zTu tw d n 0), nI (zsum (fun r => if zKc tw d n r r = zKc tw d n 0 0 then 1 else 0) (p + 1)), nI (zfac (p + 1)), nI (p + 1), s2) := by
      rw [es]
      generalize zsum (fun r => if zKc tw d n r r = zKc tw d n 0 0 then 1 else 0) p = cc
      unfold B_X1_sameShape_21 B_X1_sameShape_53
      by_cases c : zKc tw d n p p = zKc tw d n 0 0
      · rw [if_pos c]
        rw [c] at b1
        simp (disch := omega) only [↓reduceIte, ↓znm, ↓zbd_some, ↓zbv_some, ↓zga_in, ↓zgs_in, ↓zgr_in, zga_in, zgs_in, zgr_in, zgz_n0, zgz_n1, zlit, nI_add, pk_mul, pk_sub, znI_or, znI_and, znI_df, zon_ok, zbt_ok, zlt_t, zlt_f, zle_t, zle_f, zeq_f, hVs.1, ↓zbd_of b1, ef]
      · rw [if_neg c]
        have n1 := zeq_f c (by omega) (by omega)
        simp (disch := omega) only [↓reduceIte, ↓znm, ↓zbd_some, ↓zbv_some, ↓zga_in, ↓zgs_in, ↓zgr_in, zga_in, zgs_in, zgr_in, zgz_n0, zgz_n1, zlit, nI_add, pk_mul, pk_sub, znI_or, znI_and, znI_df, zon_ok, zbt_ok, zlt_t, zlt_f, zle_t, zle_f, zeq_f, hVs.1, ↓zbd_of b1, ef, n1]
        rfl
    rw [e]
    refine ih _ ⟨p + 1, by omega, rfl, rfl, rfl, rfl, rfl, fun c h1 h2 h3 => (b3 c h1 h2 h3).trans (hfr c h1 h2 h3)⟩ ?_
    show n - (nI (p + 1)).toNatClampNeg < n - (nI p).toNatClampNeg
    rw [nI_clamp (by omega), nI_clamp (by omega)]
    omega
theorem sim_alike : zSim M_X5_alike M_X6_alike := by
  intro σ τ h
  obtain ⟨⟨n, kd, ld, tw, d, hV, hR⟩, hS, hI, hd⟩ := id h
  obtain ⟨h1, h2, h3, h4, h5, h6⟩ := hV
  have hn := h3.1
  unfold M_X5_alike M_X6_alike
  by_cases hz : n = 0
  · subst hz
    refine ⟨-nI 3, σ, τ, ?_, ?_, h⟩
    · simp (disch := omega) only [↓reduceIte, ↓znm, ↓zbd_some, ↓zbv_some, ↓zga_in, ↓zgs_in, ↓zgr_in, zga_in, zgs_in, zgr_in, zgz_n0, zgz_n1, zlit, nI_add, pk_mul, pk_sub, znI_or, znI_and, znI_df, zon_ok, zbt_ok, zlt_t, zlt_f, zle_t, zle_f, zeq_f, h1.1]
    · simp (disch := omega) only [↓reduceIte, ↓znm, ↓zbd_some, ↓zbv_some, ↓zga_in, ↓zgs_in, ↓zgr_in, zga_in, zgs_in, zgr_in, zgz_n0, zgz_n1, zlit, nI_add, pk_mul, pk_sub, znI_or, znI_and, znI_df, zon_ok, zbt_ok, zlt_t, zlt_f, zle_t, zle_f, zeq_f, h2.1]
  have h0 : 0 < n := by omega
  obtain ⟨P, hP⟩ : ∃ P : List Nat → Bool, ∀ l, P l = true ↔ zau n tw l := ⟨fun l => @decide (zau n tw l) (Classical.propDecidable _), fun l => @decide_eq_true_iff (zau n tw l) (Classical.propDecidable _)⟩
  obtain ⟨hA1, hA2⟩ := zau_list (tw := tw) hn (P := P) (fun k _ => hP _)
  have hcnt := zau_count hn h6 h0 hA1 hA2
  obtain ⟨N, hN⟩ : ∃ N, N = (List.range (zfac n)).countP (fun k => P (zru n (2 ^ n - 1) k)) := ⟨_, rfl⟩
  have hlen : (((List.range (zfac n)).map (zru n (2 ^ n - 1))).filter P).length = N := by
    rw [hN, ← List.countP_eq_length_filter, List.countP_map]
    rfl
  rw [hlen] at hcnt
  have hN0 : 0 < N := by
    rw [← hlen]
    have hid : zau n tw (List.range n) := by
      have g : ∀ p, p < n → zgi (List.range n) p = p := fun p hp => by
        unfold zgi
        rw [List.getElem?_range hp]
        rfl
      refine ⟨List.length_range, fun p hp => by rw [g p hp]; exact hp, fun p q hp hq e => by rw [g p hp, g q hq] at e; exact e, fun p q hp hq => by rw [g p hp, g q hq]⟩
    exact List.length_pos_of_mem ((hA2 _).mpr hid)
  have hN1 : N ≤ 40320 := by
    have h7 := (zfac_le n hn).1
    have := List.countP_le_length (p := fun k => P (zru n (2 ^ n - 1) k)) (l := List.range (zfac n))
    rw [List.length_range, ← hN] at this
    omega
  obtain ⟨σ', c1, c2⟩ := sameShape_ok h1 h3 h4 h6 h0 hcnt.symm hN0 hN1
  obtain ⟨τ', m1, m2⟩ := alikeM_ok h2 h3 h6 hP hN hN0
  refine ⟨nI (zfac n / N), σ', τ', ?_, ?_, h.eq ⟨fun c _ _ => c2 c (by omega) (by omega) (by omega), fun c _ _ => c2 c (by omega) (by omega) (by omega), fun c _ _ => c2 c (by omega) (by omega) (by omega)⟩ ⟨by rw [c2 0 (by decide) (by decide) (by decide)], by rw [c2 0 (by decide) (by decide) (by decide)], by rw [c2 0 (by decide) (by decide) (by decide)]⟩ ⟨fun c _ _ => m2 c (by omega), fun c _ _ => m2 c (by omega), by rw [m2 0 (by decide)], by rw [m2 0 (by decide)]⟩ ⟨by rw [m2 0 (by decide)], by rw [m2 0 (by decide)], by rw [m2 0 (by decide)]⟩⟩
  · simp (disch := omega) only [↓reduceIte, ↓znm, ↓zbd_some, ↓zbv_some, ↓zga_in, ↓zgs_in, ↓zgr_in, zga_in, zgs_in, zgr_in, zgz_n0, zgz_n1, zlit, nI_add, pk_mul, pk_sub, znI_or, znI_and, znI_df, zon_ok, zbt_ok, zlt_t, zlt_f, zle_t, zle_f, zeq_f, h1.1, ↓zbd_of c1]
  · simp (disch := omega) only [↓reduceIte, ↓znm, ↓zbd_some, ↓zbv_some, ↓zga_in, ↓zgs_in, ↓zgr_in, zga_in, zgs_in, zgr_in, zgz_n0, zgz_n1, zlit, nI_add, pk_mul, pk_sub, znI_or, znI_and, znI_df, zon_ok, zbt_ok, zlt_t, zlt_f, zle_t, zle_f, zeq_f, h2.1, ↓zbd_of (orders_ok hn h0 h2.1), m1]
