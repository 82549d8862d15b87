/-! PURE: part, odds, loadings, kinds -/
theorem zsum_ext {f g : Nat → Nat} : ∀ {n : Nat}, (∀ i, i < n → f i = g i) → zsum f n = zsum g n
  | 0, _ => rfl
  | n + 1, h => by
    unfold zsum
    rw [zsum_ext (fun i hi => h i (by omega)), h n (by omega)]
theorem zTR.adj {n : Nat} {tw : Nat → Nat} {d : Nat → Nat → Nat} (h : zTR (fun p => p < n) tw d) {a b : Nat} (ha : a < n) (hb : b < n) : (tw a).testBit b = true ↔ d a b = 1 := by
  have h0 := h.2.2.1 a ha
  constructor
  · intro e
    have := h.2.2.2.2.1 a a b ha ha e
    omega
  · intro e
    have hne : b ≠ a := fun q => by rw [q] at e; omega
    obtain ⟨q, q1, q2, -⟩ := h.2.2.2.2.2 a b ha hb hne
    obtain ⟨q3, q4, -⟩ := h.2.1 b q hb q1
    have hq : q = a := by
      by_cases c : q = a
      · exact c
      · obtain ⟨r, r1, r2, -⟩ := h.2.2.2.2.2 a q ha q3 c
        omega
    rw [hq] at q4
    exact q4
theorem areTwo_no1 {τ : zSt} {n : Nat} {x : Int32} (h0 : τ 0 5 = nI n) (hx : x < 0 ∨ nI n ≤ x) (y : Int32) : M_X6_areTwo x y τ = some (nI 0, τ) := by
  unfold M_X6_areTwo
  simp (disch := omega) only [↓reduceIte, ↓znm, ↓zbd_some, ↓zbv_some, ↓zga_in, ↓zgs_in, ↓zgr_in, zga_in, zgs_in, zgr_in, zgz_n0, zgz_n1, zlit, nI_add, pk_mul, pk_sub, znI_or, znI_and, znI_df, zon_ok, zbt_ok, zlt_t, zlt_f, zle_t, zle_f, zeq_f, ↓zbd_of (isPostM_no h0 hx)]
theorem areTwo_no2 {τ : zSt} {n i : Nat} {y : Int32} (h0 : τ 0 5 = nI n) (hn : n ≤ 8) (hi : i < n) (hy : y < 0 ∨ nI n ≤ y) : M_X6_areTwo (nI i) y τ = some (nI 0, τ) := by
  unfold M_X6_areTwo
  simp (disch := omega) only [↓reduceIte, ↓znm, ↓zbd_some, ↓zbv_some, ↓zga_in, ↓zgs_in, ↓zgr_in, zga_in, zgs_in, zgr_in, zgz_n0, zgz_n1, zlit, nI_add, pk_mul, pk_sub, znI_or, znI_and, znI_df, zon_ok, zbt_ok, zlt_t, zlt_f, zle_t, zle_f, zeq_f, ↓zbd_of (isPostM_yes h0 hn hi), ↓zbd_of (isPostM_no h0 hy)]
theorem areTwo_ok {τ : zSt} {n i j : Nat} (h0 : τ 0 5 = nI n) (hn : n ≤ 8) (hi : i < n) (hj : j < n) : M_X6_areTwo (nI i) (nI j) τ = some (nI (if i = j then 0 else 1), τ) := by
  unfold M_X6_areTwo
  by_cases e : i = j
  · subst e
    simp (disch := omega) only [↓reduceIte, ↓znm, ↓zbd_some, ↓zbv_some, ↓zga_in, ↓zgs_in, ↓zgr_in, zga_in, zgs_in, zgr_in, zgz_n0, zgz_n1, zlit, nI_add, pk_mul, pk_sub, znI_or, znI_and, znI_df, zon_ok, zbt_ok, zlt_t, zlt_f, zle_t, zle_f, zeq_f, ↓zbd_of (isPostM_yes h0 hn hi)]
  · simp (disch := omega) only [↓reduceIte, ↓znm, ↓zbd_some, ↓zbv_some, ↓zga_in, ↓zgs_in, ↓zgr_in, zga_in, zgs_in, zgr_in, zgz_n0, zgz_n1, zlit, nI_add, pk_mul, pk_sub, znI_or, znI_and, znI_df, zon_ok, zbt_ok, zlt_t, zlt_f, zle_t, zle_f, zeq_f, ↓zbd_of (isPostM_yes h0 hn hi), ↓zbd_of (isPostM_yes h0 hn hj), e]
theorem sim_part (p1 p2 : Int32) : zSim (M_X5_part p1 p2) (M_X6_part p1 p2) := by
  intro σ τ h
  obtain ⟨⟨n, kd, ld, tw, d, hV, hR⟩, hS, hI, hd⟩ := id h
  obtain ⟨h1, h2, h3, h4, h5, h6⟩ := hV
  have hn := h3.1
  have h8 := h6.lt8 hn
  unfold M_X5_part M_X6_part
  rcases zpost p1 hn with hp | ⟨a, ha, rfl⟩
  · refine ⟨-nI 1, σ, τ, ?_, ?_, h⟩
    · simp (disch := omega) only [↓reduceIte, ↓znm, ↓zbd_some, ↓zbv_some, ↓zga_in, ↓zgs_in, ↓zgr_in, zga_in, zgs_in, zgr_in, zgz_n0, zgz_n1, zlit, nI_add, pk_mul, pk_sub, znI_or, znI_and, znI_df, zon_ok, zbt_ok, zlt_t, zlt_f, zle_t, zle_f, zeq_f, ↓zbd_of (isPostX_no h1.1 hp)]
    · simp (disch := omega) only [↓reduceIte, ↓znm, ↓zbd_some, ↓zbv_some, ↓zga_in, ↓zgs_in, ↓zgr_in, zga_in, zgs_in, zgr_in, zgz_n0, zgz_n1, zlit, nI_add, pk_mul, pk_sub, znI_or, znI_and, znI_df, zon_ok, zbt_ok, zlt_t, zlt_f, zle_t, zle_f, zeq_f, ↓zbd_of (areTwo_no1 h2.1 hp p2)]
  have u1 := isPostX_yes h1.1 hn ha
  rcases zpost p2 hn with hp | ⟨b, hb, rfl⟩
  · refine ⟨-nI 1, σ, τ, ?_, ?_, h⟩
    · simp (disch := omega) only [↓reduceIte, ↓znm, ↓zbd_some, ↓zbv_some, ↓zga_in, ↓zgs_in, ↓zgr_in, zga_in, zgs_in, zgr_in, zgz_n0, zgz_n1, zlit, nI_add, pk_mul, pk_sub, znI_or, znI_and, znI_df, zon_ok, zbt_ok, zlt_t, zlt_f, zle_t, zle_f, zeq_f, ↓zbd_of u1, ↓zbd_of (isPostX_no h1.1 hp)]
    · simp (disch := omega) only [↓reduceIte, ↓znm, ↓zbd_some, ↓zbv_some, ↓zga_in, ↓zgs_in, ↓zgr_in, zga_in, zgs_in, zgr_in, zgz_n0, zgz_n1, zlit, nI_add, pk_mul, pk_sub, znI_or, znI_and, znI_df, zon_ok, zbt_ok, zlt_t, zlt_f, zle_t, zle_f, zeq_f, ↓zbd_of (areTwo_no2 h2.1 hn ha hp)]
  have w1 := isPostX_yes h1.1 hn hb
  have u2 := areTwo_ok h2.1 hn ha hb
  by_cases hab : a = b
  · subst hab
    rw [if_pos rfl] at u2
    refine ⟨-nI 1, σ, τ, ?_, ?_, h⟩
    · simp (disch := omega) only [↓reduceIte, ↓znm, ↓zbd_some, ↓zbv_some, ↓zga_in, ↓zgs_in, ↓zgr_in, zga_in, zgs_in, zgr_in, zgz_n0, zgz_n1, zlit, nI_add, pk_mul, pk_sub, znI_or, znI_and, znI_df, zon_ok, zbt_ok, zlt_t, zlt_f, zle_t, zle_f, zeq_f, ↓zbd_of u1]
    · simp (disch := omega) only [↓reduceIte, ↓znm, ↓zbd_some, ↓zbv_some, ↓zga_in, ↓zgs_in, ↓zgr_in, zga_in, zgs_in, zgr_in, zgz_n0, zgz_n1, zlit, nI_add, pk_mul, pk_sub, znI_or, znI_and, znI_df, zon_ok, zbt_ok, zlt_t, zlt_f, zle_t, zle_f, zeq_f, ↓zbd_of u2]
  rw [if_neg hab] at u2
  obtain ⟨v1, v2, v3⟩ := h2.2 a ha
  obtain ⟨o1, o2, o3⟩ := h3.2 a ha
  have hadj := h6.adj ha hb
  have b1 := h8 a b ha hb
  have io := isOf_ok (m := tw a) (k := b) (by omega) (by omega) τ
  by_cases hd1 : d a b = 1
  · rw [if_pos (hadj.mpr hd1)] at io
    obtain ⟨τ', f1, f2, f3, f4, f5⟩ := fars_get h h2 h3 h6
    have hon : ∀ p, p < n → (d p a + d a b = d p b ↔ d p a < d p b) := fun p hp => by
      have := h6.2.2.2.2.1 p a b hp ha (hadj.mpr hd1)
      omega
    have hsum : zsum (fun p => if d p a + d a b = d p b then zwo kd ld p else 0) n = zsum (fun p => if (zset (fun p => decide (d p a < d p b)) n).testBit p = true then zwo kd ld p else 0) n := by
      apply zsum_ext
      intro p hp
      by_cases c : d p a < d p b
      · rw [if_pos ((hon p hp).mpr c), if_pos ((zset_iff _ _ _).mpr ⟨hp, by simp [c]⟩)]
      · rw [if_neg (fun q => c ((hon p hp).mp q)), if_neg]
        intro q
        have := ((zset_iff _ _ _).mp q).2
        simp at this
        omega
    have b2 : zset (fun p => decide (d p a < d p b)) n < 256 := zset_256 hn
    refine ⟨nI (zsum (fun p => if d p a + d a b = d p b then zwo kd ld p else 0) n), σ, τ', ?_, ?_, f2⟩
    · simp (disch := omega) only [↓reduceIte, ↓znm, ↓zbd_some, ↓zbv_some, ↓zga_in, ↓zgs_in, ↓zgr_in, zga_in, zgs_in, zgr_in, zgz_n0, zgz_n1, zlit, nI_add, pk_mul, pk_sub, znI_or, znI_and, znI_df, zon_ok, zbt_ok, zlt_t, zlt_f, zle_t, zle_f, zeq_f, ↓zbd_of u1, ↓zbd_of w1, hab, h4 a ha b hb, hd1]
      unfold L_X5_part_52
      rw [← hd1]
      refine zloop_for (fun i => (nI (zsum (fun p => if d p a + d a b = d p b then zwo kd ld p else 0) i), nI i, σ)) n rfl (by omega) (fun rec i hi => ?_) (fun rec => ?_)
      · have e2 := onWay_ok h4 hn h8 hi hb ha
        unfold B_X5_part_52
        by_cases c : d i a + d a b = d i b
        · rw [if_pos c] at e2
          simp (disch := omega) only [↓reduceIte, ↓znm, ↓zbd_some, ↓zbv_some, ↓zga_in, ↓zgs_in, ↓zgr_in, zga_in, zgs_in, zgr_in, zgz_n0, zgz_n1, zlit, nI_add, pk_mul, pk_sub, znI_or, znI_and, znI_df, zon_ok, zbt_ok, zlt_t, zlt_f, zle_t, zle_f, zeq_f, h1.1, ↓zbd_of e2, ↓zbd_of (worthX_ok h1 h3 hi), zsum, c, B_X5_part_90]
        · rw [if_neg c] at e2
          simp (disch := omega) only [↓reduceIte, ↓znm, ↓zbd_some, ↓zbv_some, ↓zga_in, ↓zgs_in, ↓zgr_in, zga_in, zgs_in, zgr_in, zgz_n0, zgz_n1, zlit, nI_add, pk_mul, pk_sub, znI_or, znI_and, znI_df, zon_ok, zbt_ok, zlt_t, zlt_f, zle_t, zle_f, zeq_f, h1.1, ↓zbd_of e2, zsum, c, B_X5_part_90, Nat.add_zero]
      · unfold B_X5_part_52
        simp (disch := omega) only [↓reduceIte, ↓znm, ↓zbd_some, ↓zbv_some, ↓zga_in, ↓zgs_in, ↓zgr_in, zga_in, zgs_in, zgr_in, zgz_n0, zgz_n1, zlit, nI_add, pk_mul, pk_sub, znI_or, znI_and, znI_df, zon_ok, zbt_ok, zlt_t, zlt_f, zle_t, zle_f, zeq_f, h1.1]
    · rw [hsum]
      simp (disch := omega) only [↓reduceIte, ↓znm, ↓zbd_some, ↓zbv_some, ↓zga_in, ↓zgs_in, ↓zgr_in, zga_in, zgs_in, zgr_in, zgz_n0, zgz_n1, zlit, nI_add, pk_mul, pk_sub, znI_or, znI_and, znI_df, zon_ok, zbt_ok, zlt_t, zlt_f, zle_t, zle_f, zeq_f, ↓zbd_of u2, v3, ↓zbd_of io, ↓zbv_of f1]
      unfold L_X6_part_36
      refine zloop_for (fun i => (nI (zset (fun p => decide (d p a < d p b)) i), nI i, τ')) n rfl (by omega) (fun rec i hi => ?_) (fun rec => ?_)
      · have e1 := f4 i a hi ha
        have e2 := f4 i b hi hb
        have b3 := h8 i a hi ha
        have b4 := h8 i b hi hb
        unfold B_X6_part_36
        by_cases c : d i a < d i b
        · simp (disch := omega) only [↓reduceIte, ↓znm, ↓zbd_some, ↓zbv_some, ↓zga_in, ↓zgs_in, ↓zgr_in, zga_in, zgs_in, zgr_in, zgz_n0, zgz_n1, zlit, nI_add, pk_mul, pk_sub, znI_or, znI_and, znI_df, zon_ok, zbt_ok, zlt_t, zlt_f, zle_t, zle_f, zeq_f, f3.1, e1, e2, B_X6_part_81, zset, c, decide_true]
        · simp (disch := omega) only [↓reduceIte, ↓znm, ↓zbd_some, ↓zbv_some, ↓zga_in, ↓zgs_in, ↓zgr_in, zga_in, zgs_in, zgr_in, zgz_n0, zgz_n1, zlit, nI_add, pk_mul, pk_sub, znI_or, znI_and, znI_df, zon_ok, zbt_ok, zlt_t, zlt_f, zle_t, zle_f, zeq_f, f3.1, e1, e2, B_X6_part_81, zset, c, decide_false, Bool.false_eq_true, Nat.or_zero]
      · unfold B_X6_part_36
        simp (disch := omega) only [↓reduceIte, ↓znm, ↓zbd_some, ↓zbv_some, ↓zga_in, ↓zgs_in, ↓zgr_in, zga_in, zgs_in, zgr_in, zgz_n0, zgz_n1, zlit, nI_add, pk_mul, pk_sub, znI_or, znI_and, znI_df, zon_ok, zbt_ok, zlt_t, zlt_f, zle_t, zle_f, zeq_f, f3.1, ↓zbd_of (worthSetM_ok f3 h3 b2)]
  · have hna : (tw a).testBit b = false := by
      cases e : (tw a).testBit b
      · rfl
      · exact absurd (hadj.mp e) hd1
    rw [hna] at io
    refine ⟨-nI 3, σ, τ, ?_, ?_, h⟩
    · simp (disch := omega) only [↓reduceIte, ↓znm, ↓zbd_some, ↓zbv_some, ↓zga_in, ↓zgs_in, ↓zgr_in, zga_in, zgs_in, zgr_in, zgz_n0, zgz_n1, zlit, nI_add, pk_mul, pk_sub, znI_or, znI_and, znI_df, zon_ok, zbt_ok, zlt_t, zlt_f, zle_t, zle_f, zeq_f, ↓zbd_of u1, ↓zbd_of w1, hab, h4 a ha b hb, hd1]
    · simp (disch := omega) only [↓reduceIte, ↓znm, ↓zbd_some, ↓zbv_some, ↓zga_in, ↓zgs_in, ↓zgr_in, zga_in, zgs_in, zgr_in, zgz_n0, zgz_n1, zlit, nI_add, pk_mul, pk_sub, znI_or, znI_and, znI_df, zon_ok, zbt_ok, zlt_t, zlt_f, zle_t, zle_f, zeq_f, ↓zbd_of u2, v3, ↓zbd_of io, Bool.false_eq_true]
