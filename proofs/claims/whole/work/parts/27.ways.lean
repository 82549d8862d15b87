/-! PURE: far, way, middle, ofPost, part -/
theorem zRel.fars {σ τ : zSt} (h : zRel σ τ) (φ : Nat → Int32) : zRel σ (zsu τ 10 φ) := h.eq zeqX.rf zeqX0.rf ⟨fun i _ _ => zsu_ne (by omega), fun i _ _ => zsu_ne (by omega), by rw [zsu_ne (by decide)], by rw [zsu_ne (by decide)]⟩ ⟨by rw [zsu_ne (by decide)], by rw [zsu_ne (by decide)], by rw [zsu_ne (by decide)]⟩
theorem zVM.fars {τ : zSt} {n : Nat} {kd ld tw : Nat → Nat} (h : zVM τ n kd ld tw) (φ : Nat → Int32) : zVM (zsu τ 10 φ) n kd ld tw := by
  refine ⟨by rw [zsu_ne (by decide)]; exact h.1, fun p hp => ?_⟩
  rw [zsu_ne (show 5 ≠ 10 by decide), zsu_ne (show 6 ≠ 10 by decide), zsu_ne (show 4 ≠ 10 by decide)]
  exact h.2 p hp
/-- fars holds the distances -/
def zFM (τ : zSt) (n : Nat) (d : Nat → Nat → Nat) : Prop := ∀ a p, a < n → p < n → τ 10 (8 * a + p) = nI (d a p)
theorem fars_get {σ τ : zSt} {n : Nat} {kd ld tw : Nat → Nat} {d : Nat → Nat → Nat} (h : zRel σ τ) (hV : zVM τ n kd ld tw) (hO : zOK n kd ld tw) (hT : zTR (fun p => p < n) tw d) : ∃ τ', M_X6_findFars τ = some τ' ∧ zRel σ τ' ∧ zVM τ' n kd ld tw ∧ zFM τ' n d ∧ ∀ i, i ≠ 10 → τ' i = τ i := by
  obtain ⟨φ, h1, h2⟩ := fars_ok hV hO hT
  exact ⟨zsu τ 10 φ, h1, h.fars φ, hV.fars φ, fun a p ha hp => by rw [zsu_eq]; exact h2 a p ha hp, fun i hi => zsu_ne hi⟩
theorem onWay_ok {σ : zSt} {b n : Nat} {d : Nat → Nat → Nat} (hA : zAX σ b n d) (hn : n ≤ 8) (hd : ∀ p q, p < n → q < n → d p q < 8) {x y z : Nat} (hx : x < n) (hy : y < n) (hz : z < n) : M_X4_isOnWay b (nI x) (nI y) (nI z) σ = some (nI (if d x z + d z y = d x y then 1 else 0), σ) := by
  have e1 := hA x hx z hz
  have e2 := hA z hz y hy
  have e3 := hA x hx y hy
  have b1 := hd x z hx hz
  have b2 := hd z y hz hy
  have b3 := hd x y hx hy
  unfold M_X4_isOnWay
  by_cases c : d x z + d z y = d x y
  · simp (disch := omega) only [↓reduceIte, ↓znm, ↓zbd_some, ↓zbv_some, ↓zga_in, ↓zgs_in, ↓zgr_in, zga_in, zgs_in, zgr_in, zgz_n0, zgz_n1, zlit, nI_add, pk_mul, pk_sub, znI_or, znI_and, znI_df, zon_ok, zbt_ok, zlt_t, zlt_f, zle_t, zle_f, zeq_f, e1, e2, e3, c]
  · simp (disch := omega) only [↓reduceIte, ↓znm, ↓zbd_some, ↓zbv_some, ↓zga_in, ↓zgs_in, ↓zgr_in, zga_in, zgs_in, zgr_in, zgz_n0, zgz_n1, zlit, nI_add, pk_mul, pk_sub, znI_or, znI_and, znI_df, zon_ok, zbt_ok, zlt_t, zlt_f, zle_t, zle_f, zeq_f, e1, e2, e3, c]
theorem farthestX_ok {σ : zSt} {b n : Nat} {d : Nat → Nat → Nat} (h0 : σ b 0 = nI n) (hA : zAX σ b n d) (hn : n ≤ 8) (hd : ∀ p q, p < n → q < n → d p q < 8) {p : Nat} (hp : p < n) : M_X4_farthest b (nI p) σ = some (nI (zmax (d p) n), σ) := by
  unfold M_X4_farthest L_X4_farthest_4
  refine zloop_for (fun i => (nI (zmax (d p) i), nI i, σ)) n rfl (by omega) (fun rec i hi => ?_) (fun rec => ?_)
  · have e1 := hA p hp i hi
    have b1 := hd p i hp hi
    have b2 : zmax (d p) i ≤ 7 := zmax_le (fun q hq => by have := hd p q hp (by omega); omega)
    unfold B_X4_farthest_4
    by_cases c : zmax (d p) i < d p i
    · simp (disch := omega) only [↓reduceIte, ↓znm, ↓zbd_some, ↓zbv_some, ↓zga_in, ↓zgs_in, ↓zgr_in, zga_in, zgs_in, zgr_in, zgz_n0, zgz_n1, zlit, nI_add, pk_mul, pk_sub, znI_or, znI_and, znI_df, zon_ok, zbt_ok, zlt_t, zlt_f, zle_t, zle_f, zeq_f, h0, e1, zmax, c]
    · simp (disch := omega) only [↓reduceIte, ↓znm, ↓zbd_some, ↓zbv_some, ↓zga_in, ↓zgs_in, ↓zgr_in, zga_in, zgs_in, zgr_in, zgz_n0, zgz_n1, zlit, nI_add, pk_mul, pk_sub, znI_or, znI_and, znI_df, zon_ok, zbt_ok, zlt_t, zlt_f, zle_t, zle_f, zeq_f, h0, e1, zmax, c]
  · unfold B_X4_farthest_4
    simp (disch := omega) only [↓reduceIte, ↓znm, ↓zbd_some, ↓zbv_some, ↓zga_in, ↓zgs_in, ↓zgr_in, zga_in, zgs_in, zgr_in, zgz_n0, zgz_n1, zlit, nI_add, pk_mul, pk_sub, znI_or, znI_and, znI_df, zon_ok, zbt_ok, zlt_t, zlt_f, zle_t, zle_f, zeq_f, h0]
theorem farthestM_ok {τ : zSt} {n : Nat} {d : Nat → Nat → Nat} (h0 : τ 0 5 = nI n) (hF : zFM τ n d) (hn : n ≤ 8) (hd : ∀ p q, p < n → q < n → d p q < 8) {p : Nat} (hp : p < n) : M_X6_farthestFrom (nI p) τ = some (nI (zmax (d p) n), τ) := by
  unfold M_X6_farthestFrom L_X6_farthestFrom_4
  refine zloop_for (fun i => (nI (zmax (d p) i), nI i, τ)) n rfl (by omega) (fun rec i hi => ?_) (fun rec => ?_)
  · have e1 := hF p i hp hi
    have b1 := hd p i hp hi
    have b2 : zmax (d p) i ≤ 7 := zmax_le (fun q hq => by have := hd p q hp (by omega); omega)
    unfold B_X6_farthestFrom_4
    by_cases c : zmax (d p) i < d p i
    · simp (disch := omega) only [↓reduceIte, ↓znm, ↓zbd_some, ↓zbv_some, ↓zga_in, ↓zgs_in, ↓zgr_in, zga_in, zgs_in, zgr_in, zgz_n0, zgz_n1, zlit, nI_add, pk_mul, pk_sub, znI_or, znI_and, znI_df, zon_ok, zbt_ok, zlt_t, zlt_f, zle_t, zle_f, zeq_f, h0, e1, zmax, c, B_X6_farthestFrom_42]
    · simp (disch := omega) only [↓reduceIte, ↓znm, ↓zbd_some, ↓zbv_some, ↓zga_in, ↓zgs_in, ↓zgr_in, zga_in, zgs_in, zgr_in, zgz_n0, zgz_n1, zlit, nI_add, pk_mul, pk_sub, znI_or, znI_and, znI_df, zon_ok, zbt_ok, zlt_t, zlt_f, zle_t, zle_f, zeq_f, h0, e1, zmax, c, B_X6_farthestFrom_42]
  · unfold B_X6_farthestFrom_4
    simp (disch := omega) only [↓reduceIte, ↓znm, ↓zbd_some, ↓zbv_some, ↓zga_in, ↓zgs_in, ↓zgr_in, zga_in, zgs_in, zgr_in, zgz_n0, zgz_n1, zlit, nI_add, pk_mul, pk_sub, znI_or, znI_and, znI_df, zon_ok, zbt_ok, zlt_t, zlt_f, zle_t, zle_f, zeq_f, h0]
theorem longestX_ok {σ : zSt} {b n : Nat} {d : Nat → Nat → Nat} (h0 : σ b 0 = nI n) (hA : zAX σ b n d) (hn : n ≤ 8) (hd : ∀ p q, p < n → q < n → d p q < 8) : M_X4_longest b σ = some (nI (zmax (fun p => zmax (d p) n) n), σ) := by
  unfold M_X4_longest L_X4_longest_4
  refine zloop_for (fun i => (nI (zmax (fun p => zmax (d p) n) i), nI i, σ)) n rfl (by omega) (fun rec i hi => ?_) (fun rec => ?_)
  · have b1 : zmax (d i) n ≤ 7 := zmax_le (fun q hq => by have := hd i q hi hq; omega)
    have b2 : zmax (fun p => zmax (d p) n) i ≤ 7 := zmax_le (fun r hr => zmax_le (fun q hq => by have := hd r q (by omega) hq; omega))
    unfold B_X4_longest_4
    by_cases c : zmax (fun p => zmax (d p) n) i < zmax (d i) n
    · simp (disch := omega) only [↓reduceIte, ↓znm, ↓zbd_some, ↓zbv_some, ↓zga_in, ↓zgs_in, ↓zgr_in, zga_in, zgs_in, zgr_in, zgz_n0, zgz_n1, zlit, nI_add, pk_mul, pk_sub, znI_or, znI_and, znI_df, zon_ok, zbt_ok, zlt_t, zlt_f, zle_t, zle_f, zeq_f, h0, ↓zbd_of (farthestX_ok h0 hA hn hd hi), zmax, c]
    · simp (disch := omega) only [↓reduceIte, ↓znm, ↓zbd_some, ↓zbv_some, ↓zga_in, ↓zgs_in, ↓zgr_in, zga_in, zgs_in, zgr_in, zgz_n0, zgz_n1, zlit, nI_add, pk_mul, pk_sub, znI_or, znI_and, znI_df, zon_ok, zbt_ok, zlt_t, zlt_f, zle_t, zle_f, zeq_f, h0, ↓zbd_of (farthestX_ok h0 hA hn hd hi), zmax, c]
  · unfold B_X4_longest_4
    simp (disch := omega) only [↓reduceIte, ↓znm, ↓zbd_some, ↓zbv_some, ↓zga_in, ↓zgs_in, ↓zgr_in, zga_in, zgs_in, zgr_in, zgz_n0, zgz_n1, zlit, nI_add, pk_mul, pk_sub, znI_or, znI_and, znI_df, zon_ok, zbt_ok, zlt_t, zlt_f, zle_t, zle_f, zeq_f, h0]
theorem longestM_ok {τ : zSt} {n : Nat} {d : Nat → Nat → Nat} (h0 : τ 0 5 = nI n) (hF : zFM τ n d) (hn : n ≤ 8) (hd : ∀ p q, p < n → q < n → d p q < 8) : M_X6_longest τ = some (nI (zmax (fun p => zmax (d p) n) n), τ) := by
  unfold M_X6_longest L_X6_longest_4
  refine zloop_for (fun i => (nI (zmax (fun p => zmax (d p) n) i), nI i, τ)) n rfl (by omega) (fun rec i hi => ?_) (fun rec => ?_)
  · have b1 : zmax (d i) n ≤ 7 := zmax_le (fun q hq => by have := hd i q hi hq; omega)
    have b2 : zmax (fun p => zmax (d p) n) i ≤ 7 := zmax_le (fun r hr => zmax_le (fun q hq => by have := hd r q (by omega) hq; omega))
    unfold B_X6_longest_4
    by_cases c : zmax (fun p => zmax (d p) n) i < zmax (d i) n
    · simp (disch := omega) only [↓reduceIte, ↓znm, ↓zbd_some, ↓zbv_some, ↓zga_in, ↓zgs_in, ↓zgr_in, zga_in, zgs_in, zgr_in, zgz_n0, zgz_n1, zlit, nI_add, pk_mul, pk_sub, znI_or, znI_and, znI_df, zon_ok, zbt_ok, zlt_t, zlt_f, zle_t, zle_f, zeq_f, h0, ↓zbd_of (farthestM_ok h0 hF hn hd hi), zmax, c, B_X6_longest_30]
    · simp (disch := omega) only [↓reduceIte, ↓znm, ↓zbd_some, ↓zbv_some, ↓zga_in, ↓zgs_in, ↓zgr_in, zga_in, zgs_in, zgr_in, zgz_n0, zgz_n1, zlit, nI_add, pk_mul, pk_sub, znI_or, znI_and, znI_df, zon_ok, zbt_ok, zlt_t, zlt_f, zle_t, zle_f, zeq_f, h0, ↓zbd_of (farthestM_ok h0 hF hn hd hi), zmax, c, B_X6_longest_30]
  · unfold B_X6_longest_4
    simp (disch := omega) only [↓reduceIte, ↓znm, ↓zbd_some, ↓zbv_some, ↓zga_in, ↓zgs_in, ↓zgr_in, zga_in, zgs_in, zgr_in, zgz_n0, zgz_n1, zlit, nI_add, pk_mul, pk_sub, znI_or, znI_and, znI_df, zon_ok, zbt_ok, zlt_t, zlt_f, zle_t, zle_f, zeq_f, h0]
theorem zTR.lt8 {tw : Nat → Nat} {d : Nat → Nat → Nat} {n : Nat} (h : zTR (fun p => p < n) tw d) (hn : n ≤ 8) : ∀ p q, p < n → q < n → d p q < 8 := fun p q hp hq => Nat.lt_of_lt_of_le (h.lt hp hq) hn
theorem sim_far (p1 p2 : Int32) : zSim (M_X5_far p1 p2) (M_X6_far p1 p2) := by
  intro σ τ h
  obtain ⟨⟨n, kd, ld, tw, d, hV, hR⟩, hS, hI, hd⟩ := id h
  obtain ⟨h1, h2, h3, h4, h5, h6⟩ := hV
  have hn := h3.1
  have h8 := h6.lt8 hn
  unfold M_X5_far M_X6_far
  rcases zpost p1 hn with hp | ⟨i, hi, rfl⟩
  · rw [isPostX_no h1.1 hp, isPostM_no h2.1 hp]
    exact ⟨_, σ, τ, rfl, rfl, h⟩
  have u1 := isPostX_yes h1.1 hn hi
  have u2 := isPostM_yes h2.1 hn hi
  rcases zpost p2 hn with hp | ⟨j, hj, rfl⟩
  · refine ⟨-nI 1, σ, τ, ?_, ?_, h⟩
    · simp (disch := omega) only [↓reduceIte, ↓znm, ↓zbd_some, ↓zbv_some, ↓zga_in, ↓zgs_in, ↓zgr_in, zga_in, zgs_in, zgr_in, zgz_n0, zgz_n1, zlit, nI_add, pk_mul, pk_sub, znI_or, znI_and, znI_df, zon_ok, zbt_ok, zlt_t, zlt_f, zle_t, zle_f, zeq_f, ↓zbd_of u1, ↓zbd_of (isPostX_no h1.1 hp)]
    · simp (disch := omega) only [↓reduceIte, ↓znm, ↓zbd_some, ↓zbv_some, ↓zga_in, ↓zgs_in, ↓zgr_in, zga_in, zgs_in, zgr_in, zgz_n0, zgz_n1, zlit, nI_add, pk_mul, pk_sub, znI_or, znI_and, znI_df, zon_ok, zbt_ok, zlt_t, zlt_f, zle_t, zle_f, zeq_f, ↓zbd_of u2, ↓zbd_of (isPostM_no h2.1 hp)]
  have w1 := isPostX_yes h1.1 hn hj
  have w2 := isPostM_yes h2.1 hn hj
  obtain ⟨τ', f1, f2, f3, f4, f5⟩ := fars_get h h2 h3 h6
  refine ⟨nI (d i j), σ, τ', ?_, ?_, f2⟩
  · simp (disch := omega) only [↓reduceIte, ↓znm, ↓zbd_some, ↓zbv_some, ↓zga_in, ↓zgs_in, ↓zgr_in, zga_in, zgs_in, zgr_in, zgz_n0, zgz_n1, zlit, nI_add, pk_mul, pk_sub, znI_or, znI_and, znI_df, zon_ok, zbt_ok, zlt_t, zlt_f, zle_t, zle_f, zeq_f, ↓zbd_of u1, ↓zbd_of w1, h4 i hi j hj]
  · simp (disch := omega) only [↓reduceIte, ↓znm, ↓zbd_some, ↓zbv_some, ↓zga_in, ↓zgs_in, ↓zgr_in, zga_in, zgs_in, zgr_in, zgz_n0, zgz_n1, zlit, nI_add, pk_mul, pk_sub, znI_or, znI_and, znI_df, zon_ok, zbt_ok, zlt_t, zlt_f, zle_t, zle_f, zeq_f, ↓zbd_of u2, ↓zbd_of w2, ↓zbv_of f1, f4 i j hi hj]
/-- the first below n of which P holds, or none -/
theorem zfirst (P : Nat → Prop) (n : Nat) : (∃ e, e < n ∧ P e ∧ ∀ i, i < e → ¬ P i) ∨ ∀ i, i < n → ¬ P i := by
  by_cases h : ∃ i, i < n ∧ P i
  · obtain ⟨e, ⟨h1, h2⟩, h3⟩ := pk_least (fun i => i < n ∧ P i) h
    exact Or.inl ⟨e, h1, h2, fun i hi q => h3 i hi ⟨by omega, q⟩⟩
  · exact Or.inr (fun i hi q => h ⟨i, hi, q⟩)
theorem sim_way (p1 p2 p3 : Int32) : zSim (M_X5_way p1 p2 p3) (M_X6_way p1 p2 p3) := by
  intro σ τ h
  obtain ⟨⟨n, kd, ld, tw, d, hV, hR⟩, hS, hI, hd⟩ := id h
  obtain ⟨h1, h2, h3, h4, h5, h6⟩ := hV
  have hn := h3.1
  have h8 := h6.lt8 hn
  unfold M_X5_way M_X6_way M_X6_within
  rcases zpost p1 hn with hp | ⟨i, hi, rfl⟩
  · rw [isPostX_no h1.1 hp, isPostM_no h2.1 hp]
    exact ⟨_, σ, τ, rfl, rfl, h⟩
  have u1 := isPostX_yes h1.1 hn hi
  have u2 := isPostM_yes h2.1 hn hi
  rcases zpost p2 hn with hp | ⟨j, hj, rfl⟩
  · refine ⟨-nI 1, σ, τ, ?_, ?_, h⟩
    · simp (disch := omega) only [↓reduceIte, ↓znm, ↓zbd_some, ↓zbv_some, ↓zga_in, ↓zgs_in, ↓zgr_in, zga_in, zgs_in, zgr_in, zgz_n0, zgz_n1, zlit, nI_add, pk_mul, pk_sub, znI_or, znI_and, znI_df, zon_ok, zbt_ok, zlt_t, zlt_f, zle_t, zle_f, zeq_f, ↓zbd_of u1, ↓zbd_of (isPostX_no h1.1 hp)]
    · simp (disch := omega) only [↓reduceIte, ↓znm, ↓zbd_some, ↓zbv_some, ↓zga_in, ↓zgs_in, ↓zgr_in, zga_in, zgs_in, zgr_in, zgz_n0, zgz_n1, zlit, nI_add, pk_mul, pk_sub, znI_or, znI_and, znI_df, zon_ok, zbt_ok, zlt_t, zlt_f, zle_t, zle_f, zeq_f, ↓zbd_of u2, ↓zbd_of (isPostM_no h2.1 hp)]
  have w1 := isPostX_yes h1.1 hn hj
  have w2 := isPostM_yes h2.1 hn hj
  rcases zix p3 (n := 8) (by decide) with c | c | ⟨k, hk, rfl⟩
  · refine ⟨-nI 2, σ, τ, ?_, ?_, h⟩
    · simp (disch := omega) only [↓reduceIte, ↓znm, ↓zbd_some, ↓zbv_some, ↓zga_in, ↓zgs_in, ↓zgr_in, zga_in, zgs_in, zgr_in, zgz_n0, zgz_n1, zlit, nI_add, pk_mul, pk_sub, znI_or, znI_and, znI_df, zon_ok, zbt_ok, zlt_t, zlt_f, zle_t, zle_f, zeq_f, ↓zbd_of u1, ↓zbd_of w1, zneg_lt c]
    · simp (disch := omega) only [↓reduceIte, ↓znm, ↓zbd_some, ↓zbv_some, ↓zga_in, ↓zgs_in, ↓zgr_in, zga_in, zgs_in, zgr_in, zgz_n0, zgz_n1, zlit, nI_add, pk_mul, pk_sub, znI_or, znI_and, znI_df, zon_ok, zbt_ok, zlt_t, zlt_f, zle_t, zle_f, zeq_f, ↓zbd_of u2, ↓zbd_of w2, zneg_lt c]
  · refine ⟨-nI 2, σ, τ, ?_, ?_, h⟩
    · simp (disch := omega) only [↓reduceIte, ↓znm, ↓zbd_some, ↓zbv_some, ↓zga_in, ↓zgs_in, ↓zgr_in, zga_in, zgs_in, zgr_in, zgz_n0, zgz_n1, zlit, nI_add, pk_mul, pk_sub, znI_or, znI_and, znI_df, zon_ok, zbt_ok, zlt_t, zlt_f, zle_t, zle_f, zeq_f, ↓zbd_of u1, ↓zbd_of w1, zbig_lt (by decide) c]
    · simp (disch := omega) only [↓reduceIte, ↓znm, ↓zbd_some, ↓zbv_some, ↓zga_in, ↓zgs_in, ↓zgr_in, zga_in, zgs_in, zgr_in, zgz_n0, zgz_n1, zlit, nI_add, pk_mul, pk_sub, znI_or, znI_and, znI_df, zon_ok, zbt_ok, zlt_t, zlt_f, zle_t, zle_f, zeq_f, ↓zbd_of u2, ↓zbd_of w2, zbig_lt (by decide) c, zbig_gt (by decide) c]
  obtain ⟨τ', f1, f2, f3, f4, f5⟩ := fars_get h h2 h3 h6
  have b9 := h8 i j hi hj
  -- the class's loop
  have stepX : ∀ (rec : Int32 × zSt → Option (Int32 × zSt)) (p : Nat), p < n → ¬ (d i p = k ∧ d i p + d p j = d i j) → B_X5_way_40 (nI i) (nI j) (nI k) (fun v4 σ => rec (v4, σ)) (nI p) σ = rec (nI (p + 1), σ) := by
    intro rec p hp hne
    have e1 := h4 i hi p hp
    have b1 := h8 i p hi hp
    unfold B_X5_way_40
    by_cases c : d i p = k
    · have c2 : ¬ d i p + d p j = d i j := fun q => hne ⟨c, q⟩
      have e2 := onWay_ok h4 hn h8 hi hj hp
      rw [if_neg c2] at e2
      simp (disch := omega) only [↓reduceIte, ↓znm, ↓zbd_some, ↓zbv_some, ↓zga_in, ↓zgs_in, ↓zgr_in, zga_in, zgs_in, zgr_in, zgz_n0, zgz_n1, zlit, nI_add, pk_mul, pk_sub, znI_or, znI_and, znI_df, zon_ok, zbt_ok, zlt_t, zlt_f, zle_t, zle_f, zeq_f, h1.1, e1, c, ↓zbd_of e2, B_X5_way_85]
    · simp (disch := omega) only [↓reduceIte, ↓znm, ↓zbd_some, ↓zbv_some, ↓zga_in, ↓zgs_in, ↓zgr_in, zga_in, zgs_in, zgr_in, zgz_n0, zgz_n1, zlit, nI_add, pk_mul, pk_sub, znI_or, znI_and, znI_df, zon_ok, zbt_ok, zlt_t, zlt_f, zle_t, zle_f, zeq_f, h1.1, e1, c, B_X5_way_85]
  have exitX : ∀ (rec : Int32 × zSt → Option (Int32 × zSt)), B_X5_way_40 (nI i) (nI j) (nI k) (fun v4 σ => rec (v4, σ)) (nI n) σ = some (-nI 9, σ) := by
    intro rec
    unfold B_X5_way_40
    simp (disch := omega) only [↓reduceIte, ↓znm, ↓zbd_some, ↓zbv_some, ↓zga_in, ↓zgs_in, ↓zgr_in, zga_in, zgs_in, zgr_in, zgz_n0, zgz_n1, zlit, nI_add, pk_mul, pk_sub, znI_or, znI_and, znI_df, zon_ok, zbt_ok, zlt_t, zlt_f, zle_t, zle_f, zeq_f, h1.1]
  have foundX : ∀ (rec : Int32 × zSt → Option (Int32 × zSt)) (p : Nat), p < n → (d i p = k ∧ d i p + d p j = d i j) → B_X5_way_40 (nI i) (nI j) (nI k) (fun v4 σ => rec (v4, σ)) (nI p) σ = some (nI p, σ) := by
    intro rec p hp hc
    have e1 := h4 i hi p hp
    have e2 := onWay_ok h4 hn h8 hi hj hp
    rw [if_pos hc.2] at e2
    unfold B_X5_way_40
    simp (disch := omega) only [↓reduceIte, ↓znm, ↓zbd_some, ↓zbv_some, ↓zga_in, ↓zgs_in, ↓zgr_in, zga_in, zgs_in, zgr_in, zgz_n0, zgz_n1, zlit, nI_add, pk_mul, pk_sub, znI_or, znI_and, znI_df, zon_ok, zbt_ok, zlt_t, zlt_f, zle_t, zle_f, zeq_f, h1.1, e1, hc.1, ↓zbd_of e2]
  -- the reference's loop, where k is no more than all
  have stepM : k ≤ d i j → ∀ (rec : Int32 × Int32 × zSt → Option (Int32 × zSt)) (p : Nat), p < n → ¬ (d i p = k ∧ d i p + d p j = d i j) → B_X6_way_60 (nI i) (nI j) (nI k) (fun v4 v5 σ => rec (v4, v5, σ)) (nI (d i j)) (nI p) τ' = rec (nI (d i j), nI (p + 1), τ') := by
    intro hk2 rec p hp hne
    have e1 := f4 i p hi hp
    have e2 := f4 p j hp hj
    have b1 := h8 i p hi hp
    have b2 := h8 p j hp hj
    unfold B_X6_way_60
    by_cases c : d i p = k
    · have c2 : ¬ d p j = d i j - k := fun q => hne ⟨c, by omega⟩
      simp (disch := omega) only [↓reduceIte, ↓znm, ↓zbd_some, ↓zbv_some, ↓zga_in, ↓zgs_in, ↓zgr_in, zga_in, zgs_in, zgr_in, zgz_n0, zgz_n1, zlit, nI_add, pk_mul, pk_sub, znI_or, znI_and, znI_df, zon_ok, zbt_ok, zlt_t, zlt_f, zle_t, zle_f, zeq_f, f3.1, e1, e2, c, B_X6_way_107]
    · simp (disch := omega) only [↓reduceIte, ↓znm, ↓zbd_some, ↓zbv_some, ↓zga_in, ↓zgs_in, ↓zgr_in, zga_in, zgs_in, zgr_in, zgz_n0, zgz_n1, zlit, nI_add, pk_mul, pk_sub, znI_or, znI_and, znI_df, zon_ok, zbt_ok, zlt_t, zlt_f, zle_t, zle_f, zeq_f, f3.1, e1, c, B_X6_way_107]
  have exitM : ∀ (rec : Int32 × Int32 × zSt → Option (Int32 × zSt)), B_X6_way_60 (nI i) (nI j) (nI k) (fun v4 v5 σ => rec (v4, v5, σ)) (nI (d i j)) (nI n) τ' = some (-nI 9, τ') := by
    intro rec
    unfold B_X6_way_60
    simp (disch := omega) only [↓reduceIte, ↓znm, ↓zbd_some, ↓zbv_some, ↓zga_in, ↓zgs_in, ↓zgr_in, zga_in, zgs_in, zgr_in, zgz_n0, zgz_n1, zlit, nI_add, pk_mul, pk_sub, znI_or, znI_and, znI_df, zon_ok, zbt_ok, zlt_t, zlt_f, zle_t, zle_f, zeq_f, f3.1]
  have foundM : k ≤ d i j → ∀ (rec : Int32 × Int32 × zSt → Option (Int32 × zSt)) (p : Nat), p < n → (d i p = k ∧ d i p + d p j = d i j) → B_X6_way_60 (nI i) (nI j) (nI k) (fun v4 v5 σ => rec (v4, v5, σ)) (nI (d i j)) (nI p) τ' = some (nI p, τ') := by
    intro hk2 rec p hp hc
    have e1 := f4 i p hi hp
    have e2 := f4 p j hp hj
    have c2 : d p j = d i j - k := by omega
    unfold B_X6_way_60
    simp (disch := omega) only [↓reduceIte, ↓znm, ↓zbd_some, ↓zbv_some, ↓zga_in, ↓zgs_in, ↓zgr_in, zga_in, zgs_in, zgr_in, zgz_n0, zgz_n1, zlit, nI_add, pk_mul, pk_sub, znI_or, znI_and, znI_df, zon_ok, zbt_ok, zlt_t, zlt_f, zle_t, zle_f, zeq_f, f3.1, e1, e2, hc.1, c2]
  by_cases hk2 : k ≤ d i j
  · rcases zfirst (fun p => d i p = k ∧ d i p + d p j = d i j) n with ⟨e, e1, e2, e3⟩ | hno
    · refine ⟨nI e, σ, τ', ?_, ?_, f2⟩
      · simp (disch := omega) only [↓reduceIte, ↓znm, ↓zbd_some, ↓zbv_some, ↓zga_in, ↓zgs_in, ↓zgr_in, zga_in, zgs_in, zgr_in, zgz_n0, zgz_n1, zlit, nI_add, pk_mul, pk_sub, znI_or, znI_and, znI_df, zon_ok, zbt_ok, zlt_t, zlt_f, zle_t, zle_f, zeq_f, ↓zbd_of u1, ↓zbd_of w1]
        unfold L_X5_way_40
        exact zloop_for (fun p => (nI p, σ)) e rfl (by omega) (fun rec p hp => stepX rec p (by omega) (e3 p hp)) (fun rec => foundX rec e e1 e2)
      · simp (disch := omega) only [↓reduceIte, ↓znm, ↓zbd_some, ↓zbv_some, ↓zga_in, ↓zgs_in, ↓zgr_in, zga_in, zgs_in, zgr_in, zgz_n0, zgz_n1, zlit, nI_add, pk_mul, pk_sub, znI_or, znI_and, znI_df, zon_ok, zbt_ok, zlt_t, zlt_f, zle_t, zle_f, zeq_f, ↓zbd_of u2, ↓zbd_of w2, ↓zbv_of f1, f4 i j hi hj]
        unfold L_X6_way_60
        exact zloop_for (fun p => (nI (d i j), nI p, τ')) e rfl (by omega) (fun rec p hp => stepM hk2 rec p (by omega) (e3 p hp)) (fun rec => foundM hk2 rec e e1 e2)
    · refine ⟨-nI 9, σ, τ', ?_, ?_, f2⟩
      · simp (disch := omega) only [↓reduceIte, ↓znm, ↓zbd_some, ↓zbv_some, ↓zga_in, ↓zgs_in, ↓zgr_in, zga_in, zgs_in, zgr_in, zgz_n0, zgz_n1, zlit, nI_add, pk_mul, pk_sub, znI_or, znI_and, znI_df, zon_ok, zbt_ok, zlt_t, zlt_f, zle_t, zle_f, zeq_f, ↓zbd_of u1, ↓zbd_of w1]
        unfold L_X5_way_40
        exact zloop_for (fun p => (nI p, σ)) n rfl (by omega) (fun rec p hp => stepX rec p (by omega) (hno p hp)) (fun rec => exitX rec)
      · simp (disch := omega) only [↓reduceIte, ↓znm, ↓zbd_some, ↓zbv_some, ↓zga_in, ↓zgs_in, ↓zgr_in, zga_in, zgs_in, zgr_in, zgz_n0, zgz_n1, zlit, nI_add, pk_mul, pk_sub, znI_or, znI_and, znI_df, zon_ok, zbt_ok, zlt_t, zlt_f, zle_t, zle_f, zeq_f, ↓zbd_of u2, ↓zbd_of w2, ↓zbv_of f1, f4 i j hi hj]
        unfold L_X6_way_60
        exact zloop_for (fun p => (nI (d i j), nI p, τ')) n rfl (by omega) (fun rec p hp => stepM hk2 rec p (by omega) (hno p hp)) (fun rec => exitM rec)
  · refine ⟨-nI 9, σ, τ', ?_, ?_, f2⟩
    · simp (disch := omega) only [↓reduceIte, ↓znm, ↓zbd_some, ↓zbv_some, ↓zga_in, ↓zgs_in, ↓zgr_in, zga_in, zgs_in, zgr_in, zgz_n0, zgz_n1, zlit, nI_add, pk_mul, pk_sub, znI_or, znI_and, znI_df, zon_ok, zbt_ok, zlt_t, zlt_f, zle_t, zle_f, zeq_f, ↓zbd_of u1, ↓zbd_of w1]
      unfold L_X5_way_40
      exact zloop_for (fun p => (nI p, σ)) n rfl (by omega) (fun rec p hp => stepX rec p (by omega) (fun q => by omega)) (fun rec => exitX rec)
    · simp (disch := omega) only [↓reduceIte, ↓znm, ↓zbd_some, ↓zbv_some, ↓zga_in, ↓zgs_in, ↓zgr_in, zga_in, zgs_in, zgr_in, zgz_n0, zgz_n1, zlit, nI_add, pk_mul, pk_sub, znI_or, znI_and, znI_df, zon_ok, zbt_ok, zlt_t, zlt_f, zle_t, zle_f, zeq_f, ↓zbd_of u2, ↓zbd_of w2, ↓zbv_of f1, f4 i j hi hj]
def zmid (f : Nat → Nat) : Nat → Nat × Nat
  | 0 => (8, 0)
  | i + 1 => if f i < (zmid f i).1 then (f i, 2 ^ i) else if f i = (zmid f i).1 then ((zmid f i).1, (zmid f i).2 ||| 2 ^ i) else zmid f i
theorem zmid_lt (f : Nat → Nat) : ∀ n, (∀ p, p < n → f p ≤ 7) → n ≤ 8 → (zmid f n).1 ≤ 8 ∧ (zmid f n).2 < 256
  | 0, _, _ => ⟨by show 8 ≤ 8; omega, by show 0 < 256; omega⟩
  | n + 1, h, hn => by
    have h1 := zmid_lt f n (fun p hp => h p (by omega)) (by omega)
    have h2 := h n (by omega)
    have h3 : 2 ^ n < 256 := by
      have := Nat.pow_le_pow_right (n := 2) (by decide) (show n ≤ 7 by omega)
      have e : (2 : Nat) ^ 7 = 128 := by decide
      omega
    unfold zmid
    split
    · exact ⟨by omega, h3⟩
    · split
      · exact ⟨h1.1, Nat.or_lt_two_pow (n := 8) h1.2 h3⟩
      · exact h1
theorem middlesX_ok {σ : zSt} {b n : Nat} {d : Nat → Nat → Nat} (h0 : σ b 0 = nI n) (hA : zAX σ b n d) (hn : n ≤ 8) (hd : ∀ p q, p < n → q < n → d p q < 8) : M_X4_middles b σ = some (nI (zmid (fun p => zmax (d p) n) n).2, σ) := by
  unfold M_X4_middles L_X4_middles_7
  have hb : ∀ p, p < n → zmax (d p) n ≤ 7 := fun p hp => zmax_le (fun q hq => by have := hd p q hp hq; omega)
  refine zloop_for (fun i => (nI (zmid (fun p => zmax (d p) n) i).1, nI (zmid (fun p => zmax (d p) n) i).2, nI i, σ)) n rfl (by omega) (fun rec i hi => ?_) (fun rec => ?_)
  · have b1 := hb i hi
    have b2 := zmid_lt (fun p => zmax (d p) n) i (fun p hp => hb p (by omega)) (by omega)
    have u := farthestX_ok h0 hA hn hd hi
    unfold B_X4_middles_7
    by_cases c : zmax (d i) n < (zmid (fun p => zmax (d p) n) i).1
    · simp (disch := omega) only [↓reduceIte, ↓znm, ↓zbd_some, ↓zbv_some, ↓zga_in, ↓zgs_in, ↓zgr_in, zga_in, zgs_in, zgr_in, zgz_n0, zgz_n1, zlit, nI_add, pk_mul, pk_sub, znI_or, znI_and, znI_df, zon_ok, zbt_ok, zlt_t, zlt_f, zle_t, zle_f, zeq_f, h0, ↓zbd_of u, B_X4_middles_33, B_X4_middles_45, zmid, c, Nat.zero_or]
    · by_cases c2 : zmax (d i) n = (zmid (fun p => zmax (d p) n) i).1
      · simp (disch := omega) only [↓reduceIte, ↓znm, ↓zbd_some, ↓zbv_some, ↓zga_in, ↓zgs_in, ↓zgr_in, zga_in, zgs_in, zgr_in, zgz_n0, zgz_n1, zlit, nI_add, pk_mul, pk_sub, znI_or, znI_and, znI_df, zon_ok, zbt_ok, zlt_t, zlt_f, zle_t, zle_f, zeq_f, h0, ↓zbd_of u, B_X4_middles_33, B_X4_middles_45, zmid, c2, Nat.lt_irrefl]
      · simp (disch := omega) only [↓reduceIte, ↓znm, ↓zbd_some, ↓zbv_some, ↓zga_in, ↓zgs_in, ↓zgr_in, zga_in, zgs_in, zgr_in, zgz_n0, zgz_n1, zlit, nI_add, pk_mul, pk_sub, znI_or, znI_and, znI_df, zon_ok, zbt_ok, zlt_t, zlt_f, zle_t, zle_f, zeq_f, h0, ↓zbd_of u, B_X4_middles_33, B_X4_middles_45, zmid, c, c2]
  · unfold B_X4_middles_7
    simp (disch := omega) only [↓reduceIte, ↓znm, ↓zbd_some, ↓zbv_some, ↓zga_in, ↓zgs_in, ↓zgr_in, zga_in, zgs_in, zgr_in, zgz_n0, zgz_n1, zlit, nI_add, pk_mul, pk_sub, znI_or, znI_and, znI_df, zon_ok, zbt_ok, zlt_t, zlt_f, zle_t, zle_f, zeq_f, h0]
theorem sim_middle (p1 : Int32) : zSim (M_X5_middle p1) (M_X6_middle p1) := by
  intro σ τ h
  obtain ⟨⟨n, kd, ld, tw, d, hV, hR⟩, hS, hI, hd⟩ := id h
  obtain ⟨h1, h2, h3, h4, h5, h6⟩ := hV
  have hn := h3.1
  have h8 := h6.lt8 hn
  unfold M_X5_middle M_X6_middle M_X6_within
  rcases zix p1 (n := 2) (by decide) with c | c | ⟨k, hk, rfl⟩
  · refine ⟨-nI 2, σ, τ, ?_, ?_, h⟩
    · simp (disch := omega) only [↓reduceIte, ↓znm, ↓zbd_some, ↓zbv_some, ↓zga_in, ↓zgs_in, ↓zgr_in, zga_in, zgs_in, zgr_in, zgz_n0, zgz_n1, zlit, nI_add, pk_mul, pk_sub, znI_or, znI_and, znI_df, zon_ok, zbt_ok, zlt_t, zlt_f, zle_t, zle_f, zeq_f, zneg_lt c]
    · simp (disch := omega) only [↓reduceIte, ↓znm, ↓zbd_some, ↓zbv_some, ↓zga_in, ↓zgs_in, ↓zgr_in, zga_in, zgs_in, zgr_in, zgz_n0, zgz_n1, zlit, nI_add, pk_mul, pk_sub, znI_or, znI_and, znI_df, zon_ok, zbt_ok, zlt_t, zlt_f, zle_t, zle_f, zeq_f, zneg_lt c]
  · refine ⟨-nI 2, σ, τ, ?_, ?_, h⟩
    · simp (disch := omega) only [↓reduceIte, ↓znm, ↓zbd_some, ↓zbv_some, ↓zga_in, ↓zgs_in, ↓zgr_in, zga_in, zgs_in, zgr_in, zgz_n0, zgz_n1, zlit, nI_add, pk_mul, pk_sub, znI_or, znI_and, znI_df, zon_ok, zbt_ok, zlt_t, zlt_f, zle_t, zle_f, zeq_f, zbig_lt (by decide) c, zbig_le (by decide) c]
    · simp (disch := omega) only [↓reduceIte, ↓znm, ↓zbd_some, ↓zbv_some, ↓zga_in, ↓zgs_in, ↓zgr_in, zga_in, zgs_in, zgr_in, zgz_n0, zgz_n1, zlit, nI_add, pk_mul, pk_sub, znI_or, znI_and, znI_df, zon_ok, zbt_ok, zlt_t, zlt_f, zle_t, zle_f, zeq_f, zbig_lt (by decide) c, zbig_gt (by decide) c]
  by_cases hz : n = 0
  · subst hz
    refine ⟨-nI 3, σ, τ, ?_, ?_, h⟩
    · simp (disch := omega) only [↓reduceIte, ↓znm, ↓zbd_some, ↓zbv_some, ↓zga_in, ↓zgs_in, ↓zgr_in, zga_in, zgs_in, zgr_in, zgz_n0, zgz_n1, zlit, nI_add, pk_mul, pk_sub, znI_or, znI_and, znI_df, zon_ok, zbt_ok, zlt_t, zlt_f, zle_t, zle_f, zeq_f, h1.1]
    · simp (disch := omega) only [↓reduceIte, ↓znm, ↓zbd_some, ↓zbv_some, ↓zga_in, ↓zgs_in, ↓zgr_in, zga_in, zgs_in, zgr_in, zgz_n0, zgz_n1, zlit, nI_add, pk_mul, pk_sub, znI_or, znI_and, znI_df, zon_ok, zbt_ok, zlt_t, zlt_f, zle_t, zle_f, zeq_f, h2.1]
  obtain ⟨τ', f1, f2, f3, f4, f5⟩ := fars_get h h2 h3 h6
  have hb : ∀ p, p < n → zmax (d p) n ≤ 7 := fun p hp => zmax_le (fun q hq => by have := h8 p q hp hq; omega)
  rcases (by omega : k = 0 ∨ k = 1) with rfl | rfl
  · refine ⟨nI (zmid (fun p => zmax (d p) n) n).2, σ, τ', ?_, ?_, f2⟩
    · simp (disch := omega) only [↓reduceIte, ↓znm, ↓zbd_some, ↓zbv_some, ↓zga_in, ↓zgs_in, ↓zgr_in, zga_in, zgs_in, zgr_in, zgz_n0, zgz_n1, zlit, nI_add, pk_mul, pk_sub, znI_or, znI_and, znI_df, zon_ok, zbt_ok, zlt_t, zlt_f, zle_t, zle_f, zeq_f, h1.1, ↓zbd_of (middlesX_ok h1.1 h4 hn h8)]
    · simp (disch := omega) only [↓reduceIte, ↓znm, ↓zbd_some, ↓zbv_some, ↓zga_in, ↓zgs_in, ↓zgr_in, zga_in, zgs_in, zgr_in, zgz_n0, zgz_n1, zlit, nI_add, pk_mul, pk_sub, znI_or, znI_and, znI_df, zon_ok, zbt_ok, zlt_t, zlt_f, zle_t, zle_f, zeq_f, h2.1, ↓zbv_of f1]
      unfold L_X6_middle_44
      refine zloop_for (fun i => (nI (zmid (fun p => zmax (d p) n) i).1, nI (zmid (fun p => zmax (d p) n) i).2, nI i, τ')) n rfl (by omega) (fun rec i hi => ?_) (fun rec => ?_)
      · have b1 := hb i hi
        have b2 := zmid_lt (fun p => zmax (d p) n) i (fun p hp => hb p (by omega)) (by omega)
        have u := farthestM_ok f3.1 f4 hn h8 hi
        unfold B_X6_middle_44
        by_cases c : zmax (d i) n < (zmid (fun p => zmax (d p) n) i).1
        · simp (disch := omega) only [↓reduceIte, ↓znm, ↓zbd_some, ↓zbv_some, ↓zga_in, ↓zgs_in, ↓zgr_in, zga_in, zgs_in, zgr_in, zgz_n0, zgz_n1, zlit, nI_add, pk_mul, pk_sub, znI_or, znI_and, znI_df, zon_ok, zbt_ok, zlt_t, zlt_f, zle_t, zle_f, zeq_f, f3.1, ↓zbd_of u, B_X6_middle_90, B_X6_middle_103, zmid, c]
        · by_cases c2 : zmax (d i) n = (zmid (fun p => zmax (d p) n) i).1
          · simp (disch := omega) only [↓reduceIte, ↓znm, ↓zbd_some, ↓zbv_some, ↓zga_in, ↓zgs_in, ↓zgr_in, zga_in, zgs_in, zgr_in, zgz_n0, zgz_n1, zlit, nI_add, pk_mul, pk_sub, znI_or, znI_and, znI_df, zon_ok, zbt_ok, zlt_t, zlt_f, zle_t, zle_f, zeq_f, f3.1, ↓zbd_of u, B_X6_middle_90, B_X6_middle_103, zmid, c2, Nat.lt_irrefl]
          · simp (disch := omega) only [↓reduceIte, ↓znm, ↓zbd_some, ↓zbv_some, ↓zga_in, ↓zgs_in, ↓zgr_in, zga_in, zgs_in, zgr_in, zgz_n0, zgz_n1, zlit, nI_add, pk_mul, pk_sub, znI_or, znI_and, znI_df, zon_ok, zbt_ok, zlt_t, zlt_f, zle_t, zle_f, zeq_f, f3.1, ↓zbd_of u, B_X6_middle_90, B_X6_middle_103, zmid, c, c2]
      · unfold B_X6_middle_44
        simp (disch := omega) only [↓reduceIte, ↓znm, ↓zbd_some, ↓zbv_some, ↓zga_in, ↓zgs_in, ↓zgr_in, zga_in, zgs_in, zgr_in, zgz_n0, zgz_n1, zlit, nI_add, pk_mul, pk_sub, znI_or, znI_and, znI_df, zon_ok, zbt_ok, zlt_t, zlt_f, zle_t, zle_f, zeq_f, f3.1]
  · refine ⟨nI (zmax (fun p => zmax (d p) n) n), σ, τ', ?_, ?_, f2⟩
    · simp (disch := omega) only [↓reduceIte, ↓znm, ↓zbd_some, ↓zbv_some, ↓zga_in, ↓zgs_in, ↓zgr_in, zga_in, zgs_in, zgr_in, zgz_n0, zgz_n1, zlit, nI_add, pk_mul, pk_sub, znI_or, znI_and, znI_df, zon_ok, zbt_ok, zlt_t, zlt_f, zle_t, zle_f, zeq_f, h1.1, ↓zbd_of (longestX_ok h1.1 h4 hn h8)]
    · simp (disch := omega) only [↓reduceIte, ↓znm, ↓zbd_some, ↓zbv_some, ↓zga_in, ↓zgs_in, ↓zgr_in, zga_in, zgs_in, zgr_in, zgz_n0, zgz_n1, zlit, nI_add, pk_mul, pk_sub, znI_or, znI_and, znI_df, zon_ok, zbt_ok, zlt_t, zlt_f, zle_t, zle_f, zeq_f, h2.1, ↓zbv_of f1, ↓zbd_of (longestM_ok f3.1 f4 hn h8)]
theorem sim_ofPost (p1 p2 : Int32) : zSim (M_X5_ofPost p1 p2) (M_X6_ofPost p1 p2) := by
  intro σ τ h
  obtain ⟨⟨n, kd, ld, tw, d, hV, hR⟩, hS, hI, hd⟩ := id h
  obtain ⟨h1, h2, h3, h4, h5, h6⟩ := hV
  have hn := h3.1
  have h8 := h6.lt8 hn
  unfold M_X5_ofPost M_X6_ofPost
  rcases zpost p1 hn with hp | ⟨j, hj, rfl⟩
  · rw [isPostX_no h1.1 hp, isPostM_no h2.1 hp]
    exact ⟨_, σ, τ, rfl, rfl, h⟩
  have u1 := isPostX_yes h1.1 hn hj
  have u2 := isPostM_yes h2.1 hn hj
  obtain ⟨a1, a2, a3⟩ := h1.2 j hj
  obtain ⟨b1, b2, b3⟩ := h2.2 j hj
  obtain ⟨k1, k2, k3⟩ := h3.2 j hj
  rcases zix p2 (n := 6) (by decide) with c | c | ⟨k, hk, rfl⟩
  · refine ⟨-nI 2, σ, τ, ?_, ?_, h⟩
    · simp (disch := omega) only [↓reduceIte, ↓znm, ↓zbd_some, ↓zbv_some, ↓zga_in, ↓zgs_in, ↓zgr_in, zga_in, zgs_in, zgr_in, zgz_n0, zgz_n1, zlit, nI_add, pk_mul, pk_sub, znI_or, znI_and, znI_df, zon_ok, zbt_ok, zlt_t, zlt_f, zle_t, zle_f, zeq_f, ↓zbd_of u1, zneg_eq c]
    · simp (disch := omega) only [↓reduceIte, ↓znm, ↓zbd_some, ↓zbv_some, ↓zga_in, ↓zgs_in, ↓zgr_in, zga_in, zgs_in, zgr_in, zgz_n0, zgz_n1, zlit, nI_add, pk_mul, pk_sub, znI_or, znI_and, znI_df, zon_ok, zbt_ok, zlt_t, zlt_f, zle_t, zle_f, zeq_f, ↓zbd_of u2, zneg_eq c]
  · refine ⟨-nI 2, σ, τ, ?_, ?_, h⟩
    · simp (disch := omega) only [↓reduceIte, ↓znm, ↓zbd_some, ↓zbv_some, ↓zga_in, ↓zgs_in, ↓zgr_in, zga_in, zgs_in, zgr_in, zgz_n0, zgz_n1, zlit, nI_add, pk_mul, pk_sub, znI_or, znI_and, znI_df, zon_ok, zbt_ok, zlt_t, zlt_f, zle_t, zle_f, zeq_f, ↓zbd_of u1, zbig_eq (by decide) c]
    · simp (disch := omega) only [↓reduceIte, ↓znm, ↓zbd_some, ↓zbv_some, ↓zga_in, ↓zgs_in, ↓zgr_in, zga_in, zgs_in, zgr_in, zgz_n0, zgz_n1, zlit, nI_add, pk_mul, pk_sub, znI_or, znI_and, znI_df, zon_ok, zbt_ok, zlt_t, zlt_f, zle_t, zle_f, zeq_f, ↓zbd_of u2, zbig_eq (by decide) c]
  rcases (by omega : k = 0 ∨ k = 1 ∨ k = 2 ∨ k = 3 ∨ k = 4 ∨ k = 5) with rfl | rfl | rfl | rfl | rfl | rfl
  · refine ⟨nI (kd j), σ, τ, ?_, ?_, h⟩
    · simp (disch := omega) only [↓reduceIte, ↓znm, ↓zbd_some, ↓zbv_some, ↓zga_in, ↓zgs_in, ↓zgr_in, zga_in, zgs_in, zgr_in, zgz_n0, zgz_n1, zlit, nI_add, pk_mul, pk_sub, znI_or, znI_and, znI_df, zon_ok, zbt_ok, zlt_t, zlt_f, zle_t, zle_f, zeq_f, ↓zbd_of u1, a1]
    · simp (disch := omega) only [↓reduceIte, ↓znm, ↓zbd_some, ↓zbv_some, ↓zga_in, ↓zgs_in, ↓zgr_in, zga_in, zgs_in, zgr_in, zgz_n0, zgz_n1, zlit, nI_add, pk_mul, pk_sub, znI_or, znI_and, znI_df, zon_ok, zbt_ok, zlt_t, zlt_f, zle_t, zle_f, zeq_f, ↓zbd_of u2, b1]
  · refine ⟨nI (ld j), σ, τ, ?_, ?_, h⟩
    · simp (disch := omega) only [↓reduceIte, ↓znm, ↓zbd_some, ↓zbv_some, ↓zga_in, ↓zgs_in, ↓zgr_in, zga_in, zgs_in, zgr_in, zgz_n0, zgz_n1, zlit, nI_add, pk_mul, pk_sub, znI_or, znI_and, znI_df, zon_ok, zbt_ok, zlt_t, zlt_f, zle_t, zle_f, zeq_f, ↓zbd_of u1, a2]
    · simp (disch := omega) only [↓reduceIte, ↓znm, ↓zbd_some, ↓zbv_some, ↓zga_in, ↓zgs_in, ↓zgr_in, zga_in, zgs_in, zgr_in, zgz_n0, zgz_n1, zlit, nI_add, pk_mul, pk_sub, znI_or, znI_and, znI_df, zon_ok, zbt_ok, zlt_t, zlt_f, zle_t, zle_f, zeq_f, ↓zbd_of u2, b2]
  · refine ⟨nI (zwo kd ld j), σ, τ, ?_, ?_, h⟩
    · simp (disch := omega) only [↓reduceIte, ↓znm, ↓zbd_some, ↓zbv_some, ↓zga_in, ↓zgs_in, ↓zgr_in, zga_in, zgs_in, zgr_in, zgz_n0, zgz_n1, zlit, nI_add, pk_mul, pk_sub, znI_or, znI_and, znI_df, zon_ok, zbt_ok, zlt_t, zlt_f, zle_t, zle_f, zeq_f, ↓zbd_of u1, ↓zbd_of (worthX_ok h1 h3 hj)]
    · simp (disch := omega) only [↓reduceIte, ↓znm, ↓zbd_some, ↓zbv_some, ↓zga_in, ↓zgs_in, ↓zgr_in, zga_in, zgs_in, zgr_in, zgz_n0, zgz_n1, zlit, nI_add, pk_mul, pk_sub, znI_or, znI_and, znI_df, zon_ok, zbt_ok, zlt_t, zlt_f, zle_t, zle_f, zeq_f, ↓zbd_of u2, ↓zbd_of (worthM_ok h2 h3 hj)]
  · refine ⟨nI (zpc (tw j)), σ, τ, ?_, ?_, h⟩
    · simp (disch := omega) only [↓reduceIte, ↓znm, ↓zbd_some, ↓zbv_some, ↓zga_in, ↓zgs_in, ↓zgr_in, zga_in, zgs_in, zgr_in, zgz_n0, zgz_n1, zlit, nI_add, pk_mul, pk_sub, znI_or, znI_and, znI_df, zon_ok, zbt_ok, zlt_t, zlt_f, zle_t, zle_f, zeq_f, ↓zbd_of u1, a3, bitCount_ok]
    · simp (disch := omega) only [↓reduceIte, ↓znm, ↓zbd_some, ↓zbv_some, ↓zga_in, ↓zgs_in, ↓zgr_in, zga_in, zgs_in, zgr_in, zgz_n0, zgz_n1, zlit, nI_add, pk_mul, pk_sub, znI_or, znI_and, znI_df, zon_ok, zbt_ok, zlt_t, zlt_f, zle_t, zle_f, zeq_f, ↓zbd_of u2, b3, size_ok]
  · refine ⟨nI (tw j), σ, τ, ?_, ?_, h⟩
    · simp (disch := omega) only [↓reduceIte, ↓znm, ↓zbd_some, ↓zbv_some, ↓zga_in, ↓zgs_in, ↓zgr_in, zga_in, zgs_in, zgr_in, zgz_n0, zgz_n1, zlit, nI_add, pk_mul, pk_sub, znI_or, znI_and, znI_df, zon_ok, zbt_ok, zlt_t, zlt_f, zle_t, zle_f, zeq_f, ↓zbd_of u1, a3]
    · simp (disch := omega) only [↓reduceIte, ↓znm, ↓zbd_some, ↓zbv_some, ↓zga_in, ↓zgs_in, ↓zgr_in, zga_in, zgs_in, zgr_in, zgz_n0, zgz_n1, zlit, nI_add, pk_mul, pk_sub, znI_or, znI_and, znI_df, zon_ok, zbt_ok, zlt_t, zlt_f, zle_t, zle_f, zeq_f, ↓zbd_of u2, b3]
  · obtain ⟨τ', f1, f2, f3, f4, f5⟩ := fars_get h h2 h3 h6
    refine ⟨nI (zmax (d j) n), σ, τ', ?_, ?_, f2⟩
    · simp (disch := omega) only [↓reduceIte, ↓znm, ↓zbd_some, ↓zbv_some, ↓zga_in, ↓zgs_in, ↓zgr_in, zga_in, zgs_in, zgr_in, zgz_n0, zgz_n1, zlit, nI_add, pk_mul, pk_sub, znI_or, znI_and, znI_df, zon_ok, zbt_ok, zlt_t, zlt_f, zle_t, zle_f, zeq_f, ↓zbd_of u1, ↓zbd_of (farthestX_ok h1.1 h4 hn h8 hj)]
    · simp (disch := omega) only [↓reduceIte, ↓znm, ↓zbd_some, ↓zbv_some, ↓zga_in, ↓zgs_in, ↓zgr_in, zga_in, zgs_in, zgr_in, zgz_n0, zgz_n1, zlit, nI_add, pk_mul, pk_sub, znI_or, znI_and, znI_df, zon_ok, zbt_ok, zlt_t, zlt_f, zle_t, zle_f, zeq_f, ↓zbd_of u2, ↓zbv_of f1, ↓zbd_of (farthestM_ok f3.1 f4 hn h8 hj)]
