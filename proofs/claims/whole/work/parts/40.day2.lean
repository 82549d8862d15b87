/-! PURE: day, its loops -/
def zp2 (τ : zSt) (c1 c2 : Nat) (f g : Nat → Nat) (i : Nat) : zSt := fun c y => if c = c1 ∧ y < i then nI (f y) else if c = c2 ∧ y < i then nI (g y) else τ c y
theorem zp2_0 {τ : zSt} {c1 c2 : Nat} {f g : Nat → Nat} : zp2 τ c1 c2 f g 0 = τ := by
  funext c y
  unfold zp2
  rw [if_neg (by omega), if_neg (by omega)]
theorem zp2_c {τ : zSt} {c1 c2 : Nat} {f g : Nat → Nat} {i c : Nat} (h1 : c ≠ c1) (h2 : c ≠ c2) : zp2 τ c1 c2 f g i c = τ c := by
  funext y
  unfold zp2
  rw [if_neg (by omega), if_neg (by omega)]
theorem zp2_1 {τ : zSt} {c1 c2 : Nat} {f g : Nat → Nat} {i y : Nat} (h : y < i) : zp2 τ c1 c2 f g i c1 y = nI (f y) := by
  unfold zp2
  rw [if_pos ⟨rfl, h⟩]
theorem zp2_2 {τ : zSt} {c1 c2 : Nat} {f g : Nat → Nat} {i y : Nat} (hc : c1 ≠ c2) (h : y < i) : zp2 τ c1 c2 f g i c2 y = nI (g y) := by
  unfold zp2
  rw [if_neg (by omega), if_pos ⟨rfl, h⟩]
theorem zp2_s {τ : zSt} {c1 c2 : Nat} {f g : Nat → Nat} {i : Nat} (hc : c1 ≠ c2) : (let s1 := zsu (zp2 τ c1 c2 f g i) c1 (upd (zp2 τ c1 c2 f g i c1) i (nI (f i))); zsu s1 c2 (upd (s1 c2) i (nI (g i)))) = zp2 τ c1 c2 f g (i + 1) := by
  funext c y
  rw [zput_at, zput_at]
  unfold zp2
  by_cases e1 : c = c2 ∧ y = i
  · rw [if_pos e1, if_neg (by omega), if_pos (by omega), e1.2]
  · rw [if_neg e1]
    by_cases e2 : c = c1 ∧ y = i
    · rw [if_pos e2, if_pos (by omega), e2.2]
    · rw [if_neg e2]
      by_cases e3 : c = c1 ∧ y < i
      · rw [if_pos e3, if_pos (by omega)]
      · rw [if_neg e3, if_neg (show ¬ (c = c1 ∧ y < i + 1) by omega)]
        by_cases e4 : c = c2 ∧ y < i
        · rw [if_pos e4, if_pos (by omega)]
        · rw [if_neg e4, if_neg (by omega)]
theorem keep_ok {τ : zSt} {n : Nat} {kd ld tw : Nat → Nat} (hV : zVM τ n kd ld tw) (hO : zOK n kd ld tw) (p1 p2 p3 p4 p5 v7 : Int32) : L_X6_day_159 p1 p2 p3 p4 p5 v7 (nI 0) τ = zbd (M_X6_goDay v7 p4 (zp2 τ 13 14 tw ld n)) (fun x25 σ24 => zbd (M_X6_tellDay p5 σ24) (fun x27 σ26 => L_X6_day_223 p1 p2 p3 p4 p5 x25 x27 (nI 0) σ26)) := by
  have hn := hO.1
  have f0 : ∀ i, zp2 τ 13 14 tw ld i 0 5 = nI n := fun i => by rw [zp2_c (by decide) (by decide)]; exact hV.1
  unfold L_X6_day_159
  refine zloop_for (fun i => (v7, nI i, zp2 τ 13 14 tw ld i)) n ?_ (by omega) (fun rec i hi => ?_) (fun rec => ?_)
  · rw [zp2_0]
  · obtain ⟨s1, hs1⟩ : ∃ s1, s1 = zsu (zp2 τ 13 14 tw ld i) 13 (upd (zp2 τ 13 14 tw ld i 13) i (nI (tw i))) := ⟨_, rfl⟩
    have g1 : zp2 τ 13 14 tw ld i 4 i = nI (tw i) := by rw [zp2_c (by decide) (by decide)]; exact (hV.2 i hi).2.2
    have g2 : s1 6 i = nI (ld i) := by rw [hs1, zsu_ne (by decide), zp2_c (by decide) (by decide)]; exact (hV.2 i hi).2.1
    have g3 := zp2_s (τ := τ) (c1 := 13) (c2 := 14) (f := tw) (g := ld) (i := i) (by decide)
    dsimp only at g3
    rw [← hs1] at g3
    unfold B_X6_day_159
    simp (disch := omega) only [↓reduceIte, ↓znm, ↓zbd_some, ↓zbv_some, ↓zga_in, ↓zgs_in, ↓zgr_in, zga_in, zgs_in, zgr_in, zgz_n0, zgz_n1, zlit, nI_add, pk_mul, pk_sub, znI_or, znI_and, znI_df, zon_ok, zbt_ok, zlt_t, zlt_f, zle_t, zle_f, zeq_f, f0, g1, ← hs1, g2, g3]
  · unfold B_X6_day_159
    simp (disch := omega) only [↓reduceIte, ↓znm, ↓zbd_some, ↓zbv_some, ↓zga_in, ↓zgs_in, ↓zgr_in, zga_in, zgs_in, zgr_in, zgz_n0, zgz_n1, zlit, nI_add, pk_mul, pk_sub, znI_or, znI_and, znI_df, zon_ok, zbt_ok, zlt_t, zlt_f, zle_t, zle_f, zeq_f, f0]
theorem restore_ok {τ : zSt} {n : Nat} {ld tw : Nat → Nat} (hn : n ≤ 8) (h0 : τ 0 5 = nI n) (h13 : ∀ p, p < n → τ 13 p = nI (tw p)) (h14 : ∀ p, p < n → τ 14 p = nI (ld p)) (p1 p2 p3 p4 p5 v8 v9 : Int32) : L_X6_day_223 p1 p2 p3 p4 p5 v8 v9 (nI 0) τ = if p5 = nI 1 then some (v8, zp2 τ 4 6 tw ld n) else if v8 = -nI 9 then some (v9, zp2 τ 4 6 tw ld n) else some (-nI 100 - v8, zp2 τ 4 6 tw ld n) := by
  have f0 : ∀ i, zp2 τ 4 6 tw ld i 0 5 = nI n := fun i => by rw [zp2_c (by decide) (by decide)]; exact h0
  unfold L_X6_day_223
  refine zloop_for (fun i => (v8, v9, nI i, zp2 τ 4 6 tw ld i)) n ?_ (by omega) (fun rec i hi => ?_) (fun rec => ?_)
  · rw [zp2_0]
  · obtain ⟨s1, hs1⟩ : ∃ s1, s1 = zsu (zp2 τ 4 6 tw ld i) 4 (upd (zp2 τ 4 6 tw ld i 4) i (nI (tw i))) := ⟨_, rfl⟩
    have g1 : zp2 τ 4 6 tw ld i 13 i = nI (tw i) := by rw [zp2_c (by decide) (by decide)]; exact h13 i hi
    have g2 : s1 14 i = nI (ld i) := by rw [hs1, zsu_ne (by decide), zp2_c (by decide) (by decide)]; exact h14 i hi
    have g3 := zp2_s (τ := τ) (c1 := 4) (c2 := 6) (f := tw) (g := ld) (i := i) (by decide)
    dsimp only at g3
    rw [← hs1] at g3
    unfold B_X6_day_223
    simp (disch := omega) only [↓reduceIte, ↓znm, ↓zbd_some, ↓zbv_some, ↓zga_in, ↓zgs_in, ↓zgr_in, zga_in, zgs_in, zgr_in, zgz_n0, zgz_n1, zlit, nI_add, pk_mul, pk_sub, znI_or, znI_and, znI_df, zon_ok, zbt_ok, zlt_t, zlt_f, zle_t, zle_f, zeq_f, f0, g1, ← hs1, g2, g3]
  · unfold B_X6_day_223
    simp (disch := omega) only [↓reduceIte, ↓znm, ↓zbd_some, ↓zbv_some, ↓zga_in, ↓zgs_in, ↓zgr_in, zga_in, zgs_in, zgr_in, zgz_n0, zgz_n1, zlit, nI_add, pk_mul, pk_sub, znI_or, znI_and, znI_df, zon_ok, zbt_ok, zlt_t, zlt_f, zle_t, zle_f, zeq_f, f0]
    rfl
theorem refusalsX_ok {σ : zSt} {q i0 N : Nat} (hi : i0 + 2 * N ≤ 60) (hN : N ≤ 20) {X Y ρ : Nat → Int32} (ha : ∀ j, j < N → M_X2_at q (nI (i0 + 2 * j)) σ = some (X j, σ) ∧ M_X2_at q (nI (i0 + 2 * j + 1)) σ = some (Y j, σ)) (hr : ∀ j, M_X5_refusalOfPair (X j) (Y j) σ = some (ρ j, σ)) : (∀ e, e < N → ¬ ρ e = nI 0 → (∀ j, j < e → ρ j = nI 0) → M_X5_refusalOfPairs q (nI i0) (nI N) σ = some (ρ e, σ)) ∧ ((∀ j, j < N → ρ j = nI 0) → M_X5_refusalOfPairs q (nI i0) (nI N) σ = some (nI 0, σ)) := by
  have step : ∀ (rec : Int32 × zSt → Option (Int32 × zSt)) j, j < N → ρ j = nI 0 → B_X5_refusalOfPairs_3 q (nI i0) (nI N) (fun v4 σ => rec (v4, σ)) (nI j) σ = rec (nI (j + 1), σ) := by
    intro rec j hj h0
    have r := hr j
    rw [h0] at r
    unfold B_X5_refusalOfPairs_3
    simp (disch := omega) only [↓reduceIte, ↓znm, ↓zbd_some, ↓zbv_some, ↓zga_in, ↓zgs_in, ↓zgr_in, zga_in, zgs_in, zgr_in, zgz_n0, zgz_n1, zlit, nI_add, pk_mul, pk_sub, znI_or, znI_and, znI_df, zon_ok, zbt_ok, zlt_t, zlt_f, zle_t, zle_f, zeq_f, ↓zbd_of (ha j hj).1, ↓zbd_of (ha j hj).2, ↓zbd_of r]
  unfold M_X5_refusalOfPairs L_X5_refusalOfPairs_3
  refine ⟨fun e he h0 hb => ?_, fun hb => ?_⟩
  · refine zloop_for (fun j => (nI j, σ)) e rfl (by omega) (fun rec j hj => step rec j (by omega) (hb j hj)) (fun rec => ?_)
    have n1 := eq_false h0
    unfold B_X5_refusalOfPairs_3
    simp (disch := omega) only [↓reduceIte, ↓znm, ↓zbd_some, ↓zbv_some, ↓zga_in, ↓zgs_in, ↓zgr_in, zga_in, zgs_in, zgr_in, zgz_n0, zgz_n1, zlit, nI_add, pk_mul, pk_sub, znI_or, znI_and, znI_df, zon_ok, zbt_ok, zlt_t, zlt_f, zle_t, zle_f, zeq_f, ↓zbd_of (ha e he).1, ↓zbd_of (ha e he).2, ↓zbd_of (hr e), n1]
  · refine zloop_for (fun j => (nI j, σ)) N rfl (by omega) (fun rec j hj => step rec j (by omega) (hb j hj)) (fun rec => ?_)
    unfold B_X5_refusalOfPairs_3
    simp (disch := omega) only [↓reduceIte, ↓znm, ↓zbd_some, ↓zbv_some, ↓zga_in, ↓zgs_in, ↓zgr_in, zga_in, zgs_in, zgr_in, zgz_n0, zgz_n1, zlit, nI_add, pk_mul, pk_sub, znI_or, znI_and, znI_df, zon_ok, zbt_ok, zlt_t, zlt_f, zle_t, zle_f, zeq_f]
theorem refusalsM_ok {τ : zSt} {i1 N : Nat} (hi : i1 + 2 * N ≤ 240) (hN : N ≤ 20) {ρ : Nat → Int32} (hr : ∀ j, M_X6_refusesPair (τ 3 (i1 + 2 * j)) (τ 3 (i1 + 2 * j + 1)) τ = some (ρ j, τ)) (p1 p2 p3 p5 : Int32) : (∀ e, e < N → ¬ ρ e = nI 0 → (∀ j, j < e → ρ j = nI 0) → L_X6_day_103 p1 p2 p3 (nI N) p5 (nI i1) (nI 0) τ = some (ρ e, τ)) ∧ ((∀ j, j < N → ρ j = nI 0) → L_X6_day_103 p1 p2 p3 (nI N) p5 (nI i1) (nI 0) τ = L_X6_day_159 p1 p2 p3 (nI N) p5 (nI i1) (nI 0) τ) := by
  have step : ∀ (rec : Int32 × Int32 × zSt → Option (Int32 × zSt)) j, j < N → ρ j = nI 0 → B_X6_day_103 p1 p2 p3 (nI N) p5 (fun v7 v8 σ => rec (v7, v8, σ)) (nI i1) (nI j) τ = rec (nI i1, nI (j + 1), τ) := by
    intro rec j hj h0
    have r := hr j
    rw [h0] at r
    unfold B_X6_day_103
    simp (disch := omega) only [↓reduceIte, ↓znm, ↓zbd_some, ↓zbv_some, ↓zga_in, ↓zgs_in, ↓zgr_in, zga_in, zgs_in, zgr_in, zgz_n0, zgz_n1, zlit, nI_add, pk_mul, pk_sub, znI_or, znI_and, znI_df, zon_ok, zbt_ok, zlt_t, zlt_f, zle_t, zle_f, zeq_f, ↓zbd_of r]
  unfold L_X6_day_103
  refine ⟨fun e he h0 hb => ?_, fun hb => ?_⟩
  · refine zloop_for (fun j => (nI i1, nI j, τ)) e rfl (by omega) (fun rec j hj => step rec j (by omega) (hb j hj)) (fun rec => ?_)
    have n1 := eq_false h0
    unfold B_X6_day_103
    simp (disch := omega) only [↓reduceIte, ↓znm, ↓zbd_some, ↓zbv_some, ↓zga_in, ↓zgs_in, ↓zgr_in, zga_in, zgs_in, zgr_in, zgz_n0, zgz_n1, zlit, nI_add, pk_mul, pk_sub, znI_or, znI_and, znI_df, zon_ok, zbt_ok, zlt_t, zlt_f, zle_t, zle_f, zeq_f, ↓zbd_of (hr e), n1]
  · refine zloop_for (fun j => (nI i1, nI j, τ)) N rfl (by omega) (fun rec j hj => step rec j (by omega) (hb j hj)) (fun rec => ?_)
    unfold B_X6_day_103
    simp (disch := omega) only [↓reduceIte, ↓znm, ↓zbd_some, ↓zbv_some, ↓zga_in, ↓zgs_in, ↓zgr_in, zga_in, zgs_in, zgr_in, zgz_n0, zgz_n1, zlit, nI_add, pk_mul, pk_sub, znI_or, znI_and, znI_df, zon_ok, zbt_ok, zlt_t, zlt_f, zle_t, zle_f, zeq_f]
theorem goDay_ok {σ τ : zSt} {n k len i0 N : Nat} {kd : Nat → Nat} (hk : k < 4) (hlen : len ≤ 60) (hi : i0 + 2 * N ≤ len) (hN : N ≤ 20) (hl : σ (2 + k) 2 = nI len) (hc : ∀ i, i < 60 → σ (6 + k) i = τ 3 (60 * k + i)) (hr : ∀ j, j < N → (∃ q a, q < 8 ∧ a < n ∧ τ 3 (60 * k + i0 + 2 * j + 1) = nI q ∧ τ 3 (60 * k + i0 + 2 * j) = nI a) ∨ (∃ q v, q < 8 ∧ v ≤ 9 ∧ τ 3 (60 * k + i0 + 2 * j + 1) = nI (10 + q) ∧ τ 3 (60 * k + i0 + 2 * j) = nI v)) (σ0 τ0 : zSt) (h0 : zDy σ τ σ0 τ0 n kd) : ∃ w σ' τ', L_X5_firstWrong_14 (2 + k) (nI i0) (nI N) (nI 0) σ0 = some (w, σ') ∧ M_X6_goDay (nI (60 * k + i0)) (nI N) τ0 = some (w, τ') ∧ zDy σ τ σ' τ' n kd := by
  unfold L_X5_firstWrong_14 M_X6_goDay L_X6_goDay_2
  have := zloop_two (F := (fun (rec : Int32 × zSt → Option (Int32 × zSt)) x => B_X5_firstWrong_14 (2 + k) (nI i0) (nI N)  (fun v4 σ => rec (v4, σ)) x.1 x.2)) (G := (fun (rec : Int32 × zSt → Option (Int32 × zSt)) x => B_X6_goDay_2 (nI (60 * k + i0)) (nI N)  (fun v3 σ => rec (v3, σ)) x.1 x.2)) (I := fun x y => ∃ j, j ≤ N ∧ x.1 = nI j ∧ y.1 = nI j ∧ zDy σ τ x.2 y.2 n kd) (μ := fun x => N - x.1.toNatClampNeg) (Po := fun o o' => o.1 = o'.1 ∧ zDy σ τ o.2 o'.2 n kd) ?_ zFU zFU (nI 0, σ0) (nI 0, τ0) ⟨0, by omega, rfl, rfl, h0⟩ (by have := zFU_ge; show N - _ < _; omega) (by have := zFU_ge; show N - _ < _; omega)
  · obtain ⟨⟨w, σ'⟩, ⟨w', τ'⟩, o1, o2, o3, o4⟩ := this
    dsimp only at o3 o4
    subst o3
    exact ⟨w, σ', τ', o1, o2, o4⟩
  rintro rf rg ⟨x, σk⟩ ⟨y, τk⟩ ⟨j, hj, e1, e2, hD⟩ ih
  dsimp only at e1 e2 hD ih ⊢
  subst e1 e2
  by_cases hjN : j = N
  · subst hjN
    refine ⟨(-nI 9, σk), (-nI 9, τk), ?_, ?_, rfl, hD⟩
    · unfold B_X5_firstWrong_14
      simp (disch := omega) only [↓reduceIte, ↓znm, ↓zbd_some, ↓zbv_some, ↓zga_in, ↓zgs_in, ↓zgr_in, zga_in, zgs_in, zgr_in, zgz_n0, zgz_n1, zlit, nI_add, pk_mul, pk_sub, znI_or, znI_and, znI_df, zon_ok, zbt_ok, zlt_t, zlt_f, zle_t, zle_f, zeq_f]
    · unfold B_X6_goDay_2
      simp (disch := omega) only [↓reduceIte, ↓znm, ↓zbd_some, ↓zbv_some, ↓zga_in, ↓zgs_in, ↓zgr_in, zga_in, zgs_in, zgr_in, zgz_n0, zgz_n1, zlit, nI_add, pk_mul, pk_sub, znI_or, znI_and, znI_df, zon_ok, zbt_ok, zlt_t, zlt_f, zle_t, zle_f, zeq_f]
  · obtain ⟨-, -, -, -, -, -, -, -, h6, h7⟩ := id hD
    have l1 : σk (2 + k) 2 = nI len := by rw [h6 _ (by omega)]; exact hl
    have c1 := at_ok (i := i0 + 2 * j) l1 hlen (by omega)
    have c2 := at_ok (i := i0 + 2 * j + 1) l1 hlen (by omega)
    rw [h6 _ (by omega), show 2 + k + 4 = 6 + k by omega, hc _ (by omega), ← Nat.add_assoc] at c1
    rw [h6 _ (by omega), show 2 + k + 4 = 6 + k by omega, hc _ (by omega), ← Nat.add_assoc, ← Nat.add_assoc] at c2
    have t3 : τk 3 = τ 3 := h7 3 (by decide) (by decide)
    obtain ⟨r, σ', τ', r1, r2, r3, r4⟩ := tried_ok hD (hr j (by omega))
    have c3 : zga (τk 3) (nI (60 * k + i0 + 2 * j)) 240 = fun K : Int32 → Option (Int32 × zSt) => K (τ 3 (60 * k + i0 + 2 * j)) := by
      funext K
      rw [zga_in (by omega) (by omega), t3]
    have c4 : zga (τk 3) (nI (60 * k + i0 + 2 * j + 1)) 240 = fun K : Int32 → Option (Int32 × zSt) => K (τ 3 (60 * k + i0 + 2 * j + 1)) := by
      funext K
      rw [zga_in (by omega) (by omega), t3]
    rcases (by omega : r = 0 ∨ r = 1) with rfl | rfl
    · refine ⟨(nI j, σ'), (nI j, τ'), ?_, ?_, rfl, r4⟩
      · unfold B_X5_firstWrong_14
        simp (disch := omega) only [↓reduceIte, ↓znm, ↓zbd_some, ↓zbv_some, ↓zga_in, ↓zgs_in, ↓zgr_in, zga_in, zgs_in, zgr_in, zgz_n0, zgz_n1, zlit, nI_add, pk_mul, pk_sub, znI_or, znI_and, znI_df, zon_ok, zbt_ok, zlt_t, zlt_f, zle_t, zle_f, zeq_f, ↓zbd_of c1, ↓zbd_of c2, ↓zbd_of r2]
      · unfold B_X6_goDay_2
        simp (disch := omega) only [↓reduceIte, ↓znm, ↓zbd_some, ↓zbv_some, ↓zga_in, ↓zgs_in, ↓zgr_in, zga_in, zgs_in, zgr_in, zgz_n0, zgz_n1, zlit, nI_add, pk_mul, pk_sub, znI_or, znI_and, znI_df, zon_ok, zbt_ok, zlt_t, zlt_f, zle_t, zle_f, zeq_f, t3, ↓zbd_of r3]
    · have a1 : B_X5_firstWrong_14 (2 + k) (nI i0) (nI N) (fun v4 σ => rf (v4, σ)) (nI j) σk = rf (nI (j + 1), σ') := by
        unfold B_X5_firstWrong_14
        simp (disch := omega) only [↓reduceIte, ↓znm, ↓zbd_some, ↓zbv_some, ↓zga_in, ↓zgs_in, ↓zgr_in, zga_in, zgs_in, zgr_in, zgz_n0, zgz_n1, zlit, nI_add, pk_mul, pk_sub, znI_or, znI_and, znI_df, zon_ok, zbt_ok, zlt_t, zlt_f, zle_t, zle_f, zeq_f, ↓zbd_of c1, ↓zbd_of c2, ↓zbd_of r2]
      have a2 : B_X6_goDay_2 (nI (60 * k + i0)) (nI N) (fun v3 σ => rg (v3, σ)) (nI j) τk = rg (nI (j + 1), τ') := by
        unfold B_X6_goDay_2
        simp (disch := omega) only [↓reduceIte, ↓znm, ↓zbd_some, ↓zbv_some, ↓zga_in, ↓zgs_in, ↓zgr_in, zga_in, zgs_in, zgr_in, zgz_n0, zgz_n1, zlit, nI_add, pk_mul, pk_sub, znI_or, znI_and, znI_df, zon_ok, zbt_ok, zlt_t, zlt_f, zle_t, zle_f, zeq_f, t3, ↓zbd_of r3]
      rw [a1, a2]
      refine ih _ _ ⟨j + 1, by omega, rfl, rfl, r4⟩ ?_
      show N - (nI (j + 1)).toNatClampNeg < N - (nI j).toNatClampNeg
      rw [nI_clamp (by omega), nI_clamp (by omega)]
      omega
theorem zRel.day {σ τ σ' τ' : zSt} {n : Nat} {kd ld tw : Nat → Nat} {d : Nat → Nat → Nat} (hV : zRV σ τ n kd ld tw d) (hR : zRR σ τ n) (hS : zRS σ τ) (hI : zRI σ τ) (hd : ∀ p, p < 8 → σ (19 + p) p = nI 0) (h1 : ∀ c, c < 27 ∨ 44 ≤ c → σ' c = σ c) (h2 : zVM τ' n kd ld tw) (h3 : ∀ c, c ≤ 3 ∨ 18 ≤ c → τ' c = τ c) : zRel σ' τ' := by
  obtain ⟨a1, a2, a3, a4, a5, a6⟩ := hV
  have hn := a3.1
  refine ⟨⟨n, kd, ld, tw, d, ⟨⟨?_, fun p hp => ?_⟩, h2, a3, fun p hp q hq => ?_, a5, a6⟩, ?_⟩, fun k hk => ?_, ?_, fun p hp => ?_⟩
  · rw [h1 10 (by decide)]; exact a1.1
  · have := a1.2 p hp
    rw [h1 (10 + 1) (by decide), h1 (10 + 2) (by decide), h1 (10 + 3) (by decide)]; exact this
  · rw [h1 (10 + 9 + p) (by omega)]; exact a4 p hp q hq
  · obtain ⟨c, c1, c2, c3, c4⟩ := hR
    refine ⟨c, c1, ?_, ?_, fun i hi => ?_⟩
    · rw [h1 47 (by decide)]; exact c2
    · rw [h3 0 (by decide)]; exact c3
    · have := c4 i hi
      rw [h1 48 (by decide), h1 49 (by decide), h1 50 (by decide), h3 18 (by decide), h3 19 (by decide), h3 20 (by decide)]
      exact this
  · have := hS k hk
    unfold zR1 at this ⊢
    rw [h1 (2 + k) (by omega), h1 (6 + k) (by omega), h3 1 (by decide), h3 2 (by decide), h3 3 (by decide)]
    exact this
  · obtain ⟨i1, i2, i3⟩ := hI
    refine ⟨?_, ?_, ?_⟩
    · rw [h1 0 (by decide), h3 0 (by decide)]; exact i1
    · rw [h1 0 (by decide), h3 0 (by decide)]; exact i2
    · rw [h1 0 (by decide), h3 0 (by decide)]; exact i3
  · rw [h1 (19 + p) (by omega)]; exact hd p hp
theorem isOfDay_yes {j : Nat} (hj : j ≤ 4 ∨ 10 ≤ j) (hj2 : j < 18) (σ : zSt) : M_X5_isOfDay (nI j) σ = some (nI 1, σ) := by
  unfold M_X5_isOfDay B_X5_isOfDay_9 B_X5_isOfDay_21
  rcases hj with h | h
  · simp (disch := omega) only [↓reduceIte, ↓znm, ↓zbd_some, ↓zbv_some, ↓zga_in, ↓zgs_in, ↓zgr_in, zga_in, zgs_in, zgr_in, zgz_n0, zgz_n1, zlit, nI_add, pk_mul, pk_sub, znI_or, znI_and, znI_df, zon_ok, zbt_ok, zlt_t, zlt_f, zle_t, zle_f, zeq_f]
  · simp (disch := omega) only [↓reduceIte, ↓znm, ↓zbd_some, ↓zbv_some, ↓zga_in, ↓zgs_in, ↓zgr_in, zga_in, zgs_in, zgr_in, zgz_n0, zgz_n1, zlit, nI_add, pk_mul, pk_sub, znI_or, znI_and, znI_df, zon_ok, zbt_ok, zlt_t, zlt_f, zle_t, zle_f, zeq_f]
theorem sim_day (p1 p2 p3 p4 p5 : Int32) : zSim (M_X5_day p1 p2 p3 p4 p5) (M_X6_day p1 p2 p3 p4 p5) := by
  intro σ τ h0
  have h := h0.fault (nI 0)
  unfold M_X5_day M_X6_day
  simp only [znm, zlit]
  generalize zsu σ 0 (upd (σ 0) 7 (nI 0)) = σ at h ⊢
  generalize zsu τ 0 (upd (τ 0) 0 (nI 0)) = τ at h ⊢
  rcases zcase p1 4 (by decide) with hp | ⟨k, hk, rfl⟩
  · refine ⟨-nI 1, σ, τ, ?_, ?_, h⟩
    · simp (disch := omega) only [↓reduceIte, ↓znm, ↓zbd_some, ↓zbv_some, ↓zga_in, ↓zgs_in, ↓zgr_in, zga_in, zgs_in, zgr_in, zgz_n0, zgz_n1, zlit, nI_add, pk_mul, pk_sub, znI_or, znI_and, znI_df, zon_ok, zbt_ok, zlt_t, zlt_f, zle_t, zle_f, zeq_f, ↓zbd_of (isSheet_no hp σ).1]
    · simp (disch := omega) only [↓reduceIte, ↓znm, ↓zbd_some, ↓zbv_some, ↓zga_in, ↓zgs_in, ↓zgr_in, zga_in, zgs_in, zgr_in, zgz_n0, zgz_n1, zlit, nI_add, pk_mul, pk_sub, znI_or, znI_and, znI_df, zon_ok, zbt_ok, zlt_t, zlt_f, zle_t, zle_f, zeq_f, ↓zbd_of (isSheet_no hp τ).2]
  have u1 := (isSheet_yes hk σ).1
  have u2 := (isSheet_yes hk τ).2
  rcases zcase p2 3 (by decide) with hl | ⟨m, hm, rfl⟩
  · refine ⟨-nI 2, σ, τ, ?_, ?_, h⟩
    · simp (disch := omega) only [↓reduceIte, ↓znm, ↓zbd_some, ↓zbv_some, ↓zga_in, ↓zgs_in, ↓zgr_in, zga_in, zgs_in, zgr_in, zgz_n0, zgz_n1, zlit, nI_add, pk_mul, pk_sub, znI_or, znI_and, znI_df, zon_ok, zbt_ok, zlt_t, zlt_f, zle_t, zle_f, zeq_f, ↓zbd_of u1, ↓zbd_of (isLane_no hl σ).1]
    · simp (disch := omega) only [↓reduceIte, ↓znm, ↓zbd_some, ↓zbv_some, ↓zga_in, ↓zgs_in, ↓zgr_in, zga_in, zgs_in, zgr_in, zgz_n0, zgz_n1, zlit, nI_add, pk_mul, pk_sub, znI_or, znI_and, znI_df, zon_ok, zbt_ok, zlt_t, zlt_f, zle_t, zle_f, zeq_f, ↓zbd_of u2, ↓zbd_of (isLane_no hl τ).2]
  have w1 := (isLane_yes hm σ).1
  have w2 := (isLane_yes hm τ).2
  rcases zix p4 (n := 21) (by decide) with c | c | ⟨N, hN, rfl⟩
  · refine ⟨-nI 2, σ, τ, ?_, ?_, h⟩
    · simp (disch := omega) only [↓reduceIte, ↓znm, ↓zbd_some, ↓zbv_some, ↓zga_in, ↓zgs_in, ↓zgr_in, zga_in, zgs_in, zgr_in, zgz_n0, zgz_n1, zlit, nI_add, pk_mul, pk_sub, znI_or, znI_and, znI_df, zon_ok, zbt_ok, zlt_t, zlt_f, zle_t, zle_f, zeq_f, ↓zbd_of u1, ↓zbd_of w1, zneg_lt c]
    · simp (disch := omega) only [↓reduceIte, ↓znm, ↓zbd_some, ↓zbv_some, ↓zga_in, ↓zgs_in, ↓zgr_in, zga_in, zgs_in, zgr_in, zgz_n0, zgz_n1, zlit, nI_add, pk_mul, pk_sub, znI_or, znI_and, znI_df, zon_ok, zbt_ok, zlt_t, zlt_f, zle_t, zle_f, zeq_f, ↓zbd_of u2, ↓zbd_of w2, M_X6_within, zneg_lt c]
  · refine ⟨-nI 2, σ, τ, ?_, ?_, h⟩
    · simp (disch := omega) only [↓reduceIte, ↓znm, ↓zbd_some, ↓zbv_some, ↓zga_in, ↓zgs_in, ↓zgr_in, zga_in, zgs_in, zgr_in, zgz_n0, zgz_n1, zlit, nI_add, pk_mul, pk_sub, znI_or, znI_and, znI_df, zon_ok, zbt_ok, zlt_t, zlt_f, zle_t, zle_f, zeq_f, ↓zbd_of u1, ↓zbd_of w1, zbig_lt (by decide) c, zbig_gt (by decide) c]
    · simp (disch := omega) only [↓reduceIte, ↓znm, ↓zbd_some, ↓zbv_some, ↓zga_in, ↓zgs_in, ↓zgr_in, zga_in, zgs_in, zgr_in, zgz_n0, zgz_n1, zlit, nI_add, pk_mul, pk_sub, znI_or, znI_and, znI_df, zon_ok, zbt_ok, zlt_t, zlt_f, zle_t, zle_f, zeq_f, ↓zbd_of u2, ↓zbd_of w2, M_X6_within, zbig_lt (by decide) c, zbig_gt (by decide) c]
  have hoff : (p5 < 0 ∨ nI 18 ≤ p5 ∨ ∃ j, 5 ≤ j ∧ j < 10 ∧ p5 = nI j) ∨ ∃ j, (j ≤ 4 ∨ 10 ≤ j) ∧ j < 18 ∧ p5 = nI j := by
    rcases zix p5 (n := 18) (by decide) with c | c | ⟨j, hj, rfl⟩
    · exact Or.inl (Or.inl c)
    · exact Or.inl (Or.inr (Or.inl c))
    · by_cases e : 5 ≤ j ∧ j < 10
      · exact Or.inl (Or.inr (Or.inr ⟨j, e.1, e.2, rfl⟩))
      · exact Or.inr ⟨j, by omega, hj, rfl⟩
  rcases hoff with hc | ⟨j, hj, hj2, rfl⟩
  · refine ⟨-nI 2, σ, τ, ?_, ?_, h⟩
    · rcases hc with c | c | ⟨j, j1, j2, rfl⟩
      · simp (disch := omega) only [↓reduceIte, ↓znm, ↓zbd_some, ↓zbv_some, ↓zga_in, ↓zgs_in, ↓zgr_in, zga_in, zgs_in, zgr_in, zgz_n0, zgz_n1, zlit, nI_add, pk_mul, pk_sub, znI_or, znI_and, znI_df, zon_ok, zbt_ok, zlt_t, zlt_f, zle_t, zle_f, zeq_f, ↓zbd_of u1, ↓zbd_of w1, M_X5_isOfDay, B_X5_isOfDay_9, B_X5_isOfDay_21, zneg_lt c]
      · simp (disch := omega) only [↓reduceIte, ↓znm, ↓zbd_some, ↓zbv_some, ↓zga_in, ↓zgs_in, ↓zgr_in, zga_in, zgs_in, zgr_in, zgz_n0, zgz_n1, zlit, nI_add, pk_mul, pk_sub, znI_or, znI_and, znI_df, zon_ok, zbt_ok, zlt_t, zlt_f, zle_t, zle_f, zeq_f, ↓zbd_of u1, ↓zbd_of w1, M_X5_isOfDay, B_X5_isOfDay_9, B_X5_isOfDay_21, zbig_lt (by decide) c, zbig_le (by decide) c, zbig_ge (by decide) c]
      · simp (disch := omega) only [↓reduceIte, ↓znm, ↓zbd_some, ↓zbv_some, ↓zga_in, ↓zgs_in, ↓zgr_in, zga_in, zgs_in, zgr_in, zgz_n0, zgz_n1, zlit, nI_add, pk_mul, pk_sub, znI_or, znI_and, znI_df, zon_ok, zbt_ok, zlt_t, zlt_f, zle_t, zle_f, zeq_f, ↓zbd_of u1, ↓zbd_of w1, M_X5_isOfDay, B_X5_isOfDay_9, B_X5_isOfDay_21]
    · rcases hc with c | c | ⟨j, j1, j2, rfl⟩
      · simp (disch := omega) only [↓reduceIte, ↓znm, ↓zbd_some, ↓zbv_some, ↓zga_in, ↓zgs_in, ↓zgr_in, zga_in, zgs_in, zgr_in, zgz_n0, zgz_n1, zlit, nI_add, pk_mul, pk_sub, znI_or, znI_and, znI_df, zon_ok, zbt_ok, zlt_t, zlt_f, zle_t, zle_f, zeq_f, ↓zbd_of u2, ↓zbd_of w2, M_X6_within, zneg_lt c]
      · simp (disch := omega) only [↓reduceIte, ↓znm, ↓zbd_some, ↓zbv_some, ↓zga_in, ↓zgs_in, ↓zgr_in, zga_in, zgs_in, zgr_in, zgz_n0, zgz_n1, zlit, nI_add, pk_mul, pk_sub, znI_or, znI_and, znI_df, zon_ok, zbt_ok, zlt_t, zlt_f, zle_t, zle_f, zeq_f, ↓zbd_of u2, ↓zbd_of w2, M_X6_within, zbig_lt (by decide) c, zbig_gt (by decide) c]
      · simp (disch := omega) only [↓reduceIte, ↓znm, ↓zbd_some, ↓zbv_some, ↓zga_in, ↓zgs_in, ↓zgr_in, zga_in, zgs_in, zgr_in, zgz_n0, zgz_n1, zlit, nI_add, pk_mul, pk_sub, znI_or, znI_and, znI_df, zon_ok, zbt_ok, zlt_t, zlt_f, zle_t, zle_f, zeq_f, ↓zbd_of u2, ↓zbd_of w2, M_X6_within]
  have o1 := isOfDay_yes hj hj2 σ
  have hw : M_X6_within (nI N) (nI 0) (nI 20) τ = some (nI 1, τ) := by
    unfold M_X6_within
    simp (disch := omega) only [↓reduceIte, ↓znm, ↓zbd_some, ↓zbv_some, ↓zga_in, ↓zgs_in, ↓zgr_in, zga_in, zgs_in, zgr_in, zgz_n0, zgz_n1, zlit, nI_add, pk_mul, pk_sub, znI_or, znI_and, znI_df, zon_ok, zbt_ok, zlt_t, zlt_f, zle_t, zle_f, zeq_f]
  have hm6 : ∀ r, B_X6_day_57 (nI k) (nI m) p3 (nI N) (nI j) τ = r → zbd (M_X6_within (nI j) (nI 0) (nI 4) τ) (fun x9 σ8 => (if x9 = nI 0 then zbd (M_X6_within (nI j) (nI 10) (nI 17) σ8) (fun x11 σ10 => (if x11 = nI 0 then some (-nI 2, σ10) else B_X6_day_57 (nI k) (nI m) p3 (nI N) (nI j) σ10)) else B_X6_day_57 (nI k) (nI m) p3 (nI N) (nI j) σ8)) = r := by
    intro r hr
    unfold M_X6_within
    rcases hj with e | e
    · simp (disch := omega) only [↓reduceIte, ↓znm, ↓zbd_some, ↓zbv_some, ↓zga_in, ↓zgs_in, ↓zgr_in, zga_in, zgs_in, zgr_in, zgz_n0, zgz_n1, zlit, nI_add, pk_mul, pk_sub, znI_or, znI_and, znI_df, zon_ok, zbt_ok, zlt_t, zlt_f, zle_t, zle_f, zeq_f]
      exact hr
    · simp (disch := omega) only [↓reduceIte, ↓znm, ↓zbd_some, ↓zbv_some, ↓zga_in, ↓zgs_in, ↓zgr_in, zga_in, zgs_in, zgr_in, zgz_n0, zgz_n1, zlit, nI_add, pk_mul, pk_sub, znI_or, znI_and, znI_df, zon_ok, zbt_ok, zlt_t, zlt_f, zle_t, zle_f, zeq_f]
      exact hr
  have n2 : (nI 2 * nI N : Int32) = nI (2 * N) := by rw [pk_mul]
  rcases h.2.1 k hk with ⟨a1, a2⟩ | ⟨ln, len, t1, t2, t3, t4, t5, t6, t7⟩
  · refine ⟨-10 - nI 1, _, _, ?_, ?_, h.fault (nI 1)⟩
    · unfold B_X5_day_81
      simp (disch := omega) only [↓reduceIte, ↓znm, ↓zbd_some, ↓zbv_some, ↓zga_in, ↓zgs_in, ↓zgr_in, zga_in, zgs_in, zgr_in, zgz_n0, zgz_n1, zlit, nI_add, pk_mul, pk_sub, znI_or, znI_and, znI_df, zon_ok, zbt_ok, zlt_t, zlt_f, zle_t, zle_f, zeq_f, ↓zbd_of u1, ↓zbd_of w1, ↓zbd_of o1, ↓zbd_of (faultAs_null a1 (nI m)), ↓zbd_of (faulted_ok (nI 1) σ)]
    · simp (disch := omega) only [↓reduceIte, ↓znm, ↓zbd_some, ↓zbv_some, ↓zga_in, ↓zgs_in, ↓zgr_in, zga_in, zgs_in, zgr_in, zgz_n0, zgz_n1, zlit, nI_add, pk_mul, pk_sub, znI_or, znI_and, znI_df, zon_ok, zbt_ok, zlt_t, zlt_f, zle_t, zle_f, zeq_f, ↓zbd_of u2, ↓zbd_of w2, ↓zbd_of hw]
      refine hm6 _ ?_
      unfold B_X6_day_57
      simp (disch := omega) only [↓reduceIte, ↓znm, ↓zbd_some, ↓zbv_some, ↓zga_in, ↓zgs_in, ↓zgr_in, zga_in, zgs_in, zgr_in, zgz_n0, zgz_n1, zlit, nI_add, pk_mul, pk_sub, znI_or, znI_and, znI_df, zon_ok, zbt_ok, zlt_t, zlt_f, zle_t, zle_f, zeq_f, ↓zbd_of (against_null hk a2 (nI m) p3 (nI (2 * N))), ↓zbd_of (fails_ok (nI 1) τ)]
  by_cases hlm : ln = m
  · subst hlm
    have fa := faultAs_ok t3 t1 hm
    rw [if_pos rfl] at fa
    have z2N : (nI (2 * N)).toInt = ((2 * N : Nat) : Int) := zti (by omega)
    by_cases hg : zgd len p3 (nI (2 * N))
    · have hh := (has_ok t5 t2 p3 (nI (2 * N))).1 hg
      have ga := (against_ok hk t4 t1 t6 t2 p3 (nI (2 * N)) (by rw [z2N]; omega)).1 hg
      obtain ⟨i0, hi0, rfl⟩ : ∃ i0, i0 ≤ len ∧ p3 = nI i0 := by
        obtain ⟨g1, g2, g3, g4⟩ := hg
        rcases zix p3 (n := len + 1) (by omega) with c | c | ⟨i0, hi, rfl⟩
        · rw [zltI] at c
          have : (0 : Int32).toInt = 0 := rfl
          omega
        · rw [zleI', zti (by omega)] at c
          omega
        · exact ⟨i0, by omega, rfl⟩
      have hiN : i0 + 2 * N ≤ len := by
        have := hg.2.2.2
        rw [z2N, zti (by omega)] at this
        omega
      obtain ⟨⟨n, kd, ld, tw, d, hV, hR⟩, hS, hI, hd⟩ := id h
      obtain ⟨h1, h2, h3, h4, h5, h6⟩ := id hV
      have hn := h3.1
      by_cases hz : n = 0
      · subst hz
        refine ⟨-nI 3, σ, τ, ?_, ?_, h⟩
        · unfold B_X5_day_81
          simp (disch := omega) only [↓reduceIte, ↓znm, ↓zbd_some, ↓zbv_some, ↓zga_in, ↓zgs_in, ↓zgr_in, zga_in, zgs_in, zgr_in, zgz_n0, zgz_n1, zlit, nI_add, pk_mul, pk_sub, znI_or, znI_and, znI_df, zon_ok, zbt_ok, zlt_t, zlt_f, zle_t, zle_f, zeq_f, ↓zbd_of u1, ↓zbd_of w1, ↓zbd_of o1, ↓zbd_of fa, ↓zbd_of hh, h1.1]
        · simp (disch := omega) only [↓reduceIte, ↓znm, ↓zbd_some, ↓zbv_some, ↓zga_in, ↓zgs_in, ↓zgr_in, zga_in, zgs_in, zgr_in, zgz_n0, zgz_n1, zlit, nI_add, pk_mul, pk_sub, znI_or, znI_and, znI_df, zon_ok, zbt_ok, zlt_t, zlt_f, zle_t, zle_f, zeq_f, ↓zbd_of u2, ↓zbd_of w2, ↓zbd_of hw]
          refine hm6 _ ?_
          unfold B_X6_day_57
          simp (disch := omega) only [↓reduceIte, ↓znm, ↓zbd_some, ↓zbv_some, ↓zga_in, ↓zgs_in, ↓zgr_in, zga_in, zgs_in, zgr_in, zgz_n0, zgz_n1, zlit, nI_add, pk_mul, pk_sub, znI_or, znI_and, znI_df, zon_ok, zbt_ok, zlt_t, zlt_f, zle_t, zle_f, zeq_f, ↓zbd_of ga, h2.1]
      have hn2 : 2 ≤ n := h5.resolve_left hz
      -- the class's and the reference's ways down to the pairs
      have toX : ∀ r, (zbd (M_X5_refusalOfPairs (2 + k) (nI i0) (nI N) σ) (fun x15 σ14 => (if x15 = nI 0 then zbd (M_X5_firstWrong (2 + k) (nI i0) (nI N) σ14) (fun x17 σ16 => (if nI j = nI 1 then some (x17, σ16) else (if x17 = -nI 9 then zbd (M_X5_ofTrial (nI j) σ16) (fun x19 σ18 => some (x19, σ18)) else some ((-nI 100 - x17), σ16)))) else some (x15, σ14)))) = r → (zbd (M_X5_isSheet (nI k) σ) fun x3 σ2 => if x3 = nI 0 then some (-nI 1, σ2) else zbd (M_X5_isLane (nI ln) σ2) fun x5 σ4 => if x5 = nI 0 then some (-nI 2, σ4) else if nI N < nI 0 then some (-nI 2, σ4) else if nI 20 < nI N then some (-nI 2, σ4) else zbd (M_X5_isOfDay (nI j) σ4) fun x7 σ6 => if x7 = nI 0 then some (-nI 2, σ6) else zgr (nI k) 4 2 fun q8 => zbd (M_X2_faultAs q8 (nI ln) σ6) fun x10 σ9 => if x10 = nI 0 then zbd (M_X2_has q8 (nI i0) (nI 2 * nI N) σ9) fun x12 σ11 => if x12 = nI 0 then B_X5_day_81 (nI k) (nI ln) (nI i0) (nI N) (nI j) q8 (nI 3) σ11 else B_X5_day_81 (nI k) (nI ln) (nI i0) (nI N) (nI j) q8 x10 σ11 else B_X5_day_81 (nI k) (nI ln) (nI i0) (nI N) (nI j) q8 x10 σ9) = r := by
        intro r hr
        unfold B_X5_day_81
        simp (disch := omega) only [↓reduceIte, ↓znm, ↓zbd_some, ↓zbv_some, ↓zga_in, ↓zgs_in, ↓zgr_in, zga_in, zgs_in, zgr_in, zgz_n0, zgz_n1, zlit, nI_add, pk_mul, pk_sub, znI_or, znI_and, znI_df, zon_ok, zbt_ok, zlt_t, zlt_f, zle_t, zle_f, zeq_f, ↓zbd_of u1, ↓zbd_of w1, ↓zbd_of o1, ↓zbd_of fa, ↓zbd_of hh, h1.1]
        exact hr
      have toM : ∀ r, L_X6_day_103 (nI k) (nI ln) (nI i0) (nI N) (nI j) (nI (60 * k + i0)) (nI 0) τ = r → (zbd (M_X6_isSheet (nI k) τ) fun x3 σ2 => if x3 = nI 0 then some (-nI 1, σ2) else zbd (M_X6_isSort (nI ln) σ2) fun x5 σ4 => if x5 = nI 0 then some (-nI 2, σ4) else zbd (M_X6_within (nI N) (nI 0) (nI 20) σ4) fun x7 σ6 => if x7 = nI 0 then some (-nI 2, σ6) else zbd (M_X6_within (nI j) (nI 0) (nI 4) σ6) fun x9 σ8 => if x9 = nI 0 then zbd (M_X6_within (nI j) (nI 10) (nI 17) σ8) fun x11 σ10 => if x11 = nI 0 then some (-nI 2, σ10) else B_X6_day_57 (nI k) (nI ln) (nI i0) (nI N) (nI j) σ10 else B_X6_day_57 (nI k) (nI ln) (nI i0) (nI N) (nI j) σ8) = r := by
        intro r hr
        simp (disch := omega) only [↓reduceIte, ↓znm, ↓zbd_some, ↓zbv_some, ↓zga_in, ↓zgs_in, ↓zgr_in, zga_in, zgs_in, zgr_in, zgz_n0, zgz_n1, zlit, nI_add, pk_mul, pk_sub, znI_or, znI_and, znI_df, zon_ok, zbt_ok, zlt_t, zlt_f, zle_t, zle_f, zeq_f, ↓zbd_of u2, ↓zbd_of w2, ↓zbd_of hw]
        refine hm6 _ ?_
        unfold B_X6_day_57
        simp (disch := omega) only [↓reduceIte, ↓znm, ↓zbd_some, ↓zbv_some, ↓zga_in, ↓zgs_in, ↓zgr_in, zga_in, zgs_in, zgr_in, zgz_n0, zgz_n1, zlit, nI_add, pk_mul, pk_sub, znI_or, znI_and, znI_df, zon_ok, zbt_ok, zlt_t, zlt_f, zle_t, zle_f, zeq_f, ↓zbd_of ga, h2.1]
        exact hr
      have hq : ∀ e, ∃ r, M_X5_refusalOfPair (τ 3 (60 * k + i0 + 2 * e)) (τ 3 (60 * k + i0 + 2 * e + 1)) σ = some (r, σ) ∧ M_X6_refusesPair (τ 3 (60 * k + i0 + 2 * e)) (τ 3 (60 * k + i0 + 2 * e + 1)) τ = some (r, τ) ∧ (r = nI 0 → (∃ q j, q < 8 ∧ j < n ∧ τ 3 (60 * k + i0 + 2 * e + 1) = nI q ∧ τ 3 (60 * k + i0 + 2 * e) = nI j) ∨ (∃ q v, q < 8 ∧ v ≤ 9 ∧ τ 3 (60 * k + i0 + 2 * e + 1) = nI (10 + q) ∧ τ 3 (60 * k + i0 + 2 * e) = nI v)) := fun e => refuse_ok hn h1.1 h2.1 _ _
      obtain ⟨ρ, hρ⟩ := Classical.axiomOfChoice hq
      have rX := refusalsX_ok (σ := σ) (q := 2 + k) (i0 := i0) (N := N) (by omega) (by omega) (X := fun e => τ 3 (60 * k + i0 + 2 * e)) (Y := fun e => τ 3 (60 * k + i0 + 2 * e + 1)) (ρ := ρ) (fun e he => by
        have c1 := at_ok (i := i0 + 2 * e) t5 t2 (by omega)
        have c2 := at_ok (i := i0 + 2 * e + 1) t5 t2 (by omega)
        rw [show 2 + k + 4 = 6 + k by omega, t7 _ (by omega), ← Nat.add_assoc] at c1
        rw [show 2 + k + 4 = 6 + k by omega, t7 _ (by omega), ← Nat.add_assoc, ← Nat.add_assoc] at c2
        exact ⟨c1, c2⟩) (fun e => (hρ e).1)
      have rM := refusalsM_ok (τ := τ) (i1 := 60 * k + i0) (N := N) (by omega) (by omega) (ρ := ρ) (fun e => (hρ e).2.1) (nI k) (nI ln) (nI i0) (nI j)
      rcases zfirst (fun e => ¬ ρ e = nI 0) N with ⟨e, e1, e2, e3⟩ | hno
      · have hb : ∀ i, i < e → ρ i = nI 0 := fun i hi => Classical.not_not.mp (e3 i hi)
        have n1 := eq_false e2
        refine ⟨ρ e, σ, τ, toX _ ?_, toM _ (rM.1 e e1 e2 hb), h⟩
        simp (disch := omega) only [↓reduceIte, ↓znm, ↓zbd_some, ↓zbv_some, ↓zga_in, ↓zgs_in, ↓zgr_in, zga_in, zgs_in, zgr_in, zgz_n0, zgz_n1, zlit, nI_add, pk_mul, pk_sub, znI_or, znI_and, znI_df, zon_ok, zbt_ok, zlt_t, zlt_f, zle_t, zle_f, zeq_f, ↓zbd_of (rX.1 e e1 e2 hb), n1]
      have hb : ∀ i, i < N → ρ i = nI 0 := fun i hi => Classical.not_not.mp (hno i hi)
      have kV : zVM (zp2 τ 13 14 tw ld n) n kd ld tw := by
        refine ⟨by rw [zp2_c (by decide) (by decide)]; exact h2.1, fun p hp => ?_⟩
        rw [zp2_c (show 5 ≠ 13 by decide) (by decide), zp2_c (show 6 ≠ 13 by decide) (by decide), zp2_c (show 4 ≠ 13 by decide) (by decide)]
        exact h2.2 p hp
      have hDs : zDy σ (zp2 τ 13 14 tw ld n) (zbc σ n n) (zp2 τ 13 14 tw ld n) n kd := zDy.start h1 kV h3 h4 h6 (fun c _ _ => rfl)
      have p3' : zp2 τ 13 14 tw ld n 3 = τ 3 := zp2_c (by decide) (by decide)
      obtain ⟨w, σ1, τ1, g1, g2, g3⟩ := goDay_ok (σ := σ) (τ := zp2 τ 13 14 tw ld n) (n := n) (k := k) (len := len) (i0 := i0) (N := N) (kd := kd) hk t2 hiN (by omega) t5 (fun i hi => by rw [p3']; exact t7 i hi) (fun e he => by rw [p3']; exact (hρ e).2.2 (hb e he)) _ _ hDs
      obtain ⟨t, σ2, τ2, d1, d2, d3, d4⟩ := g3.tell hn2 hj hj2
      have r1 := restore_ok (τ := τ2) (n := n) (ld := ld) (tw := tw) hn (by rw [d4 0 (by decide) (by decide) (by decide) (by decide) (by decide)]; exact kV.1) (fun p hp => by rw [d4 13 (by decide) (by decide) (by decide) (by decide) (by decide)]; exact zp2_1 hp) (fun p hp => by rw [d4 14 (by decide) (by decide) (by decide) (by decide) (by decide)]; exact zp2_2 (by decide) hp) (nI k) (nI ln) (nI i0) (nI N) (nI j) w t
      have fV : zVM (zp2 τ2 4 6 tw ld n) n kd ld tw := by
        refine ⟨by rw [zp2_c (by decide) (by decide), d4 0 (by decide) (by decide) (by decide) (by decide) (by decide)]; exact kV.1, fun p hp => ⟨?_, zp2_2 (by decide) hp, zp2_1 hp⟩⟩
        rw [zp2_c (by decide) (by decide), d4 5 (by decide) (by decide) (by decide) (by decide) (by decide)]
        exact (kV.2 p hp).1
      have fR : ∀ σ', (∀ c, c < 27 ∨ 44 ≤ c → σ' c = σ c) → zRel σ' (zp2 τ2 4 6 tw ld n) := fun σ' hσ' => zRel.day hV hR hS hI hd hσ' fV (fun c hc => by
        rw [zp2_c (by omega) (by omega), d4 c (by omega) (by omega) (by omega) (by omega) (by omega), zp2_c (by omega) (by omega)])
      obtain ⟨-, -, -, -, -, -, -, -, s6, s7⟩ := id g3
      have mid : L_X6_day_103 (nI k) (nI ln) (nI i0) (nI N) (nI j) (nI (60 * k + i0)) (nI 0) τ = (if nI j = nI 1 then some (w, zp2 τ2 4 6 tw ld n) else if w = -nI 9 then some (t, zp2 τ2 4 6 tw ld n) else some (-nI 100 - w, zp2 τ2 4 6 tw ld n)) := by
        rw [rM.2 hb, keep_ok h2 h3, zbd_of g2, zbd_of d1, r1]
      have fw : M_X5_firstWrong (2 + k) (nI i0) (nI N) σ = some (w, σ1) := by
        unfold M_X5_firstWrong
        simp (disch := omega) only [↓reduceIte, ↓znm, ↓zbd_some, ↓zbv_some, ↓zga_in, ↓zgs_in, ↓zgr_in, zga_in, zgs_in, zgr_in, zgz_n0, zgz_n1, zlit, nI_add, pk_mul, pk_sub, znI_or, znI_and, znI_df, zon_ok, zbt_ok, zlt_t, zlt_f, zle_t, zle_f, zeq_f, ↓zbv_of (become_ok hn h1.1), g1]
      by_cases j1 : j = 1
      · subst j1
        refine ⟨w, σ1, zp2 τ2 4 6 tw ld n, toX _ ?_, toM _ ?_, fR σ1 s6⟩
        · simp (disch := omega) only [↓reduceIte, ↓znm, ↓zbd_some, ↓zbv_some, ↓zga_in, ↓zgs_in, ↓zgr_in, zga_in, zgs_in, zgr_in, zgz_n0, zgz_n1, zlit, nI_add, pk_mul, pk_sub, znI_or, znI_and, znI_df, zon_ok, zbt_ok, zlt_t, zlt_f, zle_t, zle_f, zeq_f, ↓zbd_of (rX.2 hb), ↓zbd_of fw]
        · rw [mid, if_pos rfl]
      · have nj : (nI j = nI 1) = False := zeq_f j1 (by omega) (by decide)
        by_cases w9 : w = -nI 9
        · refine ⟨t, σ2, zp2 τ2 4 6 tw ld n, toX _ ?_, toM _ ?_, fR σ2 d3⟩
          · simp (disch := omega) only [↓reduceIte, ↓znm, ↓zbd_some, ↓zbv_some, ↓zga_in, ↓zgs_in, ↓zgr_in, zga_in, zgs_in, zgr_in, zgz_n0, zgz_n1, zlit, nI_add, pk_mul, pk_sub, znI_or, znI_and, znI_df, zon_ok, zbt_ok, zlt_t, zlt_f, zle_t, zle_f, zeq_f, ↓zbd_of (rX.2 hb), ↓zbd_of fw, w9, ↓zbd_of (d2 j1)]
          · rw [mid, if_neg (by rw [nj]; exact id), if_pos w9]
        · have n9 := eq_false w9
          refine ⟨-nI 100 - w, σ1, zp2 τ2 4 6 tw ld n, toX _ ?_, toM _ ?_, fR σ1 s6⟩
          · simp (disch := omega) only [↓reduceIte, ↓znm, ↓zbd_some, ↓zbv_some, ↓zga_in, ↓zgs_in, ↓zgr_in, zga_in, zgs_in, zgr_in, zgz_n0, zgz_n1, zlit, nI_add, pk_mul, pk_sub, znI_or, znI_and, znI_df, zon_ok, zbt_ok, zlt_t, zlt_f, zle_t, zle_f, zeq_f, ↓zbd_of (rX.2 hb), ↓zbd_of fw, n9]
          · rw [mid, if_neg (by rw [nj]; exact id), if_neg w9]
    · have hh := (has_ok t5 t2 p3 (nI (2 * N))).2 hg
      have ga := (against_ok hk t4 t1 t6 t2 p3 (nI (2 * N)) (by rw [z2N]; omega)).2 hg
      refine ⟨-10 - nI 3, _, _, ?_, ?_, h.fault (nI 3)⟩
      · unfold B_X5_day_81
        simp (disch := omega) only [↓reduceIte, ↓znm, ↓zbd_some, ↓zbv_some, ↓zga_in, ↓zgs_in, ↓zgr_in, zga_in, zgs_in, zgr_in, zgz_n0, zgz_n1, zlit, nI_add, pk_mul, pk_sub, znI_or, znI_and, znI_df, zon_ok, zbt_ok, zlt_t, zlt_f, zle_t, zle_f, zeq_f, ↓zbd_of u1, ↓zbd_of w1, ↓zbd_of o1, ↓zbd_of fa, ↓zbd_of hh, ↓zbd_of (faulted_ok (nI 3) σ)]
      · simp (disch := omega) only [↓reduceIte, ↓znm, ↓zbd_some, ↓zbv_some, ↓zga_in, ↓zgs_in, ↓zgr_in, zga_in, zgs_in, zgr_in, zgz_n0, zgz_n1, zlit, nI_add, pk_mul, pk_sub, znI_or, znI_and, znI_df, zon_ok, zbt_ok, zlt_t, zlt_f, zle_t, zle_f, zeq_f, ↓zbd_of u2, ↓zbd_of w2, ↓zbd_of hw]
        refine hm6 _ ?_
        unfold B_X6_day_57
        simp (disch := omega) only [↓reduceIte, ↓znm, ↓zbd_some, ↓zbv_some, ↓zga_in, ↓zgs_in, ↓zgr_in, zga_in, zgs_in, zgr_in, zgz_n0, zgz_n1, zlit, nI_add, pk_mul, pk_sub, znI_or, znI_and, znI_df, zon_ok, zbt_ok, zlt_t, zlt_f, zle_t, zle_f, zeq_f, ↓zbd_of ga, ↓zbd_of (fails_ok (nI 3) τ)]
  · have fa := faultAs_ok t3 t1 hm
    rw [if_neg hlm] at fa
    refine ⟨-10 - nI 2, _, _, ?_, ?_, h.fault (nI 2)⟩
    · unfold B_X5_day_81
      simp (disch := omega) only [↓reduceIte, ↓znm, ↓zbd_some, ↓zbv_some, ↓zga_in, ↓zgs_in, ↓zgr_in, zga_in, zgs_in, zgr_in, zgz_n0, zgz_n1, zlit, nI_add, pk_mul, pk_sub, znI_or, znI_and, znI_df, zon_ok, zbt_ok, zlt_t, zlt_f, zle_t, zle_f, zeq_f, ↓zbd_of u1, ↓zbd_of w1, ↓zbd_of o1, ↓zbd_of fa, ↓zbd_of (faulted_ok (nI 2) σ)]
    · simp (disch := omega) only [↓reduceIte, ↓znm, ↓zbd_some, ↓zbv_some, ↓zga_in, ↓zgs_in, ↓zgr_in, zga_in, zgs_in, zgr_in, zgz_n0, zgz_n1, zlit, nI_add, pk_mul, pk_sub, znI_or, znI_and, znI_df, zon_ok, zbt_ok, zlt_t, zlt_f, zle_t, zle_f, zeq_f, ↓zbd_of u2, ↓zbd_of w2, ↓zbd_of hw]
      refine hm6 _ ?_
      unfold B_X6_day_57
      simp (disch := omega) only [↓reduceIte, ↓znm, ↓zbd_some, ↓zbv_some, ↓zga_in, ↓zgs_in, ↓zgr_in, zga_in, zgs_in, zgr_in, zgz_n0, zgz_n1, zlit, nI_add, pk_mul, pk_sub, znI_or, znI_and, znI_df, zon_ok, zbt_ok, zlt_t, zlt_f, zle_t, zle_f, zeq_f, ↓zbd_of (against_lane hk t4 t1 hm hlm p3 (nI (2 * N))), ↓zbd_of (fails_ok (nI 2) τ)]
