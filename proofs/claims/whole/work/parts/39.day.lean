/-! PURE: day -/
theorem zloop_two {α β α' β' : Type} {F : (α → Option β) → α → Option β} {G : (α' → Option β') → α' → Option β'} {I : α → α' → Prop} {μ : α → Nat} {Po : β → β' → Prop} (hs : ∀ rf rg x y, I x y → (∀ x' y', I x' y' → μ x' < μ x → ∃ o o', rf x' = some o ∧ rg y' = some o' ∧ Po o o') → ∃ o o', F rf x = some o ∧ G rg y = some o' ∧ Po o o') : ∀ (n m : Nat) (x : α) (y : α'), I x y → μ x < n → μ x < m → ∃ o o', zloop F n x = some o ∧ zloop G m y = some o' ∧ Po o o'
  | 0, _, x, _, _, h, _ => by omega
  | _ + 1, 0, x, _, _, _, h => by omega
  | n + 1, m + 1, x, y, hx, h1, h2 => hs _ _ x y hx (fun x' y' hy hm => zloop_two hs n m x' y' hy (by omega) (by omega))
/-- what a machine has against taking cells -/
theorem against_null {τ : zSt} {k : Nat} (hk : k < 4) (h : τ 1 k = -nI 9) (x i n : Int32) : M_X6_against (nI k) x i n τ = some (nI 1, τ) := by
  unfold M_X6_against B_X6_against_23
  simp (disch := omega) only [↓reduceIte, ↓znm, ↓zbd_some, ↓zbv_some, ↓zga_in, ↓zgs_in, ↓zgr_in, zga_in, zgs_in, zgr_in, zgz_n0, zgz_n1, zlit, nI_add, pk_mul, pk_sub, znI_or, znI_and, znI_df, zon_ok, zbt_ok, zlt_t, zlt_f, zle_t, zle_f, zeq_f, h]
theorem against_lane {τ : zSt} {k ln m : Nat} (hk : k < 4) (h : τ 1 k = nI ln) (hl : ln ≤ 2) (hm : m < 3) (hne : ln ≠ m) (i n : Int32) : M_X6_against (nI k) (nI m) i n τ = some (nI 2, τ) := by
  have n9 : (nI ln = -nI 9) = False := eq_false (zneg_ne (by omega) (by decide) (by decide))
  unfold M_X6_against B_X6_against_23
  simp (disch := omega) only [↓reduceIte, ↓znm, ↓zbd_some, ↓zbv_some, ↓zga_in, ↓zgs_in, ↓zgr_in, zga_in, zgs_in, zgr_in, zgz_n0, zgz_n1, zlit, nI_add, pk_mul, pk_sub, znI_or, znI_and, znI_df, zon_ok, zbt_ok, zlt_t, zlt_f, zle_t, zle_f, zeq_f, h, n9]
theorem against_neg {τ : zSt} {k ln : Nat} (hk : k < 4) (h : τ 1 k = nI ln) (hl : ln ≤ 2) (i : Int32) {n : Int32} (hn : n < 0) : M_X6_against (nI k) (nI ln) i n τ = some (nI 4, τ) := by
  have n9 : (nI ln = -nI 9) = False := eq_false (zneg_ne (by omega) (by decide) (by decide))
  have n1 := zneg_ge hn 0 (by decide)
  unfold M_X6_against B_X6_against_23
  simp (disch := omega) only [↓reduceIte, ↓znm, ↓zbd_some, ↓zbv_some, ↓zga_in, ↓zgs_in, ↓zgr_in, zga_in, zgs_in, zgr_in, zgz_n0, zgz_n1, zlit, nI_add, pk_mul, pk_sub, znI_or, znI_and, znI_df, zon_ok, zbt_ok, zlt_t, zlt_f, zle_t, zle_f, zeq_f, h, n9, n1]
theorem against_ok {τ : zSt} {k ln len : Nat} (hk : k < 4) (h : τ 1 k = nI ln) (hl : ln ≤ 2) (h2 : τ 2 k = nI len) (hlen : len ≤ 60) (i n : Int32) (hn : 0 ≤ n.toInt) : (zgd len i n → M_X6_against (nI k) (nI ln) i n τ = some (nI 0, τ)) ∧ (¬ zgd len i n → M_X6_against (nI k) (nI ln) i n τ = some (nI 3, τ)) := by
  have n9 : (nI ln = -nI 9) = False := eq_false (zneg_ne (by omega) (by decide) (by decide))
  have z0 : (nI 0).toInt = 0 := rfl
  have c0 : (nI 0 ≤ n) = True := eq_true (by rw [zleI', z0]; exact hn)
  unfold M_X6_against B_X6_against_23 B_X6_against_70
  refine ⟨fun g => ?_, fun g => ?_⟩
  · obtain ⟨g1, g2, g3, g4⟩ := g
    have c1 : (i < nI 0) = False := eq_false (by rw [zltI, z0]; omega)
    have c2 : (nI len < i) = False := eq_false (by rw [zltI, zti (by omega)]; omega)
    have c3 : (n ≤ nI len - i) = True := eq_true (by rw [zleI', zsubI hlen g1 g2]; omega)
    simp (disch := omega) only [↓reduceIte, ↓znm, ↓zbd_some, ↓zbv_some, ↓zga_in, ↓zgs_in, ↓zgr_in, zga_in, zgs_in, zgr_in, zgz_n0, zgz_n1, zlit, nI_add, pk_mul, znI_or, znI_and, znI_df, zon_ok, zbt_ok, zlt_t, zlt_f, zle_t, zle_f, zeq_f, h, n9, h2, c0, c1, c2, c3]
  · by_cases c1 : i < nI 0
    · simp (disch := omega) only [↓reduceIte, ↓znm, ↓zbd_some, ↓zbv_some, ↓zga_in, ↓zgs_in, ↓zgr_in, zga_in, zgs_in, zgr_in, zgz_n0, zgz_n1, zlit, nI_add, pk_mul, znI_or, znI_and, znI_df, zon_ok, zbt_ok, zlt_t, zlt_f, zle_t, zle_f, zeq_f, h, n9, h2, c0, c1]
    · have g1 : 0 ≤ i.toInt := by rw [zltI, z0] at c1; omega
      by_cases c2 : nI len < i
      · simp (disch := omega) only [↓reduceIte, ↓znm, ↓zbd_some, ↓zbv_some, ↓zga_in, ↓zgs_in, ↓zgr_in, zga_in, zgs_in, zgr_in, zgz_n0, zgz_n1, zlit, nI_add, pk_mul, znI_or, znI_and, znI_df, zon_ok, zbt_ok, zlt_t, zlt_f, zle_t, zle_f, zeq_f, h, n9, h2, c0, c1, c2]
      · have g2 : i.toInt ≤ len := by rw [zltI, zti (by omega)] at c2; omega
        have c3 : (n ≤ nI len - i) = False := eq_false (fun q => g ⟨g1, g2, hn, by rw [zleI', zsubI hlen g1 g2] at q; omega⟩)
        simp (disch := omega) only [↓reduceIte, ↓znm, ↓zbd_some, ↓zbv_some, ↓zga_in, ↓zgs_in, ↓zgr_in, zga_in, zgs_in, zgr_in, zgz_n0, zgz_n1, zlit, nI_add, pk_mul, znI_or, znI_and, znI_df, zon_ok, zbt_ok, zlt_t, zlt_f, zle_t, zle_f, zeq_f, h, n9, h2, c0, c1, c2, c3]
/-- what a pair is refused with -/
def zrp (n : Nat) (x y : Int32) : Int32 := if nI 10 ≤ y ∧ y < nI 18 then (if x < nI 0 ∨ nI 10 ≤ x then -nI 2 else nI 0) else if y < nI 0 ∨ nI 8 ≤ y then -nI 2 else if x < nI 0 ∨ nI n ≤ x then -nI 1 else nI 0
theorem zn2 : (-nI 2 = nI 0) = False := eq_false (by decide)
theorem zn1 : (-nI 1 = nI 0) = False := eq_false (by decide)
theorem refuse_ok {σ τ : zSt} {n : Nat} (hn : n ≤ 8) (h1 : σ 10 0 = nI n) (h2 : τ 0 5 = nI n) (x y : Int32) : ∃ r, M_X5_refusalOfPair x y σ = some (r, σ) ∧ M_X6_refusesPair x y τ = some (r, τ) ∧ (r = nI 0 → (∃ q j, q < 8 ∧ j < n ∧ y = nI q ∧ x = nI j) ∨ (∃ q v, q < 8 ∧ v ≤ 9 ∧ y = nI (10 + q) ∧ x = nI v)) := by
  unfold M_X5_refusalOfPair M_X6_refusesPair M_X6_within B_X5_refusalOfPair_29 B_X5_refusalOfPair_22 B_X6_refusesPair_23 B_X6_refusesPair_40 M_X6_within
  rcases zix y (n := 18) (by decide) with c | c | ⟨q, hq, rfl⟩
  · refine ⟨-nI 2, ?_, ?_, fun e => absurd e (by decide)⟩
    · simp (disch := omega) only [↓reduceIte, ↓znm, ↓zbd_some, ↓zbv_some, ↓zga_in, ↓zgs_in, ↓zgr_in, zga_in, zgs_in, zgr_in, zgz_n0, zgz_n1, zlit, nI_add, pk_mul, pk_sub, znI_or, znI_and, znI_df, zon_ok, zbt_ok, zlt_t, zlt_f, zle_t, zle_f, zeq_f, zneg_lt c]
    · simp (disch := omega) only [↓reduceIte, ↓znm, ↓zbd_some, ↓zbv_some, ↓zga_in, ↓zgs_in, ↓zgr_in, zga_in, zgs_in, zgr_in, zgz_n0, zgz_n1, zlit, nI_add, pk_mul, pk_sub, znI_or, znI_and, znI_df, zon_ok, zbt_ok, zlt_t, zlt_f, zle_t, zle_f, zeq_f, zneg_lt c]
  · refine ⟨-nI 2, ?_, ?_, fun e => absurd e (by decide)⟩
    · simp (disch := omega) only [↓reduceIte, ↓znm, ↓zbd_some, ↓zbv_some, ↓zga_in, ↓zgs_in, ↓zgr_in, zga_in, zgs_in, zgr_in, zgz_n0, zgz_n1, zlit, nI_add, pk_mul, pk_sub, znI_or, znI_and, znI_df, zon_ok, zbt_ok, zlt_t, zlt_f, zle_t, zle_f, zeq_f, zbig_lt (by decide) c, zbig_ge (by decide) c]
    · simp (disch := omega) only [↓reduceIte, ↓znm, ↓zbd_some, ↓zbv_some, ↓zga_in, ↓zgs_in, ↓zgr_in, zga_in, zgs_in, zgr_in, zgz_n0, zgz_n1, zlit, nI_add, pk_mul, pk_sub, znI_or, znI_and, znI_df, zon_ok, zbt_ok, zlt_t, zlt_f, zle_t, zle_f, zeq_f, zbig_lt (by decide) c, zbig_gt (by decide) c]
  · rcases (by omega : q < 8 ∨ (8 ≤ q ∧ q < 10) ∨ 10 ≤ q) with e | e | e
    · rcases zpost x hn with hp | ⟨j, hj, rfl⟩
      · refine ⟨-nI 1, ?_, ?_, fun e => absurd e (by decide)⟩
        · simp (disch := omega) only [↓reduceIte, ↓znm, ↓zbd_some, ↓zbv_some, ↓zga_in, ↓zgs_in, ↓zgr_in, zga_in, zgs_in, zgr_in, zgz_n0, zgz_n1, zlit, nI_add, pk_mul, pk_sub, znI_or, znI_and, znI_df, zon_ok, zbt_ok, zlt_t, zlt_f, zle_t, zle_f, zeq_f, ↓zbd_of (isPostX_no h1 hp)]
        · simp (disch := omega) only [↓reduceIte, ↓znm, ↓zbd_some, ↓zbv_some, ↓zga_in, ↓zgs_in, ↓zgr_in, zga_in, zgs_in, zgr_in, zgz_n0, zgz_n1, zlit, nI_add, pk_mul, pk_sub, znI_or, znI_and, znI_df, zon_ok, zbt_ok, zlt_t, zlt_f, zle_t, zle_f, zeq_f, ↓zbd_of (isPostM_no h2 hp)]
      · refine ⟨nI 0, ?_, ?_, fun _ => Or.inl ⟨q, j, e, hj, rfl, rfl⟩⟩
        · simp (disch := omega) only [↓reduceIte, ↓znm, ↓zbd_some, ↓zbv_some, ↓zga_in, ↓zgs_in, ↓zgr_in, zga_in, zgs_in, zgr_in, zgz_n0, zgz_n1, zlit, nI_add, pk_mul, pk_sub, znI_or, znI_and, znI_df, zon_ok, zbt_ok, zlt_t, zlt_f, zle_t, zle_f, zeq_f, ↓zbd_of (isPostX_yes h1 hn hj)]
        · simp (disch := omega) only [↓reduceIte, ↓znm, ↓zbd_some, ↓zbv_some, ↓zga_in, ↓zgs_in, ↓zgr_in, zga_in, zgs_in, zgr_in, zgz_n0, zgz_n1, zlit, nI_add, pk_mul, pk_sub, znI_or, znI_and, znI_df, zon_ok, zbt_ok, zlt_t, zlt_f, zle_t, zle_f, zeq_f, ↓zbd_of (isPostM_yes h2 hn hj)]
    · refine ⟨-nI 2, ?_, ?_, fun e => absurd e (by decide)⟩
      · simp (disch := omega) only [↓reduceIte, ↓znm, ↓zbd_some, ↓zbv_some, ↓zga_in, ↓zgs_in, ↓zgr_in, zga_in, zgs_in, zgr_in, zgz_n0, zgz_n1, zlit, nI_add, pk_mul, pk_sub, znI_or, znI_and, znI_df, zon_ok, zbt_ok, zlt_t, zlt_f, zle_t, zle_f, zeq_f]
      · simp (disch := omega) only [↓reduceIte, ↓znm, ↓zbd_some, ↓zbv_some, ↓zga_in, ↓zgs_in, ↓zgr_in, zga_in, zgs_in, zgr_in, zgz_n0, zgz_n1, zlit, nI_add, pk_mul, pk_sub, znI_or, znI_and, znI_df, zon_ok, zbt_ok, zlt_t, zlt_f, zle_t, zle_f, zeq_f]
    · rcases zix x (n := 10) (by decide) with c | c | ⟨v, hv, rfl⟩
      · refine ⟨-nI 2, ?_, ?_, fun e => absurd e (by decide)⟩
        · simp (disch := omega) only [↓reduceIte, ↓znm, ↓zbd_some, ↓zbv_some, ↓zga_in, ↓zgs_in, ↓zgr_in, zga_in, zgs_in, zgr_in, zgz_n0, zgz_n1, zlit, nI_add, pk_mul, pk_sub, znI_or, znI_and, znI_df, zon_ok, zbt_ok, zlt_t, zlt_f, zle_t, zle_f, zeq_f, zneg_lt c]
        · simp (disch := omega) only [↓reduceIte, ↓znm, ↓zbd_some, ↓zbv_some, ↓zga_in, ↓zgs_in, ↓zgr_in, zga_in, zgs_in, zgr_in, zgz_n0, zgz_n1, zlit, nI_add, pk_mul, pk_sub, znI_or, znI_and, znI_df, zon_ok, zbt_ok, zlt_t, zlt_f, zle_t, zle_f, zeq_f, zneg_lt c]
      · refine ⟨-nI 2, ?_, ?_, fun e => absurd e (by decide)⟩
        · simp (disch := omega) only [↓reduceIte, ↓znm, ↓zbd_some, ↓zbv_some, ↓zga_in, ↓zgs_in, ↓zgr_in, zga_in, zgs_in, zgr_in, zgz_n0, zgz_n1, zlit, nI_add, pk_mul, pk_sub, znI_or, znI_and, znI_df, zon_ok, zbt_ok, zlt_t, zlt_f, zle_t, zle_f, zeq_f, zbig_lt (by decide) c, zbig_le (by decide) c]
        · simp (disch := omega) only [↓reduceIte, ↓znm, ↓zbd_some, ↓zbv_some, ↓zga_in, ↓zgs_in, ↓zgr_in, zga_in, zgs_in, zgr_in, zgz_n0, zgz_n1, zlit, nI_add, pk_mul, pk_sub, znI_or, znI_and, znI_df, zon_ok, zbt_ok, zlt_t, zlt_f, zle_t, zle_f, zeq_f, zbig_lt (by decide) c, zbig_gt (by decide) c]
      · refine ⟨nI 0, ?_, ?_, fun _ => Or.inr ⟨q - 10, v, by omega, by omega, by rw [show 10 + (q - 10) = q by omega], rfl⟩⟩
        · simp (disch := omega) only [↓reduceIte, ↓znm, ↓zbd_some, ↓zbv_some, ↓zga_in, ↓zgs_in, ↓zgr_in, zga_in, zgs_in, zgr_in, zgz_n0, zgz_n1, zlit, nI_add, pk_mul, pk_sub, znI_or, znI_and, znI_df, zon_ok, zbt_ok, zlt_t, zlt_f, zle_t, zle_f, zeq_f]
        · simp (disch := omega) only [↓reduceIte, ↓znm, ↓zbd_some, ↓zbv_some, ↓zga_in, ↓zgs_in, ↓zgr_in, zga_in, zgs_in, zgr_in, zgz_n0, zgz_n1, zlit, nI_add, pk_mul, pk_sub, znI_or, znI_and, znI_df, zon_ok, zbt_ok, zlt_t, zlt_f, zle_t, zle_f, zeq_f]
/-- the trial and the reference, in the midst of a day -/
def zDy (σ τ σk τk : zSt) (n : Nat) (kd : Nat → Nat) : Prop := ∃ ld tw d, zVX σk 27 n kd ld tw ∧ zVM τk n kd ld tw ∧ zOK n kd ld tw ∧ zAX σk 27 n d ∧ zTR (fun p => p < n) tw d ∧ (∀ c, c < 27 ∨ 44 ≤ c → σk c = σ c) ∧ (∀ c, c ≠ 4 → c ≠ 6 → τk c = τ c)
theorem tried_ok {σ τ σk τk : zSt} {n : Nat} {kd : Nat → Nat} (h : zDy σ τ σk τk n kd) {x y : Int32} (hxy : (∃ q j, q < 8 ∧ j < n ∧ y = nI q ∧ x = nI j) ∨ (∃ q v, q < 8 ∧ v ≤ 9 ∧ y = nI (10 + q) ∧ x = nI v)) : ∃ r σ' τ', r ≤ 1 ∧ M_X5_tried x y σk = some (nI r, σ') ∧ M_X6_does x y τk = some (nI r, τ') ∧ zDy σ τ σ' τ' n kd := by
  obtain ⟨ld, tw, d, h1, h2, h3, h4, h5, h6, h7⟩ := id h
  have hn := h3.1
  unfold M_X5_tried M_X6_does
  rcases hxy with ⟨q, a, hq, ha, rfl, rfl⟩ | ⟨q, v, hq, hv, rfl, rfl⟩
  · have u1 := isPostX_yes h1.1 hn ha
    by_cases hb : q < n
    · have w1 := isPostX_yes h1.1 hn hb
      have u2 := areTwo_ok h2.1 hn ha hb
      by_cases hab : a = q
      · subst hab
        rw [if_pos rfl] at u2
        refine ⟨0, σk, τk, by omega, ?_, ?_, h⟩
        · simp (disch := omega) only [↓reduceIte, ↓znm, ↓zbd_some, ↓zbv_some, ↓zga_in, ↓zgs_in, ↓zgr_in, zga_in, zgs_in, zgr_in, zgz_n0, zgz_n1, zlit, nI_add, pk_mul, pk_sub, znI_or, znI_and, znI_df, zon_ok, zbt_ok, zlt_t, zlt_f, zle_t, zle_f, zeq_f, ↓zbd_of u1]
        · simp (disch := omega) only [↓reduceIte, ↓znm, ↓zbd_some, ↓zbv_some, ↓zga_in, ↓zgs_in, ↓zgr_in, zga_in, zgs_in, zgr_in, zgz_n0, zgz_n1, zlit, nI_add, pk_mul, pk_sub, znI_or, znI_and, znI_df, zon_ok, zbt_ok, zlt_t, zlt_f, zle_t, zle_f, zeq_f, ↓zbd_of u2]
      rw [if_neg hab] at u2
      obtain ⟨v1, v2, v3⟩ := h2.2 a ha
      obtain ⟨o1, o2, o3⟩ := h3.2 a ha
      have ie := isEndX_ok h1 h3 ha
      have b8 := zpc_le (tw a)
      by_cases hpc : zpc (tw a) = 1
      · rw [if_pos hpc] at ie
        have htw := zpc_one (tw a) o3 hpc
        obtain ⟨q1, q2, hT2⟩ := h5.graft hn ha hb hab htw
        have hO2 := h3.graft (w := zlo (tw a)) ha hb
        obtain ⟨σ', r1, r2, r3, r4, r5⟩ := hangOn_gen (m := 0) (by decide) h1 h3 h4 (fun p hp => by omega) h5 ha hb hab hpc
        obtain ⟨τ1, τ2, s1, s2, s3, s4⟩ := hangM_ok h2 h3 ha q1 hb hab q2 htw
        have hne0 : tw a ≠ 0 := fun e => by rw [e, zpc_0] at hpc; omega
        refine ⟨1, σ', τ2, by omega, ?_, ?_, ld, _, _, r2, s3, hO2, r3, hT2, fun c hc => ?_, fun c g1 g2 => ?_⟩
        · simp (disch := omega) only [↓reduceIte, ↓znm, ↓zbd_some, ↓zbv_some, ↓zga_in, ↓zgs_in, ↓zgr_in, zga_in, zgs_in, zgr_in, zgz_n0, zgz_n1, zlit, nI_add, pk_mul, pk_sub, znI_or, znI_and, znI_df, zon_ok, zbt_ok, zlt_t, zlt_f, zle_t, zle_f, zeq_f, ↓zbd_of u1, ↓zbd_of w1, hab, ↓zbd_of ie, ↓zbd_of r1]
        · simp (disch := omega) only [↓reduceIte, ↓znm, ↓zbd_some, ↓zbv_some, ↓zga_in, ↓zgs_in, ↓zgr_in, zga_in, zgs_in, zgr_in, zgz_n0, zgz_n1, zlit, nI_add, pk_mul, pk_sub, znI_or, znI_and, znI_df, zon_ok, zbt_ok, zlt_t, zlt_f, zle_t, zle_f, zeq_f, ↓zbd_of u2, v3, ↓zbd_of (size_ok o3 τk), hpc, ↓zbd_of (leastM_ok o3 hne0 τk), ↓zbv_of s1, ↓zbv_of s2]
        · rw [r5 c (by omega) (by omega)]; exact h6 c hc
        · rw [s4 c g1]; exact h7 c g1 g2
      · rw [if_neg hpc] at ie
        refine ⟨0, σk, τk, by omega, ?_, ?_, h⟩
        · simp (disch := omega) only [↓reduceIte, ↓znm, ↓zbd_some, ↓zbv_some, ↓zga_in, ↓zgs_in, ↓zgr_in, zga_in, zgs_in, zgr_in, zgz_n0, zgz_n1, zlit, nI_add, pk_mul, pk_sub, znI_or, znI_and, znI_df, zon_ok, zbt_ok, zlt_t, zlt_f, zle_t, zle_f, zeq_f, ↓zbd_of u1, ↓zbd_of w1, hab, ↓zbd_of ie]
        · simp (disch := omega) only [↓reduceIte, ↓znm, ↓zbd_some, ↓zbv_some, ↓zga_in, ↓zgs_in, ↓zgr_in, zga_in, zgs_in, zgr_in, zgz_n0, zgz_n1, zlit, nI_add, pk_mul, pk_sub, znI_or, znI_and, znI_df, zon_ok, zbt_ok, zlt_t, zlt_f, zle_t, zle_f, zeq_f, ↓zbd_of u2, v3, ↓zbd_of (size_ok o3 τk), hpc]
    · have hp : nI q < 0 ∨ nI n ≤ nI q := Or.inr (nI_le (by omega) (by omega))
      refine ⟨0, σk, τk, by omega, ?_, ?_, h⟩
      · simp (disch := omega) only [↓reduceIte, ↓znm, ↓zbd_some, ↓zbv_some, ↓zga_in, ↓zgs_in, ↓zgr_in, zga_in, zgs_in, zgr_in, zgz_n0, zgz_n1, zlit, nI_add, pk_mul, pk_sub, znI_or, znI_and, znI_df, zon_ok, zbt_ok, zlt_t, zlt_f, zle_t, zle_f, zeq_f, ↓zbd_of u1, ↓zbd_of (isPostX_no h1.1 hp)]
      · simp (disch := omega) only [↓reduceIte, ↓znm, ↓zbd_some, ↓zbv_some, ↓zga_in, ↓zgs_in, ↓zgr_in, zga_in, zgs_in, zgr_in, zgz_n0, zgz_n1, zlit, nI_add, pk_mul, pk_sub, znI_or, znI_and, znI_df, zon_ok, zbt_ok, zlt_t, zlt_f, zle_t, zle_f, zeq_f, ↓zbd_of (areTwo_no2 h2.1 hn ha hp)]
  · by_cases hb : q < n
    · have w1 := isPostX_yes h1.1 hn hb
      have w2 := isPostM_yes h2.1 hn hb
      obtain ⟨s1, hs1⟩ : ∃ s1, s1 = zsu σk (27 + 2) (upd (σk (27 + 2)) q (nI v)) := ⟨_, rfl⟩
      obtain ⟨t1, ht1⟩ : ∃ t1, t1 = zsu τk 6 (upd (τk 6) q (nI v)) := ⟨_, rfl⟩
      refine ⟨1, s1, t1, by omega, ?_, ?_, fun p => if p = q then v else ld p, tw, d, ⟨?_, fun p hp => ?_⟩, ⟨?_, fun p hp => ?_⟩, ⟨hn, fun p hp => ?_⟩, fun p hp r hr => ?_, h5, fun c hc => ?_, fun c g1 g2 => ?_⟩
      · simp (disch := omega) only [↓reduceIte, ↓znm, ↓zbd_some, ↓zbv_some, ↓zga_in, ↓zgs_in, ↓zgr_in, zga_in, zgs_in, zgr_in, zgz_n0, zgz_n1, zlit, nI_add, pk_mul, pk_sub, znI_or, znI_and, znI_df, zon_ok, zbt_ok, zlt_t, zlt_f, zle_t, zle_f, zeq_f, show 10 + q - 10 = q by omega, ↓zbd_of w1, ← hs1]
      · simp (disch := omega) only [↓reduceIte, ↓znm, ↓zbd_some, ↓zbv_some, ↓zga_in, ↓zgs_in, ↓zgr_in, zga_in, zgs_in, zgr_in, zgz_n0, zgz_n1, zlit, nI_add, pk_mul, pk_sub, znI_or, znI_and, znI_df, zon_ok, zbt_ok, zlt_t, zlt_f, zle_t, zle_f, zeq_f, show 10 + q - 10 = q by omega, ↓zbd_of w2, ← ht1]
      · rw [hs1, zsu_ne (by decide)]; exact h1.1
      · obtain ⟨x1, x2, x3⟩ := h1.2 p hp
        rw [hs1, zsu_ne (show 27 + 1 ≠ 27 + 2 by decide), zsu_ne (show 27 + 3 ≠ 27 + 2 by decide), zsu_eq]
        refine ⟨x1, ?_, x3⟩
        dsimp only
        by_cases e : p = q
        · rw [e, upd_eq, if_pos rfl]
        · rw [upd_ne e, if_neg e]; exact x2
      · rw [ht1, zsu_ne (by decide)]; exact h2.1
      · obtain ⟨x1, x2, x3⟩ := h2.2 p hp
        rw [ht1, zsu_ne (show 5 ≠ 6 by decide), zsu_ne (show 4 ≠ 6 by decide), zsu_eq]
        refine ⟨x1, ?_, x3⟩
        dsimp only
        by_cases e : p = q
        · rw [e, upd_eq, if_pos rfl]
        · rw [upd_ne e, if_neg e]; exact x2
      · obtain ⟨x1, x2, x3⟩ := h3.2 p hp
        refine ⟨x1, ?_, x3⟩
        dsimp only
        split <;> omega
      · rw [hs1, zsu_ne (by omega)]; exact h4 p hp r hr
      · rw [hs1, zsu_ne (by omega)]; exact h6 c hc
      · rw [ht1, zsu_ne g2]; exact h7 c g1 g2
    · have hp : nI q < 0 ∨ nI n ≤ nI q := Or.inr (nI_le (by omega) (by omega))
      refine ⟨0, σk, τk, by omega, ?_, ?_, h⟩
      · simp (disch := omega) only [↓reduceIte, ↓znm, ↓zbd_some, ↓zbv_some, ↓zga_in, ↓zgs_in, ↓zgr_in, zga_in, zgs_in, zgr_in, zgz_n0, zgz_n1, zlit, nI_add, pk_mul, pk_sub, znI_or, znI_and, znI_df, zon_ok, zbt_ok, zlt_t, zlt_f, zle_t, zle_f, zeq_f, show 10 + q - 10 = q by omega, ↓zbd_of (isPostX_no h1.1 hp)]
      · simp (disch := omega) only [↓reduceIte, ↓znm, ↓zbd_some, ↓zbv_some, ↓zga_in, ↓zgs_in, ↓zgr_in, zga_in, zgs_in, zgr_in, zgz_n0, zgz_n1, zlit, nI_add, pk_mul, pk_sub, znI_or, znI_and, znI_df, zon_ok, zbt_ok, zlt_t, zlt_f, zle_t, zle_f, zeq_f, show 10 + q - 10 = q by omega, ↓zbd_of (isPostM_no h2.1 hp)]
theorem zDy.tell {σ τ σk τk : zSt} {n : Nat} {kd : Nat → Nat} (h : zDy σ τ σk τk n kd) (h2n : 2 ≤ n) {j : Nat} (hj : j ≤ 4 ∨ 10 ≤ j) (hj2 : j < 18) : ∃ t σ' τ', M_X6_tellDay (nI j) τk = some (t, τ') ∧ (j ≠ 1 → M_X5_ofTrial (nI j) σk = some (t, σ')) ∧ (∀ c, c < 27 ∨ 44 ≤ c → σ' c = σ c) ∧ (∀ c, c ≠ 4 → c ≠ 6 → c ≠ 10 → c ≠ 11 → c ≠ 12 → τ' c = τ c) := by
  obtain ⟨ld, tw, d, h1, h2, h3, h4, h5, h6, h7⟩ := id h
  have hn := h3.1
  have hp := zp256 hn
  have hp0 := Nat.two_pow_pos n
  have ws : M_X6_worthOfSet (nI (2 ^ n - 1)) τk = some (nI (zsum (zwo kd ld) n), τk) := by
    rw [worthSetM_ok h2 h3 (by omega)]
    congr 3
    apply zsum_ext
    intro p hp
    rw [if_pos ((zfull_bit p).mpr hp)]
  unfold M_X6_tellDay M_X5_ofTrial
  rcases (by omega : j = 0 ∨ j = 1 ∨ j = 2 ∨ j = 3 ∨ j = 4 ∨ 10 ≤ j) with rfl | rfl | rfl | rfl | rfl | e
  · obtain ⟨φ, f1, f2⟩ := fars_ok h2 h3 h5
    have hVf := h2.fars φ
    have hFM : zFM (zsu τk 10 φ) n d := fun a p ha hp => by rw [zsu_eq]; exact f2 a p ha hp
    have l1 := longestM_ok hVf.1 hFM hn (h5.lt8 hn)
    have l2 := longestX_ok h1.1 h4 hn (h5.lt8 hn)
    refine ⟨nI (zmax (fun p => zmax (d p) n) n), σk, zsu τk 10 φ, ?_, fun _ => ?_, h6, fun c g1 g2 g3 _ _ => ?_⟩
    · simp (disch := omega) only [↓reduceIte, ↓znm, ↓zbd_some, ↓zbv_some, ↓zga_in, ↓zgs_in, ↓zgr_in, zga_in, zgs_in, zgr_in, zgz_n0, zgz_n1, zlit, nI_add, pk_mul, pk_sub, znI_or, znI_and, znI_df, zon_ok, zbt_ok, zlt_t, zlt_f, zle_t, zle_f, zeq_f, ↓zbv_of f1, ↓zbd_of l1]
    · simp (disch := omega) only [↓reduceIte, ↓znm, ↓zbd_some, ↓zbv_some, ↓zga_in, ↓zgs_in, ↓zgr_in, zga_in, zgs_in, zgr_in, zgz_n0, zgz_n1, zlit, nI_add, pk_mul, pk_sub, znI_or, znI_and, znI_df, zon_ok, zbt_ok, zlt_t, zlt_f, zle_t, zle_f, zeq_f, ↓zbd_of l2]
    · rw [zsu_ne g3]; exact h7 c g1 g2
  · refine ⟨nI (zsum (zwo kd ld) n), σk, τk, ?_, fun q => absurd rfl q, h6, fun c g1 g2 _ _ _ => h7 c g1 g2⟩
    simp (disch := omega) only [↓reduceIte, ↓znm, ↓zbd_some, ↓zbv_some, ↓zga_in, ↓zgs_in, ↓zgr_in, zga_in, zgs_in, zgr_in, zgz_n0, zgz_n1, zlit, nI_add, pk_mul, pk_sub, znI_or, znI_and, znI_df, zon_ok, zbt_ok, zlt_t, zlt_f, zle_t, zle_f, zeq_f, h2.1, ↓zbd_of ws]
  · refine ⟨nI (znum tw n (n - 2)), zsp σk 27 n tw (n - 1), zls τk n tw (n - 2), ?_, fun _ => ?_, fun c hc => ?_, fun c g1 g2 g3 g4 g5 => ?_⟩
    · simp (disch := omega) only [↓reduceIte, ↓znm, ↓zbd_some, ↓zbv_some, ↓zga_in, ↓zgs_in, ↓zgr_in, zga_in, zgs_in, zgr_in, zgz_n0, zgz_n1, zlit, nI_add, pk_mul, pk_sub, znI_or, znI_and, znI_df, zon_ok, zbt_ok, zlt_t, zlt_f, zle_t, zle_f, zeq_f, ↓zbd_of (numberM_ok h2 h3 h5 h2n)]
    · simp (disch := omega) only [↓reduceIte, ↓znm, ↓zbd_some, ↓zbv_some, ↓zga_in, ↓zgs_in, ↓zgr_in, zga_in, zgs_in, zgr_in, zgz_n0, zgz_n1, zlit, nI_add, pk_mul, pk_sub, znI_or, znI_and, znI_df, zon_ok, zbt_ok, zlt_t, zlt_f, zle_t, zle_f, zeq_f, ↓zbd_of (numberX_ok h1 h3 h2n)]
    · rw [zsp_c (by omega) (by omega)]; exact h6 c hc
    · rw [zls_c g4 g5]; exact h7 c g1 g2
  · refine ⟨nI (zset (fun p => decide (zpc (tw p) = 1)) n), σk, τk, ?_, fun _ => ?_, h6, fun c g1 g2 _ _ _ => h7 c g1 g2⟩
    · simp (disch := omega) only [↓reduceIte, ↓znm, ↓zbd_some, ↓zbv_some, ↓zga_in, ↓zgs_in, ↓zgr_in, zga_in, zgs_in, zgr_in, zgz_n0, zgz_n1, zlit, nI_add, pk_mul, pk_sub, znI_or, znI_and, znI_df, zon_ok, zbt_ok, zlt_t, zlt_f, zle_t, zle_f, zeq_f, ↓zbd_of (endsM_ok h2 h3)]
    · simp (disch := omega) only [↓reduceIte, ↓znm, ↓zbd_some, ↓zbv_some, ↓zga_in, ↓zgs_in, ↓zgr_in, zga_in, zgs_in, zgr_in, zgz_n0, zgz_n1, zlit, nI_add, pk_mul, pk_sub, znI_or, znI_and, znI_df, zon_ok, zbt_ok, zlt_t, zlt_f, zle_t, zle_f, zeq_f, ↓zbd_of (endsX_ok h1 h3)]
  · refine ⟨nI (zsum (zwo kd ld) n), σk, τk, ?_, fun _ => ?_, h6, fun c g1 g2 _ _ _ => h7 c g1 g2⟩
    · simp (disch := omega) only [↓reduceIte, ↓znm, ↓zbd_some, ↓zbv_some, ↓zga_in, ↓zgs_in, ↓zgr_in, zga_in, zgs_in, zgr_in, zgz_n0, zgz_n1, zlit, nI_add, pk_mul, pk_sub, znI_or, znI_and, znI_df, zon_ok, zbt_ok, zlt_t, zlt_f, zle_t, zle_f, zeq_f, h2.1, ↓zbd_of ws]
    · simp (disch := omega) only [↓reduceIte, ↓znm, ↓zbd_some, ↓zbv_some, ↓zga_in, ↓zgs_in, ↓zgr_in, zga_in, zgs_in, zgr_in, zgz_n0, zgz_n1, zlit, nI_add, pk_mul, pk_sub, znI_or, znI_and, znI_df, zon_ok, zbt_ok, zlt_t, zlt_f, zle_t, zle_f, zeq_f, ↓zbd_of (worthAllX_ok h1 h3)]
  · by_cases c : j - 10 < n
    · have w1 := isPostX_yes h1.1 hn c
      have w2 := isPostM_yes h2.1 hn c
      refine ⟨nI (tw (j - 10)), σk, τk, ?_, fun _ => ?_, h6, fun c g1 g2 _ _ _ => h7 c g1 g2⟩
      · simp (disch := omega) only [↓reduceIte, ↓znm, ↓zbd_some, ↓zbv_some, ↓zga_in, ↓zgs_in, ↓zgr_in, zga_in, zgs_in, zgr_in, zgz_n0, zgz_n1, zlit, nI_add, pk_mul, pk_sub, znI_or, znI_and, znI_df, zon_ok, zbt_ok, zlt_t, zlt_f, zle_t, zle_f, zeq_f, ↓zbd_of w2, (h2.2 _ c).2.2]
      · simp (disch := omega) only [↓reduceIte, ↓znm, ↓zbd_some, ↓zbv_some, ↓zga_in, ↓zgs_in, ↓zgr_in, zga_in, zgs_in, zgr_in, zgz_n0, zgz_n1, zlit, nI_add, pk_mul, pk_sub, znI_or, znI_and, znI_df, zon_ok, zbt_ok, zlt_t, zlt_f, zle_t, zle_f, zeq_f, ↓zbd_of w1, (h1.2 _ c).2.2]
    · have hp : nI (j - 10) < 0 ∨ nI n ≤ nI (j - 10) := Or.inr (nI_le (by omega) (by omega))
      refine ⟨-nI 9, σk, τk, ?_, fun _ => ?_, h6, fun c g1 g2 _ _ _ => h7 c g1 g2⟩
      · simp (disch := omega) only [↓reduceIte, ↓znm, ↓zbd_some, ↓zbv_some, ↓zga_in, ↓zgs_in, ↓zgr_in, zga_in, zgs_in, zgr_in, zgz_n0, zgz_n1, zlit, nI_add, pk_mul, pk_sub, znI_or, znI_and, znI_df, zon_ok, zbt_ok, zlt_t, zlt_f, zle_t, zle_f, zeq_f, ↓zbd_of (isPostM_no h2.1 hp)]
      · simp (disch := omega) only [↓reduceIte, ↓znm, ↓zbd_some, ↓zbv_some, ↓zga_in, ↓zgs_in, ↓zgr_in, zga_in, zgs_in, zgr_in, zgz_n0, zgz_n1, zlit, nI_add, pk_mul, pk_sub, znI_or, znI_and, znI_df, zon_ok, zbt_ok, zlt_t, zlt_f, zle_t, zle_f, zeq_f, ↓zbd_of (isPostX_no h1.1 hp)]
/-- the trial, when i posts of the vine are told to it -/
def zbc (σ : zSt) (n i : Nat) : zSt := fun c y => if c = 27 ∧ y = 0 then nI n else if 28 ≤ c ∧ c ≤ 30 ∧ y < i then σ (c - 17) y else if 36 ≤ c ∧ c < 36 + i ∧ y < n then σ (c - 17) y else σ c y
theorem zbc_c {σ : zSt} {n i c : Nat} (h : c < 27 ∨ 44 ≤ c) (hi : i ≤ 8) : zbc σ n i c = σ c := by
  funext y
  unfold zbc
  rw [if_neg (by omega), if_neg (by omega), if_neg (by omega)]
theorem zcp_8 {β : Type} {σ : zSt} {i j : Nat} {n : Nat} {K : zSt → Option β} (h1 : n ≤ 8) : zcp σ i j 8 8 (nI 0) (nI 0) (nI n) K = K (zsu σ j (va_cpy (σ i) (σ j) 0 0 n)) := by
  unfold zcp
  rw [nI_clamp (by omega), nI_clamp (by omega), if_pos ⟨⟨nI_pos' (by omega), nI_pos' (by omega), nI_pos' (by omega)⟩, by omega, by omega⟩]
theorem zbc_s {σ s1 s2 s3 : zSt} {n i : Nat} (hn : n ≤ 8) (hi : i < n) (hs1 : s1 = zsu (zbc σ n i) 28 (upd (zbc σ n i 28) i (σ 11 i))) (hs2 : s2 = zsu s1 29 (upd (s1 29) i (σ 12 i))) (hs3 : s3 = zsu s2 30 (upd (s2 30) i (σ 13 i))) : zsu s3 (36 + i) (va_cpy (s3 (19 + i)) (s3 (36 + i)) 0 0 n) = zbc σ n (i + 1) := by
  have a1 : ∀ c y, s3 c y = if c = 30 ∧ y = i then σ 13 i else if c = 29 ∧ y = i then σ 12 i else if c = 28 ∧ y = i then σ 11 i else zbc σ n i c y := by
    intro c y
    rw [hs3, zput_at, hs2, zput_at, hs1, zput_at]
  funext c y
  by_cases e : c = 36 + i
  · have b1 : s3 (19 + i) = σ (19 + i) := by
      rw [hs3, zsu_ne (by omega), hs2, zsu_ne (by omega), hs1, zsu_ne (by omega), zbc_c (by omega) (by omega)]
    have b2 : s3 (36 + i) = σ (36 + i) := by
      rw [hs3, zsu_ne (by omega), hs2, zsu_ne (by omega), hs1, zsu_ne (by omega)]
      funext z
      unfold zbc
      rw [if_neg (by omega), if_neg (by omega), if_neg (by omega)]
    rw [e, zsu_eq, b1, b2]
    unfold va_cpy zbc
    rw [if_neg (show ¬ (36 + i = 27 ∧ y = 0) by omega), if_neg (show ¬ (28 ≤ 36 + i ∧ 36 + i ≤ 30 ∧ y < i + 1) by omega), show 36 + i - 17 = 19 + i by omega]
    by_cases f : y < n
    · rw [if_pos (by omega), if_pos (by omega)]
      congr 1; omega
    · rw [if_neg (by omega), if_neg (by omega)]
  · rw [zsu_ne e, a1]
    by_cases e1 : c = 30 ∧ y = i
    · rw [if_pos e1]
      unfold zbc
      rw [if_neg (by omega), if_pos (by omega), e1.1, e1.2]
    · rw [if_neg e1]
      by_cases e2 : c = 29 ∧ y = i
      · rw [if_pos e2]
        unfold zbc
        rw [if_neg (by omega), if_pos (by omega), e2.1, e2.2]
      · rw [if_neg e2]
        by_cases e3 : c = 28 ∧ y = i
        · rw [if_pos e3]
          unfold zbc
          rw [if_neg (by omega), if_pos (by omega), e3.1, e3.2]
        · rw [if_neg e3]
          unfold zbc
          by_cases f1 : c = 27 ∧ y = 0
          · rw [if_pos f1, if_pos f1]
          · rw [if_neg f1, if_neg f1]
            by_cases f2 : 28 ≤ c ∧ c ≤ 30 ∧ y < i
            · rw [if_pos f2, if_pos (by omega)]
            · rw [if_neg f2, if_neg (show ¬ (28 ≤ c ∧ c ≤ 30 ∧ y < i + 1) by omega)]
              by_cases f3 : 36 ≤ c ∧ c < 36 + i ∧ y < n
              · rw [if_pos f3, if_pos (by omega)]
              · rw [if_neg f3, if_neg (by omega)]
theorem become_ok {σ : zSt} {n : Nat} (hn : n ≤ 8) (h0 : σ 10 0 = nI n) : M_X4_become 27 10 σ = some (zbc σ n n) := by
  unfold M_X4_become
  have e0 : zsu σ 27 (upd (σ 27) 0 (nI n)) = zbc σ n 0 := by
    funext c y
    rw [zput_at]
    unfold zbc
    by_cases e : c = 27 ∧ y = 0
    · rw [if_pos e, if_pos e]
    · rw [if_neg e, if_neg e, if_neg (by omega), if_neg (by omega)]
  have f0 : ∀ i, zbc σ n i 27 0 = nI n := fun i => by
    unfold zbc
    rw [if_pos ⟨rfl, rfl⟩]
  simp (disch := omega) only [↓reduceIte, ↓znm, ↓zbd_some, ↓zbv_some, ↓zga_in, ↓zgs_in, ↓zgr_in, zga_in, zgs_in, zgr_in, zgz_n0, zgz_n1, zlit, nI_add, pk_mul, pk_sub, znI_or, znI_and, znI_df, zon_ok, zbt_ok, zlt_t, zlt_f, zle_t, zle_f, zeq_f, h0, e0]
  unfold L_X4_become_10
  refine zloop_for (fun i => (nI i, zbc σ n i)) n rfl (by omega) (fun rec i hi => ?_) (fun rec => ?_)
  · obtain ⟨s1, hs1⟩ : ∃ s1, s1 = zsu (zbc σ n i) 28 (upd (zbc σ n i 28) i (σ 11 i)) := ⟨_, rfl⟩
    obtain ⟨s2, hs2⟩ : ∃ s2, s2 = zsu s1 29 (upd (s1 29) i (σ 12 i)) := ⟨_, rfl⟩
    obtain ⟨s3, hs3⟩ : ∃ s3, s3 = zsu s2 30 (upd (s2 30) i (σ 13 i)) := ⟨_, rfl⟩
    have g0 : zbc σ n i (10 + 1) i = σ 11 i := by rw [zbc_c (by omega) (by omega)]
    have g1 : s1 (10 + 2) i = σ 12 i := by rw [hs1, zsu_ne (by decide), zbc_c (by omega) (by omega)]
    have g2 : s2 (10 + 3) i = σ 13 i := by rw [hs2, zsu_ne (by decide), hs1, zsu_ne (by decide), zbc_c (by omega) (by omega)]
    have g3 : s3 27 0 = nI n := by rw [hs3, zsu_ne (by decide), hs2, zsu_ne (by decide), hs1, zsu_ne (by decide)]; exact f0 i
    have g4 := zbc_s hn hi hs1 hs2 hs3
    have g5 : zsu (zbc σ n i) (27 + 1) (upd (zbc σ n i (27 + 1)) i (σ 11 i)) = s1 := hs1.symm
    have g6 : zsu s1 (27 + 2) (upd (s1 (27 + 2)) i (σ 12 i)) = s2 := hs2.symm
    have g7 : zsu s2 (27 + 3) (upd (s2 (27 + 3)) i (σ 13 i)) = s3 := hs3.symm
    have g8 : zsu s3 (27 + 9 + i) (va_cpy (s3 (10 + 9 + i)) (s3 (27 + 9 + i)) 0 0 n) = zbc σ n (i + 1) := g4
    unfold B_X4_become_10
    simp (disch := omega) only [↓reduceIte, ↓znm, ↓zbd_some, ↓zbv_some, ↓zga_in, ↓zgs_in, ↓zgr_in, zga_in, zgs_in, zgr_in, zgz_n0, zgz_n1, zlit, nI_add, pk_mul, pk_sub, znI_or, znI_and, znI_df, zon_ok, zbt_ok, zlt_t, zlt_f, zle_t, zle_f, zeq_f, f0, g0, g5, g1, g6, g2, g7, g3, zcp_8, g8]
  · unfold B_X4_become_10
    simp (disch := omega) only [↓reduceIte, ↓znm, ↓zbd_some, ↓zbv_some, ↓zga_in, ↓zgs_in, ↓zgr_in, zga_in, zgs_in, zgr_in, zgz_n0, zgz_n1, zlit, nI_add, pk_mul, pk_sub, znI_or, znI_and, znI_df, zon_ok, zbt_ok, zlt_t, zlt_f, zle_t, zle_f, zeq_f, f0]
theorem zDy.start {σ τ τk : zSt} {n : Nat} {kd ld tw : Nat → Nat} {d : Nat → Nat → Nat} (h1 : zVX σ 10 n kd ld tw) (h2 : zVM τk n kd ld tw) (h3 : zOK n kd ld tw) (h4 : zAX σ 10 n d) (h5 : zTR (fun p => p < n) tw d) (h7 : ∀ c, c ≠ 4 → c ≠ 6 → τk c = τ c) : zDy σ τ (zbc σ n n) τk n kd := by
  have hn := h3.1
  refine ⟨ld, tw, d, ⟨?_, fun p hp => ?_⟩, h2, h3, fun p hp q hq => ?_, h5, fun c hc => zbc_c hc hn, h7⟩
  · unfold zbc
    rw [if_pos ⟨rfl, rfl⟩]
  · have := h1.2 p hp
    unfold zbc
    rw [if_neg (by omega), if_pos (by omega), if_neg (by omega), if_pos (by omega), if_neg (by omega), if_pos (by omega)]
    exact this
  · have := h4 p hp q hq
    unfold zbc
    rw [if_neg (by omega), if_neg (by omega), if_pos (by omega), show 27 + 9 + p - 17 = 10 + 9 + p by omega]
    exact this
