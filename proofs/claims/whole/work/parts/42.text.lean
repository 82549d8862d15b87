/-! PURE: the text of a vine, both sides -/
def zdg (b : Nat) (c : Int32) : Prop := ∃ v, v < b ∧ c = nI (48 + v)
def zlet (c : Int32) : Prop := c = nI 98 ∨ c = nI 100 ∨ c = nI 112
def zpg (m j : Nat) (c : Int32) : Prop := if j < m then zdg m c else if (j - m) % 2 = 0 then zlet c else zdg 10 c
def zdi (c : Int32) : Nat := c.toNatClampNeg - 48
def zkn (c : Int32) : Nat := if c = nI 98 then 1 else if c = nI 100 then 2 else 0
theorem zdi_ok {v : Nat} (h : v < 1000) : zdi (nI (48 + v)) = v := by
  unfold zdi
  rw [nI_clamp (by omega)]
  omega
theorem zdg_get {b : Nat} (hb : b ≤ 10) {c : Int32} (h : zdg b c) : zdi c < b ∧ c = nI (48 + zdi c) := by
  obtain ⟨v, h1, rfl⟩ := h
  rw [zdi_ok (by omega)]
  exact ⟨h1, rfl⟩
theorem zdg_no {b : Nat} (hb : b ≤ 10) {c : Int32} (h : ¬ zdg b c) : c < 0 ∨ nI (48 + b) ≤ c ∨ ∃ j, j < 48 ∧ c = nI j := by
  rcases zix c (n := 48 + b) (by omega) with e | e | ⟨j, j1, rfl⟩
  · exact Or.inl e
  · exact Or.inr (Or.inl e)
  · by_cases e : j < 48
    · exact Or.inr (Or.inr ⟨j, e, rfl⟩)
    · exact absurd ⟨j - 48, by omega, by rw [show 48 + (j - 48) = j by omega]⟩ h
theorem zlet_no {c : Int32} (h : ¬ zlet c) : (c = nI 98) = False ∧ (c = nI 100) = False ∧ (c = nI 112) = False := ⟨eq_false (fun e => h (Or.inl e)), eq_false (fun e => h (Or.inr (Or.inl e))), eq_false (fun e => h (Or.inr (Or.inr e)))⟩
theorem kindOf_ok {c : Int32} (h : zlet c) (σ : zSt) : M_X3_kindOf c σ = some (nI (zkn c), σ) := by
  unfold M_X3_kindOf
  rcases h with rfl | rfl | rfl
  · simp (disch := omega) only [↓reduceIte, ↓znm, ↓zbd_some, ↓zbv_some, ↓zga_in, ↓zgs_in, ↓zgr_in, zga_in, zgs_in, zgr_in, zgz_n0, zgz_n1, zlit, nI_add, pk_mul, pk_sub, znI_or, znI_and, znI_df, zon_ok, zbt_ok, zlt_t, zlt_f, zle_t, zle_f, zeq_f]; rfl
  · simp (disch := omega) only [↓reduceIte, ↓znm, ↓zbd_some, ↓zbv_some, ↓zga_in, ↓zgs_in, ↓zgr_in, zga_in, zgs_in, zgr_in, zgz_n0, zgz_n1, zlit, nI_add, pk_mul, pk_sub, znI_or, znI_and, znI_df, zon_ok, zbt_ok, zlt_t, zlt_f, zle_t, zle_f, zeq_f]; rfl
  · simp (disch := omega) only [↓reduceIte, ↓znm, ↓zbd_some, ↓zbv_some, ↓zga_in, ↓zgs_in, ↓zgr_in, zga_in, zgs_in, zgr_in, zgz_n0, zgz_n1, zlit, nI_add, pk_mul, pk_sub, znI_or, znI_and, znI_df, zon_ok, zbt_ok, zlt_t, zlt_f, zle_t, zle_f, zeq_f]; rfl
theorem kindOf_no {c : Int32} (h : ¬ zlet c) (σ : zSt) : M_X3_kindOf c σ = some (-nI 9, σ) := by
  obtain ⟨e1, e2, e3⟩ := zlet_no h
  unfold M_X3_kindOf
  simp (disch := omega) only [↓reduceIte, ↓znm, ↓zbd_some, ↓zbv_some, ↓zga_in, ↓zgs_in, ↓zgr_in, zga_in, zgs_in, zgr_in, zgz_n0, zgz_n1, zlit, nI_add, pk_mul, pk_sub, znI_or, znI_and, znI_df, zon_ok, zbt_ok, zlt_t, zlt_f, zle_t, zle_f, zeq_f, e1, e2, e3]
theorem zkn_le (c : Int32) : zkn c ≤ 2 := by
  unfold zkn
  split <;> (try split) <;> omega
theorem goesOn_2 {m j : Nat} (hm : m ≤ 8) (h2 : 2 ≤ j) (hj : j ≤ 60) (h3 : j < 3 * m) (c : Int32) (σ : zSt) : (zpg m j c → M_X3_goesOn (nI j) c (nI m) σ = some (nI 1, σ)) ∧ (¬ zpg m j c → M_X3_goesOn (nI j) c (nI m) σ = some (nI 0, σ)) := by
  unfold zpg M_X3_goesOn
  by_cases e : j < m
  · rw [if_pos e]
    constructor
    · rintro ⟨v, v1, rfl⟩
      simp (disch := omega) only [↓reduceIte, ↓znm, ↓zbd_some, ↓zbv_some, ↓zga_in, ↓zgs_in, ↓zgr_in, zga_in, zgs_in, zgr_in, zgz_n0, zgz_n1, zlit, nI_add, pk_mul, pk_sub, znI_or, znI_and, znI_df, zon_ok, zbt_ok, zlt_t, zlt_f, zle_t, zle_f, zeq_f]
    · intro h
      rcases zdg_no (by omega) h with c1 | c1 | ⟨i, i1, rfl⟩
      · simp (disch := omega) only [↓reduceIte, ↓znm, ↓zbd_some, ↓zbv_some, ↓zga_in, ↓zgs_in, ↓zgr_in, zga_in, zgs_in, zgr_in, zgz_n0, zgz_n1, zlit, nI_add, pk_mul, pk_sub, znI_or, znI_and, znI_df, zon_ok, zbt_ok, zlt_t, zlt_f, zle_t, zle_f, zeq_f, zneg_lt c1]
      · simp (disch := omega) only [↓reduceIte, ↓znm, ↓zbd_some, ↓zbv_some, ↓zga_in, ↓zgs_in, ↓zgr_in, zga_in, zgs_in, zgr_in, zgz_n0, zgz_n1, zlit, nI_add, pk_mul, pk_sub, znI_or, znI_and, znI_df, zon_ok, zbt_ok, zlt_t, zlt_f, zle_t, zle_f, zeq_f, zbig_lt (by omega) c1, zbig_ge (by omega) c1]
      · simp (disch := omega) only [↓reduceIte, ↓znm, ↓zbd_some, ↓zbv_some, ↓zga_in, ↓zgs_in, ↓zgr_in, zga_in, zgs_in, zgr_in, zgz_n0, zgz_n1, zlit, nI_add, pk_mul, pk_sub, znI_or, znI_and, znI_df, zon_ok, zbt_ok, zlt_t, zlt_f, zle_t, zle_f, zeq_f]
  · rw [if_neg e]
    by_cases e2 : (j - m) % 2 = 0
    · rw [if_pos e2]
      constructor
      · intro h
        have k1 := kindOf_ok h σ
        have k2 := zkn_le c
        have n9 : (nI (zkn c) = -nI 9) = False := eq_false (zneg_ne (by omega) (by decide) (by decide))
        unfold B_X3_goesOn_86
        simp (disch := omega) only [↓reduceIte, ↓znm, ↓zbd_some, ↓zbv_some, ↓zga_in, ↓zgs_in, ↓zgr_in, zga_in, zgs_in, zgr_in, zgz_n0, zgz_n1, zlit, nI_add, pk_mul, pk_sub, znI_or, znI_and, znI_df, zon_ok, zbt_ok, zlt_t, zlt_f, zle_t, zle_f, zeq_f, zrm_n, e2, ↓zbd_of k1, n9]
      · intro h
        have k1 := kindOf_no h σ
        unfold B_X3_goesOn_86
        simp (disch := omega) only [↓reduceIte, ↓znm, ↓zbd_some, ↓zbv_some, ↓zga_in, ↓zgs_in, ↓zgr_in, zga_in, zgs_in, zgr_in, zgz_n0, zgz_n1, zlit, nI_add, pk_mul, pk_sub, znI_or, znI_and, znI_df, zon_ok, zbt_ok, zlt_t, zlt_f, zle_t, zle_f, zeq_f, zrm_n, e2, ↓zbd_of k1]
    · rw [if_neg e2]
      constructor
      · rintro ⟨v, v1, rfl⟩
        unfold B_X3_goesOn_86
        simp (disch := omega) only [↓reduceIte, ↓znm, ↓zbd_some, ↓zbv_some, ↓zga_in, ↓zgs_in, ↓zgr_in, zga_in, zgs_in, zgr_in, zgz_n0, zgz_n1, zlit, nI_add, pk_mul, pk_sub, znI_or, znI_and, znI_df, zon_ok, zbt_ok, zlt_t, zlt_f, zle_t, zle_f, zeq_f, zrm_n, e2]
      · intro h
        unfold B_X3_goesOn_86
        rcases zdg_no (by omega) h with c1 | c1 | ⟨i, i1, rfl⟩
        · simp (disch := omega) only [↓reduceIte, ↓znm, ↓zbd_some, ↓zbv_some, ↓zga_in, ↓zgs_in, ↓zgr_in, zga_in, zgs_in, zgr_in, zgz_n0, zgz_n1, zlit, nI_add, pk_mul, pk_sub, znI_or, znI_and, znI_df, zon_ok, zbt_ok, zlt_t, zlt_f, zle_t, zle_f, zeq_f, zrm_n, e2, zneg_lt c1]
        · simp (disch := omega) only [↓reduceIte, ↓znm, ↓zbd_some, ↓zbv_some, ↓zga_in, ↓zgs_in, ↓zgr_in, zga_in, zgs_in, zgr_in, zgz_n0, zgz_n1, zlit, nI_add, pk_mul, pk_sub, znI_or, znI_and, znI_df, zon_ok, zbt_ok, zlt_t, zlt_f, zle_t, zle_f, zeq_f, zrm_n, e2, zbig_lt (by omega) c1, zbig_gt (by omega) c1]
        · simp (disch := omega) only [↓reduceIte, ↓znm, ↓zbd_some, ↓zbv_some, ↓zga_in, ↓zgs_in, ↓zgr_in, zga_in, zgs_in, zgr_in, zgz_n0, zgz_n1, zlit, nI_add, pk_mul, pk_sub, znI_or, znI_and, znI_df, zon_ok, zbt_ok, zlt_t, zlt_f, zle_t, zle_f, zeq_f, zrm_n, e2]
theorem goesOn_3 {m j : Nat} (hm : m ≤ 8) (h2 : 2 ≤ j) (hj : j ≤ 60) (h3 : 3 * m ≤ j) (c : Int32) (σ : zSt) : M_X3_goesOn (nI j) c (nI m) σ = some (nI 0, σ) := by
  unfold M_X3_goesOn
  simp (disch := omega) only [↓reduceIte, ↓znm, ↓zbd_some, ↓zbv_some, ↓zga_in, ↓zgs_in, ↓zgr_in, zga_in, zgs_in, zgr_in, zgz_n0, zgz_n1, zlit, nI_add, pk_mul, pk_sub, znI_or, znI_and, znI_df, zon_ok, zbt_ok, zlt_t, zlt_f, zle_t, zle_f, zeq_f]
/-- a text whose first two are right, right up to place f -/
def zTx (C : Nat → Int32) (N m f : Nat) : Prop := 2 ≤ m ∧ m ≤ 8 ∧ 2 ≤ N ∧ N ≤ 60 ∧ C 0 = nI 118 ∧ C 1 = nI (48 + m) ∧ 2 ≤ f ∧ f ≤ 3 * m ∧ (∀ j, 2 ≤ j → j < f → j < N ∧ zpg m j (C j)) ∧ (f < 3 * m → N ≤ f ∨ ¬ zpg m f (C f))
/-- every text: bad at 0 or 1, or of that kind -/
theorem zTx_cases (C : Nat → Int32) {N : Nat} (hN : N ≤ 60) : (N = 0 ∨ ¬ C 0 = nI 118) ∨ (C 0 = nI 118 ∧ 1 ≤ N ∧ (N = 1 ∨ ¬ ∃ m, 2 ≤ m ∧ m ≤ 8 ∧ C 1 = nI (48 + m))) ∨ ∃ m f, zTx C N m f := by
  by_cases h0 : N = 0 ∨ ¬ C 0 = nI 118
  · exact Or.inl h0
  · have h0' : C 0 = nI 118 := Classical.not_not.mp (fun q => h0 (Or.inr q))
    by_cases h1 : N = 1 ∨ ¬ ∃ m, 2 ≤ m ∧ m ≤ 8 ∧ C 1 = nI (48 + m)
    · exact Or.inr (Or.inl ⟨h0', by omega, h1⟩)
    · obtain ⟨m, m1, m2, m3⟩ : ∃ m, 2 ≤ m ∧ m ≤ 8 ∧ C 1 = nI (48 + m) := Classical.not_not.mp (fun q => h1 (Or.inr q))
      refine Or.inr (Or.inr ⟨m, ?_⟩)
      have hN2 : 2 ≤ N := by omega
      rcases zfirst (fun j => N ≤ j + 2 ∨ ¬ zpg m (j + 2) (C (j + 2))) (3 * m - 2) with ⟨e, e1, e2, e3⟩ | hno
      · refine ⟨e + 2, m1, m2, hN2, hN, h0', m3, by omega, by omega, fun j j1 j2 => ?_, fun _ => e2⟩
        have := e3 (j - 2) (by omega)
        rw [show j - 2 + 2 = j by omega] at this
        exact ⟨by omega, Classical.not_not.mp (fun q => this (Or.inr q))⟩
      · refine ⟨3 * m, m1, m2, hN2, hN, h0', m3, by omega, by omega, fun j j1 j2 => ?_, fun h => by omega⟩
        have := hno (j - 2) (by omega)
        rw [show j - 2 + 2 = j by omega] at this
        exact ⟨by omega, Classical.not_not.mp (fun q => this (Or.inr q))⟩
theorem firstFault_bad0 {σ : zSt} {q i0 N : Nat} {C : Nat → Int32} (hi : i0 + N ≤ 60) (ha : ∀ j, j < N → M_X2_at q (nI (i0 + j)) σ = some (C j, σ)) (h : N = 0 ∨ ¬ C 0 = nI 118) : M_X3_firstFault q (nI i0) (nI N) σ = some (nI 0, σ) := by
  unfold M_X3_firstFault L_X3_firstFault_6
  refine zloop_for (fun j => (nI 8, nI 0, σ)) 0 rfl (by decide) (fun rec i hi => by omega) (fun rec => ?_)
  unfold B_X3_firstFault_6
  by_cases hN : N = 0
  · subst hN
    simp (disch := omega) only [↓reduceIte, ↓znm, ↓zbd_some, ↓zbv_some, ↓zga_in, ↓zgs_in, ↓zgr_in, zga_in, zgs_in, zgr_in, zgz_n0, zgz_n1, zlit, nI_add, pk_mul, pk_sub, znI_or, znI_and, znI_df, zon_ok, zbt_ok, zlt_t, zlt_f, zle_t, zle_f, zeq_f]
  · have hc := h.resolve_left hN
    have c0 := ha 0 (by omega)
    rw [Nat.add_zero] at c0
    have n1 := eq_false hc
    unfold M_X3_goesOn
    simp (disch := omega) only [↓reduceIte, ↓znm, ↓zbd_some, ↓zbv_some, ↓zga_in, ↓zgs_in, ↓zgr_in, zga_in, zgs_in, zgr_in, zgz_n0, zgz_n1, zlit, nI_add, pk_mul, pk_sub, znI_or, znI_and, znI_df, zon_ok, zbt_ok, zlt_t, zlt_f, zle_t, zle_f, zeq_f, Nat.add_zero, ↓zbd_of c0, n1]
theorem firstFault_bad1 {σ : zSt} {q i0 N : Nat} {C : Nat → Int32} (hi : i0 + N ≤ 60) (ha : ∀ j, j < N → M_X2_at q (nI (i0 + j)) σ = some (C j, σ)) (h0 : C 0 = nI 118) (h1 : 1 ≤ N) (h : N = 1 ∨ ¬ ∃ m, 2 ≤ m ∧ m ≤ 8 ∧ C 1 = nI (48 + m)) : M_X3_firstFault q (nI i0) (nI N) σ = some (nI 1, σ) := by
  have c0 := ha 0 (by omega)
  rw [Nat.add_zero, h0] at c0
  unfold M_X3_firstFault L_X3_firstFault_6
  refine zloop_for (fun j => (nI 8, nI j, σ)) 1 rfl (by decide) (fun rec i hi => ?_) (fun rec => ?_)
  · have : i = 0 := by omega
    subst this
    unfold B_X3_firstFault_6 B_X3_firstFault_48 M_X3_goesOn
    simp (disch := omega) only [↓reduceIte, ↓znm, ↓zbd_some, ↓zbv_some, ↓zga_in, ↓zgs_in, ↓zgr_in, zga_in, zgs_in, zgr_in, zgz_n0, zgz_n1, zlit, nI_add, pk_mul, pk_sub, znI_or, znI_and, znI_df, zon_ok, zbt_ok, zlt_t, zlt_f, zle_t, zle_f, zeq_f, Nat.add_zero, ↓zbd_of c0]
  · unfold B_X3_firstFault_6
    by_cases hN : N = 1
    · subst hN
      simp (disch := omega) only [↓reduceIte, ↓znm, ↓zbd_some, ↓zbv_some, ↓zga_in, ↓zgs_in, ↓zgr_in, zga_in, zgs_in, zgr_in, zgz_n0, zgz_n1, zlit, nI_add, pk_mul, pk_sub, znI_or, znI_and, znI_df, zon_ok, zbt_ok, zlt_t, zlt_f, zle_t, zle_f, zeq_f]
    · have hc := h.resolve_left hN
      have c1 := ha 1 (by omega)
      unfold M_X3_goesOn
      rcases zix (C 1) (n := 57) (by decide) with e | e | ⟨j, hj, e⟩
      · simp (disch := omega) only [↓reduceIte, ↓znm, ↓zbd_some, ↓zbv_some, ↓zga_in, ↓zgs_in, ↓zgr_in, zga_in, zgs_in, zgr_in, zgz_n0, zgz_n1, zlit, nI_add, pk_mul, pk_sub, znI_or, znI_and, znI_df, zon_ok, zbt_ok, zlt_t, zlt_f, zle_t, zle_f, zeq_f, ↓zbd_of c1, zneg_lt e]
      · simp (disch := omega) only [↓reduceIte, ↓znm, ↓zbd_some, ↓zbv_some, ↓zga_in, ↓zgs_in, ↓zgr_in, zga_in, zgs_in, zgr_in, zgz_n0, zgz_n1, zlit, nI_add, pk_mul, pk_sub, znI_or, znI_and, znI_df, zon_ok, zbt_ok, zlt_t, zlt_f, zle_t, zle_f, zeq_f, ↓zbd_of c1, zbig_lt (by decide) e, zbig_gt (by decide) e]
      · have : j < 50 := by
          by_cases g : j < 50
          · exact g
          · exact absurd ⟨j - 48, by omega, by omega, by rw [e, show 48 + (j - 48) = j by omega]⟩ hc
        simp (disch := omega) only [↓reduceIte, ↓znm, ↓zbd_some, ↓zbv_some, ↓zga_in, ↓zgs_in, ↓zgr_in, zga_in, zgs_in, zgr_in, zgz_n0, zgz_n1, zlit, nI_add, pk_mul, pk_sub, znI_or, znI_and, znI_df, zon_ok, zbt_ok, zlt_t, zlt_f, zle_t, zle_f, zeq_f, ↓zbd_of c1, e]
theorem firstFault_ok {σ : zSt} {q i0 N m f : Nat} {C : Nat → Int32} (hi : i0 + N ≤ 60) (ha : ∀ j, j < N → M_X2_at q (nI (i0 + j)) σ = some (C j, σ)) (h : zTx C N m f) : M_X3_firstFault q (nI i0) (nI N) σ = some (if f = 3 * m ∧ N = 3 * m then -nI 9 else nI f, σ) := by
  obtain ⟨h1, h2, h3, h4, h5, h6, h7, h8, h9, h10⟩ := h
  have hfN : f ≤ N := by
    by_cases e : f ≤ N
    · exact e
    · have := (h9 N h3 (by omega)).1
      omega
  unfold M_X3_firstFault L_X3_firstFault_6
  refine zloop_for (fun j => (nI (if j ≤ 1 then 8 else m), nI j, σ)) f rfl (by omega) (fun rec j hj => ?_) (fun rec => ?_)
  · have c := ha j (by omega)
    unfold B_X3_firstFault_6 B_X3_firstFault_48
    rcases (by omega : j = 0 ∨ j = 1 ∨ 2 ≤ j) with rfl | rfl | e
    · rw [Nat.add_zero, h5] at c
      unfold M_X3_goesOn
      simp (disch := omega) only [↓reduceIte, ↓znm, ↓zbd_some, ↓zbv_some, ↓zga_in, ↓zgs_in, ↓zgr_in, zga_in, zgs_in, zgr_in, zgz_n0, zgz_n1, zlit, nI_add, pk_mul, pk_sub, znI_or, znI_and, znI_df, zon_ok, zbt_ok, zlt_t, zlt_f, zle_t, zle_f, zeq_f, Nat.add_zero, ↓zbd_of c]
      rfl
    · rw [h6] at c
      unfold M_X3_goesOn
      simp (disch := omega) only [↓reduceIte, ↓znm, ↓zbd_some, ↓zbv_some, ↓zga_in, ↓zgs_in, ↓zgr_in, zga_in, zgs_in, zgr_in, zgz_n0, zgz_n1, zlit, nI_add, pk_mul, pk_sub, znI_or, znI_and, znI_df, zon_ok, zbt_ok, zlt_t, zlt_f, zle_t, zle_f, zeq_f, ↓zbd_of c, show 48 + m - 48 = m by omega]
      rfl
    · have g := (goesOn_2 h2 e (by omega) (by omega) (C j) σ).1 (h9 j e hj).2
      have e1 : (if j ≤ 1 then 8 else m) = m := if_neg (by omega)
      have e2 : (if j + 1 ≤ 1 then 8 else m) = m := if_neg (by omega)
      rw [e1, e2]
      simp (disch := omega) only [↓reduceIte, ↓znm, ↓zbd_some, ↓zbv_some, ↓zga_in, ↓zgs_in, ↓zgr_in, zga_in, zgs_in, zgr_in, zgz_n0, zgz_n1, zlit, nI_add, pk_mul, pk_sub, znI_or, znI_and, znI_df, zon_ok, zbt_ok, zlt_t, zlt_f, zle_t, zle_f, zeq_f, ↓zbd_of c, ↓zbd_of g]
  · have e1 : (if f ≤ 1 then 8 else m) = m := if_neg (by omega)
    rw [e1]
    unfold B_X3_firstFault_6 B_X3_firstFault_48
    by_cases e : f = N
    · subst e
      by_cases e2 : f = 3 * m
      · simp (disch := omega) only [↓reduceIte, ↓znm, ↓zbd_some, ↓zbv_some, ↓zga_in, ↓zgs_in, ↓zgr_in, zga_in, zgs_in, zgr_in, zgz_n0, zgz_n1, zlit, nI_add, pk_mul, pk_sub, znI_or, znI_and, znI_df, zon_ok, zbt_ok, zlt_t, zlt_f, zle_t, zle_f, zeq_f, e2, and_self]
      · have n1 := zeq_f e2 (by omega) (by omega)
        simp (disch := omega) only [↓reduceIte, ↓znm, ↓zbd_some, ↓zbv_some, ↓zga_in, ↓zgs_in, ↓zgr_in, zga_in, zgs_in, zgr_in, zgz_n0, zgz_n1, zlit, nI_add, pk_mul, pk_sub, znI_or, znI_and, znI_df, zon_ok, zbt_ok, zlt_t, zlt_f, zle_t, zle_f, zeq_f, n1, e2, and_self]
    · have c := ha f (by omega)
      have nf : ¬ (f = 3 * m ∧ N = 3 * m) := by omega
      by_cases e2 : f = 3 * m
      · have g := goesOn_3 h2 h7 (by omega) (by omega) (C f) σ
        simp (disch := omega) only [↓reduceIte, ↓znm, ↓zbd_some, ↓zbv_some, ↓zga_in, ↓zgs_in, ↓zgr_in, zga_in, zgs_in, zgr_in, zgz_n0, zgz_n1, zlit, nI_add, pk_mul, pk_sub, znI_or, znI_and, znI_df, zon_ok, zbt_ok, zlt_t, zlt_f, zle_t, zle_f, zeq_f, ↓zbd_of c, ↓zbd_of g, nf]
      · have g := (goesOn_2 h2 h7 (by omega) (by omega) (C f) σ).2 ((h10 (by omega)).resolve_left (by omega))
        simp (disch := omega) only [↓reduceIte, ↓znm, ↓zbd_some, ↓zbv_some, ↓zga_in, ↓zgs_in, ↓zgr_in, zga_in, zgs_in, zgr_in, zgz_n0, zgz_n1, zlit, nI_add, pk_mul, pk_sub, znI_or, znI_and, znI_df, zon_ok, zbt_ok, zlt_t, zlt_f, zle_t, zle_f, zeq_f, ↓zbd_of c, ↓zbd_of g, nf]
