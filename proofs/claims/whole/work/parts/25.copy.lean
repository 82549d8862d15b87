/-! PURE: copy, reading, back -/
theorem zcp_ok {β : Type} {σ : zSt} {i j : Nat} {sp dp n : Nat} {K : zSt → Option β} (h1 : sp + n ≤ 60) (h2 : dp + n ≤ 60) : zcp σ i j 60 60 (nI sp) (nI dp) (nI n) K = K (zsu σ j (va_cpy (σ i) (σ j) sp dp n)) := by
  unfold zcp
  rw [nI_clamp (by omega), nI_clamp (by omega), nI_clamp (by omega), if_pos ⟨⟨nI_pos' (by omega), nI_pos' (by omega), nI_pos' (by omega)⟩, h1, h2⟩]
/-- f, but in the places D+lo .. D+hi what stood from S+lo on -/
def zcr (f : Nat → Int32) (S D lo hi : Nat) : Nat → Int32 := fun m => if D + lo ≤ m ∧ m < D + hi then f (S + (m - D)) else f m
theorem zcr_0 {f : Nat → Int32} {S D lo : Nat} : zcr f S D lo lo = f := by
  funext m
  unfold zcr
  rw [if_neg (by omega)]
theorem zcr_up {f : Nat → Int32} {S D q : Nat} : upd (zcr f S D 0 q) (D + q) (f (S + q)) = zcr f S D 0 (q + 1) := by
  funext m
  unfold upd
  by_cases e : m = D + q
  · rw [if_pos e]
    unfold zcr
    rw [if_pos (by omega)]
    congr 1; omega
  · rw [if_neg e]
    unfold zcr
    by_cases c : D + 0 ≤ m ∧ m < D + q
    · rw [if_pos c, if_pos (by omega)]
    · rw [if_neg c, if_neg (by omega)]
theorem zcr_dn {f : Nat → Int32} {S D lo hi : Nat} (h : lo < hi) : upd (zcr f S D (lo + 1) hi) (D + lo) (f (S + lo)) = zcr f S D lo hi := by
  funext m
  unfold upd
  by_cases e : m = D + lo
  · rw [if_pos e]
    unfold zcr
    rw [if_pos (by omega)]
    congr 1; omega
  · rw [if_neg e]
    unfold zcr
    by_cases c : D + (lo + 1) ≤ m ∧ m < D + hi
    · rw [if_pos c, if_pos (by omega)]
    · rw [if_neg c, if_neg (by omega)]
theorem copyM_up {τ : zSt} {k i o j n : Nat} (hk : k < 4) (ho : o < 4) (hi : i + n ≤ 60) (hj : j + n ≤ 60) (hd : k = o → j ≤ i) : L_X6_copy_166 (nI k) (nI i) (nI o) (nI j) (nI n) (nI 0) (nI 0) τ = some (nI n, zsu τ 3 (zcr (τ 3) (60 * k + i) (60 * o + j) 0 n)) := by
  unfold L_X6_copy_166
  refine zloop_for (fun q => (nI 0, nI q, zsu τ 3 (zcr (τ 3) (60 * k + i) (60 * o + j) 0 q))) n ?_ (by omega) (fun rec q hq => ?_) (fun rec => ?_)
  · rw [zcr_0, zsu_self]
  · have e : zcr (τ 3) (60 * k + i) (60 * o + j) 0 q (60 * k + i + q) = τ 3 (60 * k + i + q) := by
      unfold zcr
      rw [if_neg]
      intro c
      by_cases e : k = o
      · have := hd e
        subst e
        omega
      · rcases Nat.lt_or_gt_of_ne e with h | h <;> omega
    unfold B_X6_copy_166 B_X6_copy_190
    simp (disch := omega) only [znm, zbd_some, zbv_some, zgz_n0, zgz_n1, zlit, nI_add, pk_mul, pk_sub, znI_or, znI_and, znI_df, zon_ok, zbt_ok, zlt, zleI, zeqI, zga_in, zgs_in, zgr_in, if_pos, if_neg, if_true, if_false, Bool.false_eq_true, zsu_eq, zsu_su, e, zcr_up]
  · unfold B_X6_copy_166
    simp (disch := omega) only [znm, zbd_some, zbv_some, zgz_n0, zgz_n1, zlit, nI_add, pk_mul, pk_sub, znI_or, znI_and, znI_df, zon_ok, zbt_ok, zlt, zleI, zeqI, zga_in, zgs_in, zgr_in, if_pos, if_neg, if_true, if_false, Bool.false_eq_true]
theorem copyM_dn {τ : zSt} {k i o j n : Nat} (hk : k < 4) (ho : o < 4) (hi : i + n ≤ 60) (hj : j + n ≤ 60) (hd : i < j) : L_X6_copy_166 (nI k) (nI i) (nI o) (nI j) (nI n) (nI 1) (nI 0) τ = some (nI n, zsu τ 3 (zcr (τ 3) (60 * k + i) (60 * o + j) 0 n)) := by
  unfold L_X6_copy_166
  refine zloop_for (fun q => (nI 1, nI q, zsu τ 3 (zcr (τ 3) (60 * k + i) (60 * o + j) (n - q) n))) n ?_ (by omega) (fun rec q hq => ?_) (fun rec => ?_)
  · rw [Nat.sub_zero, zcr_0, zsu_self]
  · have e : zcr (τ 3) (60 * k + i) (60 * o + j) (n - q) n (60 * k + i + (n - 1 - q)) = τ 3 (60 * k + i + (n - 1 - q)) := by
      unfold zcr
      rw [if_neg]
      intro c
      by_cases e : k = o
      · subst e
        omega
      · rcases Nat.lt_or_gt_of_ne e with h | h <;> omega
    have e2 := zcr_dn (f := τ 3) (S := 60 * k + i) (D := 60 * o + j) (lo := n - 1 - q) (hi := n) (by omega)
    rw [show n - 1 - q + 1 = n - q by omega] at e2
    unfold B_X6_copy_166 B_X6_copy_190
    simp (disch := omega) only [znm, zbd_some, zbv_some, zgz_n0, zgz_n1, zlit, nI_add, pk_mul, pk_sub, znI_or, znI_and, znI_df, zon_ok, zbt_ok, zlt, zleI, zeqI, zga_in, zgs_in, zgr_in, if_pos, if_neg, if_true, if_false, Bool.false_eq_true, zsu_eq, zsu_su, e, e2]
    rw [show n - (q + 1) = n - 1 - q by omega]
  · unfold B_X6_copy_166
    simp (disch := omega) only [znm, zbd_some, zbv_some, zgz_n0, zgz_n1, zlit, nI_add, pk_mul, pk_sub, znI_or, znI_and, znI_df, zon_ok, zbt_ok, zlt, zleI, zeqI, zga_in, zgs_in, zgr_in, if_pos, if_neg, if_true, if_false, Bool.false_eq_true, Nat.sub_self]
theorem sim_copy (p1 p2 p3 p4 p5 : Int32) : zSim (M_X5_copy p1 p2 p3 p4 p5) (M_X6_copy p1 p2 p3 p4 p5) := by
  intro σ τ h0
  have h := h0.fault (nI 0)
  unfold M_X5_copy M_X6_copy
  simp only [↓znm, zlit]
  generalize zsu σ 0 (upd (σ 0) 7 (nI 0)) = σ at h ⊢
  generalize zsu τ 0 (upd (τ 0) 0 (nI 0)) = τ at h ⊢
  rcases zcase p1 4 (by decide) with hp | ⟨k, hk, rfl⟩
  · refine ⟨-nI 1, σ, τ, ?_, ?_, h⟩
    · simp (disch := omega) only [↓reduceIte, ↓znm, ↓zbd_some, ↓zbv_some, ↓zga_in, ↓zgs_in, ↓zgr_in, zga_in, zgs_in, zgr_in, zgz_n0, zgz_n1, zlit, nI_add, pk_mul, pk_sub, znI_or, znI_and, znI_df, zon_ok, zbt_ok, zlt_t, zlt_f, zle_t, zle_f, zeq_f, ↓zbd_of ((isSheet_no hp σ).1), B_X5_copy_55, B_X5_copy_103, B_X6_copy_43, B_X6_copy_109, B_X6_copy_110, B_X6_copy_144, B_X6_copy_161]
    · simp (disch := omega) only [↓reduceIte, ↓znm, ↓zbd_some, ↓zbv_some, ↓zga_in, ↓zgs_in, ↓zgr_in, zga_in, zgs_in, zgr_in, zgz_n0, zgz_n1, zlit, nI_add, pk_mul, pk_sub, znI_or, znI_and, znI_df, zon_ok, zbt_ok, zlt_t, zlt_f, zle_t, zle_f, zeq_f, ↓zbd_of ((isSheet_no hp τ).2), B_X5_copy_55, B_X5_copy_103, B_X6_copy_43, B_X6_copy_109, B_X6_copy_110, B_X6_copy_144, B_X6_copy_161]
  have u1 := (isSheet_yes hk σ).1
  have u2 := (isSheet_yes hk τ).2
  rcases zcase p3 4 (by decide) with hp | ⟨o, ho, rfl⟩
  · refine ⟨-nI 1, σ, τ, ?_, ?_, h⟩
    · simp (disch := omega) only [↓reduceIte, ↓znm, ↓zbd_some, ↓zbv_some, ↓zga_in, ↓zgs_in, ↓zgr_in, zga_in, zgs_in, zgr_in, zgz_n0, zgz_n1, zlit, nI_add, pk_mul, pk_sub, znI_or, znI_and, znI_df, zon_ok, zbt_ok, zlt_t, zlt_f, zle_t, zle_f, zeq_f, ↓zbd_of (u1), ↓zbd_of ((isSheet_no hp σ).1), B_X5_copy_55, B_X5_copy_103, B_X6_copy_43, B_X6_copy_109, B_X6_copy_110, B_X6_copy_144, B_X6_copy_161]
    · simp (disch := omega) only [↓reduceIte, ↓znm, ↓zbd_some, ↓zbv_some, ↓zga_in, ↓zgs_in, ↓zgr_in, zga_in, zgs_in, zgr_in, zgz_n0, zgz_n1, zlit, nI_add, pk_mul, pk_sub, znI_or, znI_and, znI_df, zon_ok, zbt_ok, zlt_t, zlt_f, zle_t, zle_f, zeq_f, ↓zbd_of (u2), ↓zbd_of ((isSheet_no hp τ).2), B_X5_copy_55, B_X5_copy_103, B_X6_copy_43, B_X6_copy_109, B_X6_copy_110, B_X6_copy_144, B_X6_copy_161]
  have w1 := (isSheet_yes ho σ).1
  have w2 := (isSheet_yes ho τ).2
  rcases h.2.1 k hk with ⟨a1, a2⟩ | ⟨ln, len, t1, t2, t3, t4, t5, t6, t7⟩
  · refine ⟨-nI 10 - nI 1, _, _, ?_, ?_, h.fault (nI 1)⟩
    · simp (disch := omega) only [↓reduceIte, ↓znm, ↓zbd_some, ↓zbv_some, ↓zga_in, ↓zgs_in, ↓zgr_in, zga_in, zgs_in, zgr_in, zgz_n0, zgz_n1, zlit, nI_add, pk_mul, pk_sub, znI_or, znI_and, znI_df, zon_ok, zbt_ok, zlt_t, zlt_f, zle_t, zle_f, zeq_f, ↓zbd_of (u1), ↓zbd_of (w1), a1, faulted_ok, B_X5_copy_55, B_X5_copy_103, B_X6_copy_43, B_X6_copy_109, B_X6_copy_110, B_X6_copy_144, B_X6_copy_161]
    · simp (disch := omega) only [↓reduceIte, ↓znm, ↓zbd_some, ↓zbv_some, ↓zga_in, ↓zgs_in, ↓zgr_in, zga_in, zgs_in, zgr_in, zgz_n0, zgz_n1, zlit, nI_add, pk_mul, pk_sub, znI_or, znI_and, znI_df, zon_ok, zbt_ok, zlt_t, zlt_f, zle_t, zle_f, zeq_f, ↓zbd_of (u2), ↓zbd_of (w2), a2, fails_ok, B_X5_copy_55, B_X5_copy_103, B_X6_copy_43, B_X6_copy_109, B_X6_copy_110, B_X6_copy_144, B_X6_copy_161]
  have n1 : (nI ln = -nI 1) = False := eq_false (zneg_ne (by omega) (by decide) (by decide))
  have n9 : (nI ln = -nI 9) = False := eq_false (zneg_ne (by omega) (by decide) (by decide))
  rcases h.2.1 o ho with ⟨a1, a2⟩ | ⟨lo, leo, s1, s2, s3, s4, s5, s6, s7⟩
  · refine ⟨-nI 10 - nI 1, _, _, ?_, ?_, h.fault (nI 1)⟩
    · simp (disch := omega) only [↓reduceIte, ↓znm, ↓zbd_some, ↓zbv_some, ↓zga_in, ↓zgs_in, ↓zgr_in, zga_in, zgs_in, zgr_in, zgz_n0, zgz_n1, zlit, nI_add, pk_mul, pk_sub, znI_or, znI_and, znI_df, zon_ok, zbt_ok, zlt_t, zlt_f, zle_t, zle_f, zeq_f, ↓zbd_of (u1), ↓zbd_of (w1), t3, n1, a1, faulted_ok, B_X5_copy_55, B_X5_copy_103, B_X6_copy_43, B_X6_copy_109, B_X6_copy_110, B_X6_copy_144, B_X6_copy_161]
    · simp (disch := omega) only [↓reduceIte, ↓znm, ↓zbd_some, ↓zbv_some, ↓zga_in, ↓zgs_in, ↓zgr_in, zga_in, zgs_in, zgr_in, zgz_n0, zgz_n1, zlit, nI_add, pk_mul, pk_sub, znI_or, znI_and, znI_df, zon_ok, zbt_ok, zlt_t, zlt_f, zle_t, zle_f, zeq_f, ↓zbd_of (u2), ↓zbd_of (w2), t4, n9, a2, fails_ok, B_X5_copy_55, B_X5_copy_103, B_X6_copy_43, B_X6_copy_109, B_X6_copy_110, B_X6_copy_144, B_X6_copy_161]
  have m1 : (nI lo = -nI 1) = False := eq_false (zneg_ne (by omega) (by decide) (by decide))
  have m9 : (nI lo = -nI 9) = False := eq_false (zneg_ne (by omega) (by decide) (by decide))
  by_cases hl : ln = lo
  · subst hl
    have z0 : (nI 0).toInt = 0 := rfl
    have zl : (nI len).toInt = len := zti (by omega)
    have zo : (nI leo).toInt = leo := zti (by omega)
    have hA := has_ok t5 t2 p2 p5
    have hB := has_ok s5 s2 p4 p5
    by_cases g1 : zgd len p2 p5
    · by_cases g2 : zgd leo p4 p5
      · obtain ⟨i, hi, rfl⟩ := nI_of (x := p2) (fun q => by rw [zltI] at q; have : (0 : Int32).toInt = 0 := rfl; have := g1.1; omega)
        obtain ⟨j, hj, rfl⟩ := nI_of (x := p4) (fun q => by rw [zltI] at q; have : (0 : Int32).toInt = 0 := rfl; have := g2.1; omega)
        obtain ⟨n, hn, rfl⟩ := nI_of (x := p5) (fun q => by rw [zltI] at q; have : (0 : Int32).toInt = 0 := rfl; have := g2.2.2.1; omega)
        have hA := hA.1 g1
        have hB := hB.1 g2
        unfold zgd at g1 g2
        rw [zti hi, zti hn] at g1
        rw [zti hj, zti hn] at g2
        have e : zRel (zsu σ (2 + o + 4) (va_cpy (σ (2 + k + 4)) (σ (2 + o + 4)) i j n)) (zsu τ 3 (zcr (τ 3) (60 * k + i) (60 * o + j) 0 n)) := by
          refine h.sheet ho (fun c a b => ?_) (fun c a b e => ?_) (fun i hi => ?_) (fun i hi => ?_) (fun m hm => ?_) (Or.inr ⟨ln, leo, by omega, by omega, ?_, ?_, ?_, ?_, fun m hm => ?_⟩)
          · rw [zsu_ne (by omega)]
          · rw [zsu_ne e]
          · rw [zsu_ne (by decide)]
          · rw [zsu_ne (by decide)]
          · rw [zsu_eq]
            unfold zcr
            rw [if_neg (by omega)]
          · rw [zsu_ne (by omega)]; exact s3
          · rw [zsu_ne (by decide)]; exact s4
          · rw [zsu_ne (by omega)]; exact s5
          · rw [zsu_ne (by decide)]; exact s6
          · rw [show 6 + o = 2 + o + 4 by omega, zsu_eq, zsu_eq]
            unfold va_cpy zcr
            by_cases c : j ≤ m ∧ m < j + n
            · rw [if_pos c, if_pos (by omega)]
              have := t7 (i + (m - j)) (by omega)
              rw [show 6 + k = 2 + k + 4 by omega] at this
              rw [this]
              congr 1; omega
            · rw [if_neg c, if_neg (by omega)]
              have := s7 m hm
              rw [show 6 + o = 2 + o + 4 by omega] at this
              exact this
        refine ⟨nI n, _, _, ?_, ?_, e⟩
        · simp (disch := omega) only [↓reduceIte, ↓znm, ↓zbd_some, ↓zbv_some, ↓zga_in, ↓zgs_in, ↓zgr_in, zga_in, zgs_in, zgr_in, zgz_n0, zgz_n1, zlit, nI_add, pk_mul, pk_sub, znI_or, znI_and, znI_df, zon_ok, zbt_ok, zlt_t, zlt_f, zle_t, zle_f, zeq_f, ↓zbd_of (u1), ↓zbd_of (w1), t3, n1, s3, m1, ↓zbd_of (hA), ↓zbd_of (hB), zcp_ok, B_X5_copy_55, B_X5_copy_103, B_X6_copy_43, B_X6_copy_109, B_X6_copy_110, B_X6_copy_144, B_X6_copy_161]
        · by_cases c : j ≤ i
          · simp (disch := omega) only [↓reduceIte, ↓znm, ↓zbd_some, ↓zbv_some, ↓zga_in, ↓zgs_in, ↓zgr_in, zga_in, zgs_in, zgr_in, zgz_n0, zgz_n1, zlit, nI_add, pk_mul, pk_sub, znI_or, znI_and, znI_df, zon_ok, zbt_ok, zlt_t, zlt_f, zle_t, zle_f, zeq_f, ↓zbd_of (u2), ↓zbd_of (w2), t4, n9, s4, m9, t6, s6, copyM_up, B_X5_copy_55, B_X5_copy_103, B_X6_copy_43, B_X6_copy_109, B_X6_copy_110, B_X6_copy_144, B_X6_copy_161]
          · simp (disch := omega) only [↓reduceIte, ↓znm, ↓zbd_some, ↓zbv_some, ↓zga_in, ↓zgs_in, ↓zgr_in, zga_in, zgs_in, zgr_in, zgz_n0, zgz_n1, zlit, nI_add, pk_mul, pk_sub, znI_or, znI_and, znI_df, zon_ok, zbt_ok, zlt_t, zlt_f, zle_t, zle_f, zeq_f, ↓zbd_of (u2), ↓zbd_of (w2), t4, n9, s4, m9, t6, s6, copyM_dn, B_X5_copy_55, B_X5_copy_103, B_X6_copy_43, B_X6_copy_109, B_X6_copy_110, B_X6_copy_144, B_X6_copy_161]
      · refine ⟨-nI 10 - nI 3, _, _, ?_, ?_, h.fault (nI 3)⟩
        · simp (disch := omega) only [↓reduceIte, ↓znm, ↓zbd_some, ↓zbv_some, ↓zga_in, ↓zgs_in, ↓zgr_in, zga_in, zgs_in, zgr_in, zgz_n0, zgz_n1, zlit, nI_add, pk_mul, pk_sub, znI_or, znI_and, znI_df, zon_ok, zbt_ok, zlt_t, zlt_f, zle_t, zle_f, zeq_f, ↓zbd_of (u1), ↓zbd_of (w1), t3, n1, s3, m1, ↓zbd_of (hA.1 g1), ↓zbd_of (hB.2 g2), faulted_ok, B_X5_copy_55, B_X5_copy_103, B_X6_copy_43, B_X6_copy_109, B_X6_copy_110, B_X6_copy_144, B_X6_copy_161]
        · simp (disch := omega) only [↓reduceIte, ↓znm, ↓zbd_some, ↓zbv_some, ↓zga_in, ↓zgs_in, ↓zgr_in, zga_in, zgs_in, zgr_in, zgz_n0, zgz_n1, zlit, nI_add, pk_mul, znI_or, znI_and, znI_df, zon_ok, zbt_ok, zlt_t, zlt_f, zle_t, zle_f, zeq_f, ↓zbd_of (u2), ↓zbd_of (w2), t4, n9, s4, m9, t6, s6, fails_ok, B_X5_copy_55, B_X5_copy_103, B_X6_copy_43, B_X6_copy_109, B_X6_copy_110, B_X6_copy_144, B_X6_copy_161]
          unfold zgd at g1 g2
          by_cases c1 : p2 < nI 0
          · rw [if_pos c1]
          rw [if_neg c1]
          by_cases c2 : p4 < nI 0
          · rw [if_pos c2]
          rw [if_neg c2]
          by_cases c3 : p5 < nI 0
          · rw [if_pos c3]
          rw [if_neg c3]
          by_cases c4 : nI len < p2
          · rw [if_pos c4]
          rw [if_neg c4]
          by_cases c5 : nI leo < p4
          · rw [if_pos c5]
          rw [if_neg c5]
          by_cases c6 : nI len - p2 < p5
          · rw [if_pos c6]
          rw [if_neg c6]
          rw [zltI] at c1 c2 c3 c4 c5 c6
          have zs := zsubI (len := leo) (x := p4) s2 (by omega) (by omega)
          rw [if_neg (by rw [zleI']; omega)]
    · refine ⟨-nI 10 - nI 3, _, _, ?_, ?_, h.fault (nI 3)⟩
      · simp (disch := omega) only [↓reduceIte, ↓znm, ↓zbd_some, ↓zbv_some, ↓zga_in, ↓zgs_in, ↓zgr_in, zga_in, zgs_in, zgr_in, zgz_n0, zgz_n1, zlit, nI_add, pk_mul, pk_sub, znI_or, znI_and, znI_df, zon_ok, zbt_ok, zlt_t, zlt_f, zle_t, zle_f, zeq_f, ↓zbd_of (u1), ↓zbd_of (w1), t3, n1, s3, m1, ↓zbd_of (hA.2 g1), faulted_ok, B_X5_copy_55, B_X5_copy_103, B_X6_copy_43, B_X6_copy_109, B_X6_copy_110, B_X6_copy_144, B_X6_copy_161]
      · simp (disch := omega) only [↓reduceIte, ↓znm, ↓zbd_some, ↓zbv_some, ↓zga_in, ↓zgs_in, ↓zgr_in, zga_in, zgs_in, zgr_in, zgz_n0, zgz_n1, zlit, nI_add, pk_mul, znI_or, znI_and, znI_df, zon_ok, zbt_ok, zlt_t, zlt_f, zle_t, zle_f, zeq_f, ↓zbd_of (u2), ↓zbd_of (w2), t4, n9, s4, m9, t6, s6, fails_ok, B_X5_copy_55, B_X5_copy_103, B_X6_copy_43, B_X6_copy_109, B_X6_copy_110, B_X6_copy_144, B_X6_copy_161]
        unfold zgd at g1
        by_cases c1 : p2 < nI 0
        · rw [if_pos c1]
        rw [if_neg c1]
        by_cases c2 : p4 < nI 0
        · rw [if_pos c2]
        rw [if_neg c2]
        by_cases c3 : p5 < nI 0
        · rw [if_pos c3]
        rw [if_neg c3]
        by_cases c4 : nI len < p2
        · rw [if_pos c4]
        rw [if_neg c4]
        by_cases c5 : nI leo < p4
        · rw [if_pos c5]
        rw [if_neg c5]
        rw [zltI] at c1 c2 c3 c4 c5
        have zs := zsubI (len := len) (x := p2) t2 (by omega) (by omega)
        rw [if_pos (by rw [zltI]; omega)]
  · refine ⟨-nI 10 - nI 2, _, _, ?_, ?_, h.fault (nI 2)⟩
    · simp (disch := omega) only [↓reduceIte, ↓znm, ↓zbd_some, ↓zbv_some, ↓zga_in, ↓zgs_in, ↓zgr_in, zga_in, zgs_in, zgr_in, zgz_n0, zgz_n1, zlit, nI_add, pk_mul, pk_sub, znI_or, znI_and, znI_df, zon_ok, zbt_ok, zlt_t, zlt_f, zle_t, zle_f, zeq_f, ↓zbd_of (u1), ↓zbd_of (w1), t3, n1, s3, m1, faulted_ok, B_X5_copy_55, B_X5_copy_103, B_X6_copy_43, B_X6_copy_109, B_X6_copy_110, B_X6_copy_144, B_X6_copy_161]
    · simp (disch := omega) only [↓reduceIte, ↓znm, ↓zbd_some, ↓zbv_some, ↓zga_in, ↓zgs_in, ↓zgr_in, zga_in, zgs_in, zgr_in, zgz_n0, zgz_n1, zlit, nI_add, pk_mul, pk_sub, znI_or, znI_and, znI_df, zon_ok, zbt_ok, zlt_t, zlt_f, zle_t, zle_f, zeq_f, ↓zbd_of (u2), ↓zbd_of (w2), t4, n9, s4, m9, fails_ok, B_X5_copy_55, B_X5_copy_103, B_X6_copy_43, B_X6_copy_109, B_X6_copy_110, B_X6_copy_144, B_X6_copy_161]
/-- what counts of cells 47.., 18.. may change alone -/
theorem zRel.readings {σ τ σ' τ' : zSt} (h : zRel σ τ) (hx : ∀ c, c < 47 → σ' c = σ c) (hm : ∀ c, 1 ≤ c → c < 18 → τ' c = τ c) (h0 : τ' 0 0 = τ 0 0 ∧ τ' 0 1 = τ 0 1 ∧ τ' 0 5 = τ 0 5 ∧ τ' 0 6 = τ 0 6) (hR : ∀ n, zRR σ τ n → zRR σ' τ' n) : zRel σ' τ' := by
  obtain ⟨⟨n, kd, ld, tw, d, ⟨v1, v2, v3, v4, v5, v6⟩, hr⟩, hS, hI, hd⟩ := h
  have h8 := v3.1
  refine ⟨⟨n, kd, ld, tw, d, ⟨⟨?_, fun p hp => ?_⟩, ⟨?_, fun p hp => ?_⟩, v3, fun p hp q hq => ?_, v5, v6⟩, hR n hr⟩, fun i hi => ?_, ?_, fun p hp => ?_⟩
  · rw [hx 10 (by omega)]; exact v1.1
  · have := v1.2 p hp
    rw [hx (10 + 1) (by omega), hx (10 + 2) (by omega), hx (10 + 3) (by omega)]; exact this
  · rw [h0.2.2.1]; exact v2.1
  · have := v2.2 p hp
    rw [hm 5 (by decide) (by decide), hm 6 (by decide) (by decide), hm 4 (by decide) (by decide)]; exact this
  · rw [hx (10 + 9 + p) (by omega)]; exact v4 p hp q hq
  · have := hS i hi
    unfold zR1 at this ⊢
    rw [hx (2 + i) (by omega), hx (6 + i) (by omega), hm 1 (by decide) (by decide), hm 2 (by decide) (by decide), hm 3 (by decide) (by decide)]
    exact this
  · unfold zRI at hI ⊢
    rw [hx 0 (by omega), h0.1, h0.2.1, h0.2.2.2]; exact hI
  · rw [hx (19 + p) (by omega)]; exact hd p hp
theorem sim_back (p1 : Int32) : zSim (M_X5_back p1) (M_X6_back p1) := by
  intro σ τ h
  obtain ⟨⟨n, kd, ld, tw, d, hV, hR⟩, hS, hI, hd⟩ := id h
  obtain ⟨c, r1, r2, r3, r4⟩ := hR
  unfold M_X5_back M_X6_back M_X6_within
  rcases zix p1 (n := c + 1) (by omega) with e | e | ⟨k, hk, rfl⟩
  · refine ⟨-nI 2, σ, τ, ?_, ?_, h⟩
    · simp (disch := omega) only [znm, zbd_some, zbv_some, zgz_n0, zgz_n1, zlit, nI_add, pk_mul, pk_sub, znI_or, znI_and, znI_df, zon_ok, zbt_ok, zlt, zleI, zeqI, zga_in, zgs_in, zgr_in, if_pos, if_neg, if_true, if_false, Bool.false_eq_true, zneg_lt e]
    · simp (disch := omega) only [znm, zbd_some, zbv_some, zgz_n0, zgz_n1, zlit, nI_add, pk_mul, pk_sub, znI_or, znI_and, znI_df, zon_ok, zbt_ok, zlt, zleI, zeqI, zga_in, zgs_in, zgr_in, if_pos, if_neg, if_true, if_false, Bool.false_eq_true, zneg_lt e]
  · refine ⟨-nI 2, σ, τ, ?_, ?_, h⟩
    · simp (disch := omega) only [znm, zbd_some, zbv_some, zgz_n0, zgz_n1, zlit, nI_add, pk_mul, pk_sub, znI_or, znI_and, znI_df, zon_ok, zbt_ok, zlt, zleI, zeqI, zga_in, zgs_in, zgr_in, if_pos, if_neg, if_true, if_false, Bool.false_eq_true, r2, zbig_lt (show c + 1 < 2147483648 by omega) e, zbig_le (show c + 1 < 2147483648 by omega) e]
    · simp (disch := omega) only [znm, zbd_some, zbv_some, zgz_n0, zgz_n1, zlit, nI_add, pk_mul, pk_sub, znI_or, znI_and, znI_df, zon_ok, zbt_ok, zlt, zleI, zeqI, zga_in, zgs_in, zgr_in, if_pos, if_neg, if_true, if_false, Bool.false_eq_true, r3, zbig_lt (show c + 1 < 2147483648 by omega) e, zbig_gt (show c + 1 < 2147483648 by omega) e]
  · have e : zRel (zsu σ 47 (upd (σ 47) 0 (nI (c - k)))) (zsu τ 0 (upd (τ 0) 23 (nI (c - k)))) := by
      refine h.readings (fun i hi => zsu_ne (by omega)) (fun i h1 h2 => zsu_ne (by omega)) ⟨?_, ?_, ?_, ?_⟩ (fun n' _ => ?_)
      · rw [zsu_eq, upd_ne (by decide)]
      · rw [zsu_eq, upd_ne (by decide)]
      · rw [zsu_eq, upd_ne (by decide)]
      · rw [zsu_eq, upd_ne (by decide)]
      · rename_i hr
        obtain ⟨c', q1, q2, q3, q4⟩ := hr
        have : c' = c := (nI_eq (by omega) (by omega)).mp (q2.symm.trans r2)
        subst this
        refine ⟨c' - k, by omega, ?_, ?_, fun i hi => ?_⟩
        · rw [zsu_eq, upd_eq]
        · rw [zsu_eq, upd_eq]
        · have := q4 i (by omega)
          rw [zsu_ne (show 48 ≠ 47 by decide), zsu_ne (show 49 ≠ 47 by decide), zsu_ne (show 50 ≠ 47 by decide), zsu_ne (show 18 ≠ 0 by decide), zsu_ne (show 19 ≠ 0 by decide), zsu_ne (show 20 ≠ 0 by decide)]
          exact this
    refine ⟨nI (c - k), _, _, ?_, ?_, e⟩
    · simp (disch := omega) only [znm, zbd_some, zbv_some, zgz_n0, zgz_n1, zlit, nI_add, pk_mul, pk_sub, znI_or, znI_and, znI_df, zon_ok, zbt_ok, zlt, zleI, zeqI, zga_in, zgs_in, zgr_in, if_pos, if_neg, if_true, if_false, Bool.false_eq_true, r2, zsu_eq, upd_eq]
    · simp (disch := omega) only [znm, zbd_some, zbv_some, zgz_n0, zgz_n1, zlit, nI_add, pk_mul, pk_sub, znI_or, znI_and, znI_df, zon_ok, zbt_ok, zlt, zleI, zeqI, zga_in, zgs_in, zgr_in, if_pos, if_neg, if_true, if_false, Bool.false_eq_true, r3, zsu_eq, upd_eq]
theorem sim_reading (p1 p2 p3 : Int32) : zSim (M_X5_reading p1 p2 p3) (M_X6_reading p1 p2 p3) := by
  intro σ τ h
  obtain ⟨⟨n, kd, ld, tw, d, hV, hR⟩, hS, hI, hd⟩ := id h
  obtain ⟨h1, h2, h3, h4, h5, h6⟩ := hV
  have hn := h3.1
  obtain ⟨c, r1, r2, r3, r4⟩ := hR
  unfold M_X5_reading M_X6_reading M_X6_within M_X0_take
  rcases zpost p1 hn with hp | ⟨i, hi, rfl⟩
  · rw [isPostX_no h1.1 hp, isPostM_no h2.1 hp]
    exact ⟨_, σ, τ, rfl, rfl, h⟩
  have u1 := isPostX_yes h1.1 hn hi
  have u2 := isPostM_yes h2.1 hn hi
  rcases zpost p2 hn with hp | ⟨j, hj, rfl⟩
  · refine ⟨-nI 1, σ, τ, ?_, ?_, h⟩
    · simp (disch := omega) only [znm, zbd_some, zbv_some, zgz_n0, zgz_n1, zlit, nI_add, pk_mul, pk_sub, znI_or, znI_and, znI_df, zon_ok, zbt_ok, zlt, zleI, zeqI, zga_in, zgs_in, zgr_in, if_pos, if_neg, if_true, if_false, Bool.false_eq_true, u1, isPostX_no h1.1 hp]
    · simp (disch := omega) only [znm, zbd_some, zbv_some, zgz_n0, zgz_n1, zlit, nI_add, pk_mul, pk_sub, znI_or, znI_and, znI_df, zon_ok, zbt_ok, zlt, zleI, zeqI, zga_in, zgs_in, zgr_in, if_pos, if_neg, if_true, if_false, Bool.false_eq_true, u2, isPostM_no h2.1 hp]
  have w1 := isPostX_yes h1.1 hn hj
  have w2 := isPostM_yes h2.1 hn hj
  rcases zix p3 (n := 201) (by decide) with e | e | ⟨v, hv, rfl⟩
  · refine ⟨-nI 2, σ, τ, ?_, ?_, h⟩
    · simp (disch := omega) only [znm, zbd_some, zbv_some, zgz_n0, zgz_n1, zlit, nI_add, pk_mul, pk_sub, znI_or, znI_and, znI_df, zon_ok, zbt_ok, zlt, zleI, zeqI, zga_in, zgs_in, zgr_in, if_pos, if_neg, if_true, if_false, Bool.false_eq_true, u1, w1, zneg_lt e]
    · simp (disch := omega) only [znm, zbd_some, zbv_some, zgz_n0, zgz_n1, zlit, nI_add, pk_mul, pk_sub, znI_or, znI_and, znI_df, zon_ok, zbt_ok, zlt, zleI, zeqI, zga_in, zgs_in, zgr_in, if_pos, if_neg, if_true, if_false, Bool.false_eq_true, u2, w2, zneg_lt e]
  · refine ⟨-nI 2, σ, τ, ?_, ?_, h⟩
    · simp (disch := omega) only [znm, zbd_some, zbv_some, zgz_n0, zgz_n1, zlit, nI_add, pk_mul, pk_sub, znI_or, znI_and, znI_df, zon_ok, zbt_ok, zlt, zleI, zeqI, zga_in, zgs_in, zgr_in, if_pos, if_neg, if_true, if_false, Bool.false_eq_true, u1, w1, zbig_lt (by decide) e, zbig_le (by decide) e]
    · simp (disch := omega) only [znm, zbd_some, zbv_some, zgz_n0, zgz_n1, zlit, nI_add, pk_mul, pk_sub, znI_or, znI_and, znI_df, zon_ok, zbt_ok, zlt, zleI, zeqI, zga_in, zgs_in, zgr_in, if_pos, if_neg, if_true, if_false, Bool.false_eq_true, u2, w2, zbig_lt (by decide) e, zbig_gt (by decide) e]
  by_cases hc : c < 8
  · have e : zRel (zsu (zsu (zsu (zsu σ 48 (upd (σ 48) c (nI i))) 49 (upd (σ 49) c (nI j))) 50 (upd (σ 50) c (nI v))) 47 (upd (σ 47) 0 (nI (c + 1)))) (zsu (zsu (zsu (zsu τ 18 (upd (τ 18) c (nI i))) 19 (upd (τ 19) c (nI j))) 20 (upd (τ 20) c (nI v))) 0 (upd (τ 0) 23 (nI (c + 1)))) := by
      obtain ⟨⟨n', kd', ld', tw', d', hV', hR'⟩, hS', hI', hd'⟩ := id h
      have hnn : n' = n := (nI_eq (by have := hV'.2.2.1.1; omega) (by omega)).mp (hV'.1.1.symm.trans h1.1)
      refine ⟨⟨n, kd, ld, tw, d, ⟨⟨?_, fun p hp => ?_⟩, ⟨?_, fun p hp => ?_⟩, h3, fun p hp q hq => ?_, h5, h6⟩, ⟨c + 1, by omega, ?_, ?_, fun k hk => ?_⟩⟩, fun k hk => ?_, ?_, fun p hp => ?_⟩
      · rw [zsu_ne (by decide), zsu_ne (by decide), zsu_ne (by decide), zsu_ne (by decide)]; exact h1.1
      · have := h1.2 p hp
        simp only [zsu, show ¬ (10 + 1 = 47) by decide, show ¬ (10 + 1 = 50) by decide, show ¬ (10 + 1 = 49) by decide, show ¬ (10 + 1 = 48) by decide, show ¬ (10 + 2 = 47) by decide, show ¬ (10 + 2 = 50) by decide, show ¬ (10 + 2 = 49) by decide, show ¬ (10 + 2 = 48) by decide, show ¬ (10 + 3 = 47) by decide, show ¬ (10 + 3 = 50) by decide, show ¬ (10 + 3 = 49) by decide, show ¬ (10 + 3 = 48) by decide, if_false]
        exact this
      · rw [zsu_eq, upd_ne (by decide)]; exact h2.1
      · have := h2.2 p hp
        rw [zsu_ne (show 5 ≠ 0 by decide), zsu_ne (show 5 ≠ 20 by decide), zsu_ne (show 5 ≠ 19 by decide), zsu_ne (show 5 ≠ 18 by decide), zsu_ne (show 6 ≠ 0 by decide), zsu_ne (show 6 ≠ 20 by decide), zsu_ne (show 6 ≠ 19 by decide), zsu_ne (show 6 ≠ 18 by decide), zsu_ne (show 4 ≠ 0 by decide), zsu_ne (show 4 ≠ 20 by decide), zsu_ne (show 4 ≠ 19 by decide), zsu_ne (show 4 ≠ 18 by decide)]
        exact this
      · rw [zsu_ne (by omega), zsu_ne (by omega), zsu_ne (by omega), zsu_ne (by omega)]; exact h4 p hp q hq
      · rw [zsu_eq, upd_eq]
      · rw [zsu_eq, upd_eq]
      · rw [zsu_ne (show 48 ≠ 47 by decide), zsu_ne (show 48 ≠ 50 by decide), zsu_ne (show 48 ≠ 49 by decide), zsu_eq, zsu_ne (show 49 ≠ 47 by decide), zsu_ne (show 49 ≠ 50 by decide), zsu_eq, zsu_ne (show 50 ≠ 47 by decide), zsu_eq, zsu_ne (show 18 ≠ 0 by decide), zsu_ne (show 18 ≠ 20 by decide), zsu_ne (show 18 ≠ 19 by decide), zsu_eq, zsu_ne (show 19 ≠ 0 by decide), zsu_ne (show 19 ≠ 20 by decide), zsu_eq, zsu_ne (show 20 ≠ 0 by decide), zsu_eq]
        by_cases e : k = c
        · subst e
          exact ⟨i, j, v, hi, hj, by omega, upd_eq, upd_eq, upd_eq, upd_eq, upd_eq, upd_eq⟩
        · obtain ⟨s, g, w, q1, q2, q3, q4, q5, q6, q7, q8, q9⟩ := r4 k (by omega)
          exact ⟨s, g, w, q1, q2, q3, by rw [upd_ne e]; exact q4, by rw [upd_ne e]; exact q5, by rw [upd_ne e]; exact q6, by rw [upd_ne e]; exact q7, by rw [upd_ne e]; exact q8, by rw [upd_ne e]; exact q9⟩
      · have := hS k hk
        unfold zR1 at this ⊢
        rw [zsu_ne (show 2 + k ≠ 47 by omega), zsu_ne (show 2 + k ≠ 50 by omega), zsu_ne (show 2 + k ≠ 49 by omega), zsu_ne (show 2 + k ≠ 48 by omega), zsu_ne (show 6 + k ≠ 47 by omega), zsu_ne (show 6 + k ≠ 50 by omega), zsu_ne (show 6 + k ≠ 49 by omega), zsu_ne (show 6 + k ≠ 48 by omega), zsu_ne (show 1 ≠ 0 by decide), zsu_ne (show 1 ≠ 20 by decide), zsu_ne (show 1 ≠ 19 by decide), zsu_ne (show 1 ≠ 18 by decide), zsu_ne (show 2 ≠ 0 by decide), zsu_ne (show 2 ≠ 20 by decide), zsu_ne (show 2 ≠ 19 by decide), zsu_ne (show 2 ≠ 18 by decide), zsu_ne (show 3 ≠ 0 by decide), zsu_ne (show 3 ≠ 20 by decide), zsu_ne (show 3 ≠ 19 by decide), zsu_ne (show 3 ≠ 18 by decide)]
        exact this
      · unfold zRI at hI ⊢
        rw [zsu_ne (show 0 ≠ 47 by decide), zsu_ne (show 0 ≠ 50 by decide), zsu_ne (show 0 ≠ 49 by decide), zsu_ne (show 0 ≠ 48 by decide), zsu_eq, upd_ne (by decide), upd_ne (by decide), upd_ne (by decide)]
        exact hI
      · rw [zsu_ne (by omega), zsu_ne (by omega), zsu_ne (by omega), zsu_ne (by omega)]; exact hd p hp
    refine ⟨nI c, _, _, ?_, ?_, e⟩
    · simp (disch := omega) only [znm, zbd_some, zbv_some, zgz_n0, zgz_n1, zlit, nI_add, pk_mul, pk_sub, znI_or, znI_and, znI_df, zon_ok, zbt_ok, zlt, zleI, zeqI, zga_in, zgs_in, zgr_in, if_pos, if_neg, if_true, if_false, Bool.false_eq_true, u1, w1, r2, zsu_eq, upd_eq, zsu_ne (show 47 ≠ 48 by decide), zsu_ne (show 47 ≠ 49 by decide), zsu_ne (show 47 ≠ 50 by decide), zsu_ne (show 49 ≠ 48 by decide), zsu_ne (show 50 ≠ 48 by decide), zsu_ne (show 50 ≠ 49 by decide), Nat.add_sub_cancel]
    · simp (disch := omega) only [znm, zbd_some, zbv_some, zgz_n0, zgz_n1, zlit, nI_add, pk_mul, pk_sub, znI_or, znI_and, znI_df, zon_ok, zbt_ok, zlt, zleI, zeqI, zga_in, zgs_in, zgr_in, if_pos, if_neg, if_true, if_false, Bool.false_eq_true, u2, w2, r3, zsu_eq, upd_eq, zsu_ne (show 0 ≠ 18 by decide), zsu_ne (show 0 ≠ 19 by decide), zsu_ne (show 0 ≠ 20 by decide), zsu_ne (show 19 ≠ 18 by decide), zsu_ne (show 20 ≠ 18 by decide), zsu_ne (show 20 ≠ 19 by decide), Nat.add_sub_cancel]
  · refine ⟨-nI 4, σ, τ, ?_, ?_, h⟩
    · simp (disch := omega) only [znm, zbd_some, zbv_some, zgz_n0, zgz_n1, zlit, nI_add, pk_mul, pk_sub, znI_or, znI_and, znI_df, zon_ok, zbt_ok, zlt, zleI, zeqI, zga_in, zgs_in, zgr_in, if_pos, if_neg, if_true, if_false, Bool.false_eq_true, u1, w1, r2]
    · simp (disch := omega) only [znm, zbd_some, zbv_some, zgz_n0, zgz_n1, zlit, nI_add, pk_mul, pk_sub, znI_or, znI_and, znI_df, zon_ok, zbt_ok, zlt, zleI, zeqI, zga_in, zgs_in, zgr_in, if_pos, if_neg, if_true, if_false, Bool.false_eq_true, u2, w2, r3]
