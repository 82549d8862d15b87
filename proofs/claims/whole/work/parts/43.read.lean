/-! PURE: the reference reads a text -/
def zfr (τ s : zSt) : Prop := (∀ c, c ≠ 0 → c ≠ 7 → c ≠ 8 → c ≠ 9 → s c = τ c) ∧ (∀ y, y ≠ 10 → y ≠ 11 → s 0 y = τ 0 y)
theorem zfr.rf {τ : zSt} : zfr τ τ := ⟨fun _ _ _ _ _ => rfl, fun _ _ _ => rfl⟩
theorem zfr.s0 {τ s : zSt} (h : zfr τ s) {k : Nat} (hk : k = 10 ∨ k = 11) (v : Int32) : zfr τ (zsu s 0 (upd (s 0) k v)) := by
  refine ⟨fun c h0 h7 h8 h9 => by rw [zsu_ne h0]; exact h.1 c h0 h7 h8 h9, fun y h1 h2 => ?_⟩
  rw [zsu_eq, upd_ne (by omega)]
  exact h.2 y h1 h2
theorem zfr.sc {τ s : zSt} (h : zfr τ s) {c : Nat} (hc : c = 7 ∨ c = 8 ∨ c = 9) (k : Nat) (v : Int32) : zfr τ (zsu s c (upd (s c) k v)) := by
  refine ⟨fun c' h0 h7 h8 h9 => by rw [zsu_ne (by omega)]; exact h.1 c' h0 h7 h8 h9, fun y h1 h2 => ?_⟩
  rw [zsu_ne (by omega)]
  exact h.2 y h1 h2
theorem digit_end {s : zSt} {e a : Nat} (h : s 0 10 = nI a) (ha : e ≤ a) (ha2 : a < 1000) (p2 p3 : Int32) : M_X6_digit (nI e) p2 p3 s = some (-nI 9, s) := by
  unfold M_X6_digit
  simp (disch := omega) only [↓reduceIte, ↓znm, ↓zbd_some, ↓zbv_some, ↓zga_in, ↓zgs_in, ↓zgr_in, zga_in, zgs_in, zgr_in, zgz_n0, zgz_n1, zlit, nI_add, pk_mul, pk_sub, znI_or, znI_and, znI_df, zon_ok, zbt_ok, zlt_t, zlt_f, zle_t, zle_f, zeq_f, h]
theorem digit_no {s : zSt} {e a lo b : Nat} (h : s 0 10 = nI a) (ha : a < e) (he : e ≤ 240) (hb : b ≤ 8) (hlo : lo = 0) (hd : ¬ zdg (b + 1) (s 3 a)) (hb9 : b + 1 ≤ 10) : M_X6_digit (nI e) (nI lo) (nI b) s = some (-nI 9, s) := by
  subst hlo
  unfold M_X6_digit M_X6_within
  rcases zdg_no hb9 hd with c1 | c1 | ⟨i, i1, c1⟩
  · simp (disch := omega) only [↓reduceIte, ↓znm, ↓zbd_some, ↓zbv_some, ↓zga_in, ↓zgs_in, ↓zgr_in, zga_in, zgs_in, zgr_in, zgz_n0, zgz_n1, zlit, nI_add, pk_mul, pk_sub, znI_or, znI_and, znI_df, zon_ok, zbt_ok, zlt_t, zlt_f, zle_t, zle_f, zeq_f, h, zneg_lt c1]
  · simp (disch := omega) only [↓reduceIte, ↓znm, ↓zbd_some, ↓zbv_some, ↓zga_in, ↓zgs_in, ↓zgr_in, zga_in, zgs_in, zgr_in, zgz_n0, zgz_n1, zlit, nI_add, pk_mul, pk_sub, znI_or, znI_and, znI_df, zon_ok, zbt_ok, zlt_t, zlt_f, zle_t, zle_f, zeq_f, h, zbig_lt (by omega) c1, zbig_gt (by omega) c1]
  · simp (disch := omega) only [↓reduceIte, ↓znm, ↓zbd_some, ↓zbv_some, ↓zga_in, ↓zgs_in, ↓zgr_in, zga_in, zgs_in, zgr_in, zgz_n0, zgz_n1, zlit, nI_add, pk_mul, pk_sub, znI_or, znI_and, znI_df, zon_ok, zbt_ok, zlt_t, zlt_f, zle_t, zle_f, zeq_f, h, c1]
theorem digit_no9 {s : zSt} {e a : Nat} (h : s 0 10 = nI a) (ha : a < e) (he : e ≤ 240) (hd : ¬ zdg 10 (s 3 a)) : M_X6_digit (nI e) (nI 0) (nI 9) s = some (-nI 9, s) := by
  unfold M_X6_digit M_X6_within
  rcases zdg_no (by decide) hd with c1 | c1 | ⟨i, i1, c1⟩
  · simp (disch := omega) only [↓reduceIte, ↓znm, ↓zbd_some, ↓zbv_some, ↓zga_in, ↓zgs_in, ↓zgr_in, zga_in, zgs_in, zgr_in, zgz_n0, zgz_n1, zlit, nI_add, pk_mul, pk_sub, znI_or, znI_and, znI_df, zon_ok, zbt_ok, zlt_t, zlt_f, zle_t, zle_f, zeq_f, h, zneg_lt c1]
  · simp (disch := omega) only [↓reduceIte, ↓znm, ↓zbd_some, ↓zbv_some, ↓zga_in, ↓zgs_in, ↓zgr_in, zga_in, zgs_in, zgr_in, zgz_n0, zgz_n1, zlit, nI_add, pk_mul, pk_sub, znI_or, znI_and, znI_df, zon_ok, zbt_ok, zlt_t, zlt_f, zle_t, zle_f, zeq_f, h, zbig_lt (by decide) c1, zbig_gt (by decide) c1]
  · simp (disch := omega) only [↓reduceIte, ↓znm, ↓zbd_some, ↓zbv_some, ↓zga_in, ↓zgs_in, ↓zgr_in, zga_in, zgs_in, zgr_in, zgz_n0, zgz_n1, zlit, nI_add, pk_mul, pk_sub, znI_or, znI_and, znI_df, zon_ok, zbt_ok, zlt_t, zlt_f, zle_t, zle_f, zeq_f, h, c1]
theorem digit_yes {s : zSt} {e a lo b v : Nat} (h : s 0 10 = nI a) (ha : a < e) (he : e ≤ 240) (hc : s 3 a = nI (48 + v)) (h1 : lo ≤ v) (h2 : v ≤ b) (hb : b ≤ 9) : M_X6_digit (nI e) (nI lo) (nI b) s = some (nI v, zsu s 0 (upd (s 0) 10 (nI (a + 1)))) := by
  have e1 : zsu s 0 (upd (s 0) 10 (nI (a + 1))) 0 10 = nI (a + 1) := by rw [zsu_eq, upd_eq]
  have e2 : zsu s 0 (upd (s 0) 10 (nI (a + 1))) 3 a = nI (48 + v) := by rw [zsu_ne (by decide)]; exact hc
  unfold M_X6_digit M_X6_within
  simp (disch := omega) only [↓reduceIte, ↓znm, ↓zbd_some, ↓zbv_some, ↓zga_in, ↓zgs_in, ↓zgr_in, zga_in, zgs_in, zgr_in, zgz_n0, zgz_n1, zlit, nI_add, pk_mul, pk_sub, znI_or, znI_and, znI_df, zon_ok, zbt_ok, zlt_t, zlt_f, zle_t, zle_f, zeq_f, h, hc, e1, show a + 1 - 1 = a by omega, e2, show 48 + v - 48 = v by omega]
/-- read so far: row, kinds, loads -/
def zQr (τ s : zSt) (C : Nat → Int32) (a m i p : Nat) : Prop := s 0 10 = nI a ∧ s 0 11 = nI m ∧ zfr τ s ∧ (∀ k, k < i → s 7 k = nI (zdi (C (2 + k)))) ∧ (∀ q, q < p → s 8 q = nI (zkn (C (m + 2 * q))) ∧ s 9 q = nI (zdi (C (m + 2 * q + 1))))
def zQo (τ : zSt) (C : Nat → Int32) (F N m f : Nat) (o : Int32 × zSt) : Prop := (f = 3 * m ∧ N = 3 * m ∧ o.1 = nI 1 ∧ zQr τ o.2 C (F + 3 * m) m (m - 2) m) ∨ (¬ (f = 3 * m ∧ N = 3 * m) ∧ o.1 = nI 0 ∧ o.2 0 10 = nI (F + f) ∧ zfr τ o.2)
theorem readPost_bad {τ s : zSt} {C : Nat → Int32} {a m i p e : Nat} (hQ : zQr τ s C a m i p) (hp : p < 8) (he : e ≤ 240) (ha : a < 1000) (hb : e ≤ a ∨ ¬ zlet (s 3 a)) : ∃ s', M_X6_readPost (nI e) (nI p) s = some (nI 0, s') ∧ s' 0 10 = nI a ∧ zfr τ s' := by
  obtain ⟨q1, q2, q3, q4, q5⟩ := hQ
  refine ⟨zsu s 8 (upd (s 8) p (-nI 9)), ?_, by rw [zsu_ne (by decide)]; exact q1, q3.sc (by omega) p _⟩
  have f1 : zsu s 8 (upd (s 8) p (-nI 9)) 8 p = -nI 9 := by rw [zsu_eq, upd_eq]
  unfold M_X6_readPost B_X6_readPost_21 B_X6_readPost_59
  by_cases c : e ≤ a
  · simp (disch := omega) only [↓reduceIte, ↓znm, ↓zbd_some, ↓zbv_some, ↓zga_in, ↓zgs_in, ↓zgr_in, zga_in, zgs_in, zgr_in, zgz_n0, zgz_n1, zlit, nI_add, pk_mul, pk_sub, znI_or, znI_and, znI_df, zon_ok, zbt_ok, zlt_t, zlt_f, zle_t, zle_f, zeq_f, q1, f1]
  · obtain ⟨e1, e2, e3⟩ := zlet_no (hb.resolve_left c)
    simp (disch := omega) only [↓reduceIte, ↓znm, ↓zbd_some, ↓zbv_some, ↓zga_in, ↓zgs_in, ↓zgr_in, zga_in, zgs_in, zgr_in, zgz_n0, zgz_n1, zlit, nI_add, pk_mul, pk_sub, znI_or, znI_and, znI_df, zon_ok, zbt_ok, zlt_t, zlt_f, zle_t, zle_f, zeq_f, q1, e1, e2, e3, f1]
theorem readPost_let {s : zSt} {a p e : Nat} (q1 : s 0 10 = nI a) (hp : p < 8) (he : e ≤ 240) (ha : a < e) (hl : zlet (s 3 a)) : M_X6_readPost (nI e) (nI p) s = zbd (M_X6_digit (nI e) (nI 0) (nI 9) (zsu (zsu s 8 (upd (s 8) p (nI (zkn (s 3 a))))) 0 (upd (s 0) 10 (nI (a + 1))))) (fun x9 σ8 => zgs σ8 9 (nI p) 8 x9 (fun σ10 => zga (σ10 9) (nI p) 8 (fun x11 => (if x11 = -nI 9 then zgz (nI 0) σ10 else zgz (nI 1) σ10)))) := by
  have f1 : ∀ v, zsu s 8 (upd (s 8) p (nI v)) 8 p = nI v := fun v => by rw [zsu_eq, upd_eq]
  have f2 : ∀ v, zsu s 8 (upd (s 8) p (nI v)) 0 = s 0 := fun v => by rw [zsu_ne (by decide)]
  have n9 : ∀ v, v ≤ 2 → (nI v = -nI 9) = False := fun v hv => eq_false (zneg_ne (by omega) (by decide) (by decide))
  unfold M_X6_readPost B_X6_readPost_21 B_X6_readPost_59
  rcases hl with e1 | e1 | e1
  · have : zkn (s 3 a) = 1 := by rw [e1]; rfl
    simp (disch := omega) only [↓reduceIte, ↓znm, ↓zbd_some, ↓zbv_some, ↓zga_in, ↓zgs_in, ↓zgr_in, zga_in, zgs_in, zgr_in, zgz_n0, zgz_n1, zlit, nI_add, pk_mul, pk_sub, znI_or, znI_and, znI_df, zon_ok, zbt_ok, zlt_t, zlt_f, zle_t, zle_f, zeq_f, q1, e1, this, f1, f2, n9 1 (by decide)]
    rw [← e1, this]
    rfl
  · have : zkn (s 3 a) = 2 := by rw [e1]; rfl
    simp (disch := omega) only [↓reduceIte, ↓znm, ↓zbd_some, ↓zbv_some, ↓zga_in, ↓zgs_in, ↓zgr_in, zga_in, zgs_in, zgr_in, zgz_n0, zgz_n1, zlit, nI_add, pk_mul, pk_sub, znI_or, znI_and, znI_df, zon_ok, zbt_ok, zlt_t, zlt_f, zle_t, zle_f, zeq_f, q1, e1, this, f1, f2, n9 2 (by decide)]
    rw [← e1, this]
    rfl
  · have : zkn (s 3 a) = 0 := by rw [e1]; rfl
    simp (disch := omega) only [↓reduceIte, ↓znm, ↓zbd_some, ↓zbv_some, ↓zga_in, ↓zgs_in, ↓zgr_in, zga_in, zgs_in, zgr_in, zgz_n0, zgz_n1, zlit, nI_add, pk_mul, pk_sub, znI_or, znI_and, znI_df, zon_ok, zbt_ok, zlt_t, zlt_f, zle_t, zle_f, zeq_f, q1, e1, this, f1, f2, n9 0 (by decide)]
    rw [← e1, this]
    rfl
theorem readPosts_ok {τ : zSt} {C : Nat → Int32} {F N m f : Nat} (hF : F + N ≤ 240) (hC : ∀ j, j < N → τ 3 (F + j) = C j) (h : zTx C N m f) (hmf : m ≤ f) (s : zSt) (hs : zQr τ s C (F + m) m (m - 2) 0) : ∃ o, L_X6_readVine_108 (nI (F + N)) (nI 0) s = some o ∧ zQo τ C F N m f o := by
  obtain ⟨h1, h2, h3, h4, h5, h6, h7, h8, h9, h10⟩ := id h
  unfold L_X6_readVine_108
  refine zloop_ex (I := fun x => ∃ p, p ≤ m ∧ m + 2 * p ≤ f ∧ x.1 = nI p ∧ zQr τ x.2 C (F + m + 2 * p) m (m - 2) p) (μ := fun x => m - x.1.toNatClampNeg) ?_ zFU _ ⟨0, by omega, by omega, rfl, hs⟩ (by have := zFU_ge; show m - _ < _; omega)
  rintro rec ⟨x, s⟩ ⟨p, hp, hpf, e1, hQ⟩ ih
  dsimp only at e1 hQ ih ⊢
  subst e1
  obtain ⟨q1, q2, q3, q4, q5⟩ := id hQ
  have t3 : s 3 = τ 3 := q3.1 3 (by decide) (by decide) (by decide) (by decide)
  by_cases hpm : p = m
  · subst hpm
    have ef : f = 3 * p := by omega
    rw [show F + p + 2 * p = F + 3 * p by omega] at q1 hQ
    unfold B_X6_readVine_108
    by_cases eN : N = 3 * p
    · refine ⟨(nI 1, s), ?_, Or.inl ⟨ef, eN, rfl, hQ⟩⟩
      simp (disch := omega) only [↓reduceIte, ↓znm, ↓zbd_some, ↓zbv_some, ↓zga_in, ↓zgs_in, ↓zgr_in, zga_in, zgs_in, zgr_in, zgz_n0, zgz_n1, zlit, nI_add, pk_mul, pk_sub, znI_or, znI_and, znI_df, zon_ok, zbt_ok, zlt_t, zlt_f, zle_t, zle_f, zeq_f, q2, q1, eN]
    · have n1 : (nI (F + 3 * p) = nI (F + N)) = False := zeq_f (by omega) (by omega) (by omega)
      refine ⟨(nI 0, s), ?_, Or.inr ⟨by omega, rfl, by rw [ef]; exact q1, q3⟩⟩
      simp (disch := omega) only [↓reduceIte, ↓znm, ↓zbd_some, ↓zbv_some, ↓zga_in, ↓zgs_in, ↓zgr_in, zga_in, zgs_in, zgr_in, zgz_n0, zgz_n1, zlit, nI_add, pk_mul, pk_sub, znI_or, znI_and, znI_df, zon_ok, zbt_ok, zlt_t, zlt_f, zle_t, zle_f, zeq_f, q2, q1, n1]
  · by_cases ej : m + 2 * p = f
    · have hbad := h10 (by omega)
      obtain ⟨s', r1, r2, r3⟩ := readPost_bad (e := F + N) hQ (by omega) (by omega) (by omega) (by
        rcases hbad with b | b
        · exact Or.inl (by omega)
        · by_cases c : F + N ≤ F + m + 2 * p
          · exact Or.inl c
          · right
            rw [t3, Nat.add_assoc, hC _ (by omega), ej]
            unfold zpg at b
            rw [if_neg (by omega), if_pos (by omega)] at b
            exact b)
      refine ⟨(nI 0, s'), ?_, Or.inr ⟨by omega, rfl, by rw [← ej, ← Nat.add_assoc]; exact r2, r3⟩⟩
      unfold B_X6_readVine_108
      simp (disch := omega) only [↓reduceIte, ↓znm, ↓zbd_some, ↓zbv_some, ↓zga_in, ↓zgs_in, ↓zgr_in, zga_in, zgs_in, zgr_in, zgz_n0, zgz_n1, zlit, nI_add, pk_mul, pk_sub, znI_or, znI_and, znI_df, zon_ok, zbt_ok, zlt_t, zlt_f, zle_t, zle_f, zeq_f, q2, ↓zbd_of r1]
    · obtain ⟨g1, g2⟩ := h9 (m + 2 * p) (by omega) (by omega)
      have c3 : s 3 (F + m + 2 * p) = C (m + 2 * p) := by rw [t3, Nat.add_assoc, hC _ g1]
      unfold zpg at g2
      rw [if_neg (by omega), if_pos (by omega)] at g2
      have rl := readPost_let (e := F + N) q1 (show p < 8 by omega) (by omega) (by omega) (by rw [c3]; exact g2)
      rw [c3] at rl
      obtain ⟨s1, hs1⟩ : ∃ s1, s1 = zsu (zsu s 8 (upd (s 8) p (nI (zkn (C (m + 2 * p)))))) 0 (upd (s 0) 10 (nI (F + m + 2 * p + 1))) := ⟨_, rfl⟩
      rw [← hs1] at rl
      have z8 : zsu s 8 (upd (s 8) p (nI (zkn (C (m + 2 * p))))) 0 = s 0 := zsu_ne (by decide)
      have f1 : zfr τ s1 := by
        have := (q3.sc (c := 8) (by omega) p (nI (zkn (C (m + 2 * p))))).s0 (k := 10) (by omega) (nI (F + m + 2 * p + 1))
        rw [z8] at this
        rw [hs1]; exact this
      have f2 : s1 0 10 = nI (F + m + 2 * p + 1) := by rw [hs1, zsu_eq, upd_eq]
      have f3 : s1 3 = τ 3 := f1.1 3 (by decide) (by decide) (by decide) (by decide)
      have f4 : s1 0 11 = nI m := by rw [hs1, zsu_eq, upd_ne (by decide)]; exact q2
      by_cases ej2 : m + 2 * p + 1 = f
      · have hbad := h10 (by omega)
        have dn : M_X6_digit (nI (F + N)) (nI 0) (nI 9) s1 = some (-nI 9, s1) := by
          rcases hbad with b | b
          · exact digit_end f2 (by omega) (by omega) _ _
          · by_cases c : F + N ≤ F + m + 2 * p + 1
            · exact digit_end f2 (by omega) (by omega) _ _
            · refine digit_no9 f2 (by omega) (by omega) ?_
              rw [f3, show F + m + 2 * p + 1 = F + (m + 2 * p + 1) by omega, hC _ (by omega), ej2]
              unfold zpg at b
              rw [if_neg (by omega), if_neg (by omega)] at b
              exact b
        have f5 : zsu s1 9 (upd (s1 9) p (-nI 9)) 9 p = -nI 9 := by rw [zsu_eq, upd_eq]
        refine ⟨(nI 0, zsu s1 9 (upd (s1 9) p (-nI 9))), ?_, Or.inr ⟨by omega, rfl, ?_, f1.sc (by omega) p _⟩⟩
        · unfold B_X6_readVine_108
          simp (disch := omega) only [↓reduceIte, ↓znm, ↓zbd_some, ↓zbv_some, ↓zga_in, ↓zgs_in, ↓zgr_in, zga_in, zgs_in, zgr_in, zgz_n0, zgz_n1, zlit, nI_add, pk_mul, pk_sub, znI_or, znI_and, znI_df, zon_ok, zbt_ok, zlt_t, zlt_f, zle_t, zle_f, zeq_f, q2, rl, ↓zbd_of dn, f5]
        · show zsu s1 9 (upd (s1 9) p (-nI 9)) 0 10 = _
          rw [zsu_ne (by decide), f2, ← ej2]
          congr 1; omega
      · obtain ⟨k1, k2⟩ := h9 (m + 2 * p + 1) (by omega) (by omega)
        unfold zpg at k2
        rw [if_neg (by omega), if_neg (by omega)] at k2
        obtain ⟨v1, v2⟩ := zdg_get (by decide) k2
        have dy := digit_yes (s := s1) (e := F + N) (lo := 0) (b := 9) (v := zdi (C (m + 2 * p + 1))) f2 (by omega) (by omega) (by rw [f3, show F + m + 2 * p + 1 = F + (m + 2 * p + 1) by omega, hC _ k1]; exact v2) (by omega) (by omega) (by decide)
        obtain ⟨s2, hs2⟩ : ∃ s2, s2 = zsu s1 0 (upd (s1 0) 10 (nI (F + m + 2 * p + 1 + 1))) := ⟨_, rfl⟩
        rw [← hs2] at dy
        obtain ⟨s3, hs3⟩ : ∃ s3, s3 = zsu s2 9 (upd (s2 9) p (nI (zdi (C (m + 2 * p + 1))))) := ⟨_, rfl⟩
        have f5 : s3 9 p = nI (zdi (C (m + 2 * p + 1))) := by rw [hs3, zsu_eq, upd_eq]
        have n9 : (nI (zdi (C (m + 2 * p + 1))) = -nI 9) = False := eq_false (zneg_ne (by omega) (by decide) (by decide))
        have e : B_X6_readVine_108 (nI (F + N)) (fun v2 σ => rec (v2, σ)) (nI p) s = rec (nI (p + 1), s3) := by
          unfold B_X6_readVine_108
          simp (disch := omega) only [↓reduceIte, ↓znm, ↓zbd_some, ↓zbv_some, ↓zga_in, ↓zgs_in, ↓zgr_in, zga_in, zgs_in, zgr_in, zgz_n0, zgz_n1, zlit, nI_add, pk_mul, pk_sub, znI_or, znI_and, znI_df, zon_ok, zbt_ok, zlt_t, zlt_f, zle_t, zle_f, zeq_f, q2, rl, ↓zbd_of dy, ← hs3, f5, n9]
        rw [e]
        refine ih _ ⟨p + 1, by omega, by omega, rfl, ?_, ?_, ?_, fun k hk => ?_, fun q hq => ?_⟩ ?_
        · show s3 0 10 = _
          rw [hs3, zsu_ne (by decide), hs2, zsu_eq, upd_eq]
          congr 1
        · show s3 0 11 = _
          rw [hs3, zsu_ne (by decide), hs2, zsu_eq, upd_ne (by decide)]; exact f4
        · show zfr τ s3
          rw [hs3]
          refine zfr.sc ?_ (by omega) p _
          rw [hs2]
          exact f1.s0 (by omega) _
        · show s3 7 k = _
          rw [hs3, zsu_ne (by decide), hs2, zsu_ne (by decide), hs1, zsu_ne (by decide), zsu_ne (by decide)]
          exact q4 k hk
        · show s3 8 q = _ ∧ s3 9 q = _
          rw [hs3, zsu_ne (show 8 ≠ 9 by decide), hs2, zsu_ne (show 8 ≠ 0 by decide), hs1, zsu_ne (show 8 ≠ 0 by decide), zsu_eq, zsu_eq, zsu_ne (show 9 ≠ 0 by decide), zsu_ne (show 9 ≠ 0 by decide), zsu_ne (show 9 ≠ 8 by decide)]
          by_cases eq : q = p
          · rw [eq, upd_eq, upd_eq]
            exact ⟨rfl, rfl⟩
          · rw [upd_ne eq, upd_ne eq]
            exact q5 q (by omega)
        · show m - (nI (p + 1)).toNatClampNeg < m - (nI p).toNatClampNeg
          rw [nI_clamp (by omega), nI_clamp (by omega)]
          omega
theorem readRows_ok {τ : zSt} {C : Nat → Int32} {F N m f : Nat} (hF : F + N ≤ 240) (hC : ∀ j, j < N → τ 3 (F + j) = C j) (h : zTx C N m f) (s : zSt) (hs : zQr τ s C (F + 2) m 0 0) : ∃ o, L_X6_readVine_59 (nI (F + N)) (nI 0) s = some o ∧ zQo τ C F N m f o := by
  obtain ⟨h1, h2, h3, h4, h5, h6, h7, h8, h9, h10⟩ := id h
  unfold L_X6_readVine_59
  refine zloop_ex (I := fun x => ∃ k, k ≤ m - 2 ∧ 2 + k ≤ f ∧ x.1 = nI k ∧ zQr τ x.2 C (F + 2 + k) m k 0) (μ := fun x => m - x.1.toNatClampNeg) ?_ zFU _ ⟨0, by omega, by omega, rfl, hs⟩ (by have := zFU_ge; show m - _ < _; omega)
  rintro rec ⟨x, s⟩ ⟨k, hk, hkf, e1, hQ⟩ ih
  dsimp only at e1 hQ ih ⊢
  subst e1
  obtain ⟨q1, q2, q3, q4, q5⟩ := id hQ
  have t3 : s 3 = τ 3 := q3.1 3 (by decide) (by decide) (by decide) (by decide)
  by_cases hkm : k = m - 2
  · have e : B_X6_readVine_59 (nI (F + N)) (fun v2 σ => rec (v2, σ)) (nI k) s = L_X6_readVine_108 (nI (F + N)) (nI 0) s := by
      unfold B_X6_readVine_59
      simp (disch := omega) only [↓reduceIte, ↓znm, ↓zbd_some, ↓zbv_some, ↓zga_in, ↓zgs_in, ↓zgr_in, zga_in, zgs_in, zgr_in, zgz_n0, zgz_n1, zlit, nI_add, pk_mul, pk_sub, znI_or, znI_and, znI_df, zon_ok, zbt_ok, zlt_t, zlt_f, zle_t, zle_f, zeq_f, q2]
    rw [e]
    refine readPosts_ok hF hC h (by omega) s ?_
    rw [show F + m = F + 2 + k by omega, ← hkm]
    exact hQ
  · by_cases ej : 2 + k = f
    · have hbad := h10 (by omega)
      have dn : M_X6_digit (nI (F + N)) (nI 0) (nI (m - 1)) s = some (-nI 9, s) := by
        rcases hbad with b | b
        · exact digit_end q1 (by omega) (by omega) _ _
        · by_cases c : F + N ≤ F + 2 + k
          · exact digit_end q1 (by omega) (by omega) _ _
          · refine digit_no q1 (by omega) (by omega) (by omega) rfl ?_ (by omega)
            rw [t3, show F + 2 + k = F + (2 + k) by omega, hC _ (by omega), ej, show m - 1 + 1 = m by omega]
            unfold zpg at b
            rw [if_pos (by omega)] at b
            exact b
      have f5 : zsu s 7 (upd (s 7) k (-nI 9)) 7 k = -nI 9 := by rw [zsu_eq, upd_eq]
      refine ⟨(nI 0, zsu s 7 (upd (s 7) k (-nI 9))), ?_, Or.inr ⟨by omega, rfl, ?_, q3.sc (by omega) k _⟩⟩
      · unfold B_X6_readVine_59
        simp (disch := omega) only [↓reduceIte, ↓znm, ↓zbd_some, ↓zbv_some, ↓zga_in, ↓zgs_in, ↓zgr_in, zga_in, zgs_in, zgr_in, zgz_n0, zgz_n1, zlit, nI_add, pk_mul, pk_sub, znI_or, znI_and, znI_df, zon_ok, zbt_ok, zlt_t, zlt_f, zle_t, zle_f, zeq_f, q2, ↓zbd_of dn, f5]
      · show zsu s 7 (upd (s 7) k (-nI 9)) 0 10 = _
        rw [zsu_ne (by decide), q1, ← ej]
        congr 1; omega
    · obtain ⟨k1, k2⟩ := h9 (2 + k) (by omega) (by omega)
      unfold zpg at k2
      rw [if_pos (by omega)] at k2
      obtain ⟨v1, v2⟩ := zdg_get (by omega) k2
      have dy := digit_yes (s := s) (e := F + N) (lo := 0) (b := m - 1) (v := zdi (C (2 + k))) q1 (by omega) (by omega) (by rw [t3, show F + 2 + k = F + (2 + k) by omega, hC _ k1]; exact v2) (by omega) (by omega) (by omega)
      obtain ⟨s2, hs2⟩ : ∃ s2, s2 = zsu s 0 (upd (s 0) 10 (nI (F + 2 + k + 1))) := ⟨_, rfl⟩
      rw [← hs2] at dy
      obtain ⟨s3, hs3⟩ : ∃ s3, s3 = zsu s2 7 (upd (s2 7) k (nI (zdi (C (2 + k))))) := ⟨_, rfl⟩
      have f5 : s3 7 k = nI (zdi (C (2 + k))) := by rw [hs3, zsu_eq, upd_eq]
      have n9 : (nI (zdi (C (2 + k))) = -nI 9) = False := eq_false (zneg_ne (by omega) (by decide) (by decide))
      have e : B_X6_readVine_59 (nI (F + N)) (fun v2 σ => rec (v2, σ)) (nI k) s = rec (nI (k + 1), s3) := by
        unfold B_X6_readVine_59
        simp (disch := omega) only [↓reduceIte, ↓znm, ↓zbd_some, ↓zbv_some, ↓zga_in, ↓zgs_in, ↓zgr_in, zga_in, zgs_in, zgr_in, zgz_n0, zgz_n1, zlit, nI_add, pk_mul, pk_sub, znI_or, znI_and, znI_df, zon_ok, zbt_ok, zlt_t, zlt_f, zle_t, zle_f, zeq_f, q2, ↓zbd_of dy, ← hs3, f5, n9]
      rw [e]
      refine ih _ ⟨k + 1, by omega, by omega, rfl, ?_, ?_, ?_, fun i hi => ?_, fun q hq => by omega⟩ ?_
      · show s3 0 10 = _
        rw [hs3, zsu_ne (by decide), hs2, zsu_eq, upd_eq]
        congr 1
      · show s3 0 11 = _
        rw [hs3, zsu_ne (by decide), hs2, zsu_eq, upd_ne (by decide)]; exact q2
      · show zfr τ s3
        rw [hs3]
        refine zfr.sc ?_ (by omega) k _
        rw [hs2]
        exact q3.s0 (by omega) _
      · show s3 7 i = _
        rw [hs3, zsu_eq, hs2, zsu_ne (by decide)]
        by_cases eq : i = k
        · rw [eq, upd_eq]
        · rw [upd_ne eq]
          exact q4 i (by omega)
      · show m - (nI (k + 1)).toNatClampNeg < m - (nI k).toNatClampNeg
        rw [nI_clamp (by omega), nI_clamp (by omega)]
        omega
theorem readVine_bad0 {τ : zSt} {C : Nat → Int32} {F N : Nat} (hF : F + N ≤ 240) (hC : ∀ j, j < N → τ 3 (F + j) = C j) (h0 : τ 0 10 = nI F) (h : N = 0 ∨ ¬ C 0 = nI 118) : M_X6_readVine (nI (F + N)) τ = some (nI 0, τ) := by
  unfold M_X6_readVine
  by_cases hN : N = 0
  · subst hN
    simp (disch := omega) only [↓reduceIte, ↓znm, ↓zbd_some, ↓zbv_some, ↓zga_in, ↓zgs_in, ↓zgr_in, zga_in, zgs_in, zgr_in, zgz_n0, zgz_n1, zlit, nI_add, pk_mul, pk_sub, znI_or, znI_and, znI_df, zon_ok, zbt_ok, zlt_t, zlt_f, zle_t, zle_f, zeq_f, h0, Nat.add_zero]
  · have hc := h.resolve_left hN
    have c0 := hC 0 (by omega)
    rw [Nat.add_zero] at c0
    have n1 := eq_false hc
    simp (disch := omega) only [↓reduceIte, ↓znm, ↓zbd_some, ↓zbv_some, ↓zga_in, ↓zgs_in, ↓zgr_in, zga_in, zgs_in, zgr_in, zgz_n0, zgz_n1, zlit, nI_add, pk_mul, pk_sub, znI_or, znI_and, znI_df, zon_ok, zbt_ok, zlt_t, zlt_f, zle_t, zle_f, zeq_f, h0, c0, n1]
theorem readVine_bad1 {τ : zSt} {C : Nat → Int32} {F N : Nat} (hF : F + N ≤ 240) (hC : ∀ j, j < N → τ 3 (F + j) = C j) (h0 : τ 0 10 = nI F) (hc0 : C 0 = nI 118) (h1 : 1 ≤ N) (h : N = 1 ∨ ¬ ∃ m, 2 ≤ m ∧ m ≤ 8 ∧ C 1 = nI (48 + m)) : ∃ s, M_X6_readVine (nI (F + N)) τ = some (nI 0, s) ∧ s 0 10 = nI (F + 1) ∧ zfr τ s := by
  have c0 := hC 0 (by omega)
  rw [Nat.add_zero, hc0] at c0
  obtain ⟨s1, hs1⟩ : ∃ s1, s1 = zsu τ 0 (upd (τ 0) 10 (nI (F + 1))) := ⟨_, rfl⟩
  have f1 : s1 0 10 = nI (F + 1) := by rw [hs1, zsu_eq, upd_eq]
  have f2 : zfr τ s1 := by rw [hs1]; exact zfr.rf.s0 (by omega) _
  have dn : M_X6_digit (nI (F + N)) (nI 2) (nI 8) s1 = some (-nI 9, s1) := by
    by_cases hN : N = 1
    · exact digit_end f1 (by omega) (by omega) _ _
    · have hc := h.resolve_left hN
      have c1 := hC 1 (by omega)
      have f3 : s1 3 (F + 1) = C 1 := by rw [hs1, zsu_ne (by decide)]; exact c1
      unfold M_X6_digit M_X6_within
      rcases zix (C 1) (n := 57) (by decide) with e | e | ⟨j, hj, e⟩
      · simp (disch := omega) only [↓reduceIte, ↓znm, ↓zbd_some, ↓zbv_some, ↓zga_in, ↓zgs_in, ↓zgr_in, zga_in, zgs_in, zgr_in, zgz_n0, zgz_n1, zlit, nI_add, pk_mul, pk_sub, znI_or, znI_and, znI_df, zon_ok, zbt_ok, zlt_t, zlt_f, zle_t, zle_f, zeq_f, f1, f3, zneg_lt e]
      · simp (disch := omega) only [↓reduceIte, ↓znm, ↓zbd_some, ↓zbv_some, ↓zga_in, ↓zgs_in, ↓zgr_in, zga_in, zgs_in, zgr_in, zgz_n0, zgz_n1, zlit, nI_add, pk_mul, pk_sub, znI_or, znI_and, znI_df, zon_ok, zbt_ok, zlt_t, zlt_f, zle_t, zle_f, zeq_f, f1, f3, zbig_lt (by decide) e, zbig_gt (by decide) e]
      · have : j < 50 := by
          by_cases g : j < 50
          · exact g
          · exact absurd ⟨j - 48, by omega, by omega, by rw [e, show 48 + (j - 48) = j by omega]⟩ hc
        simp (disch := omega) only [↓reduceIte, ↓znm, ↓zbd_some, ↓zbv_some, ↓zga_in, ↓zgs_in, ↓zgr_in, zga_in, zgs_in, zgr_in, zgz_n0, zgz_n1, zlit, nI_add, pk_mul, pk_sub, znI_or, znI_and, znI_df, zon_ok, zbt_ok, zlt_t, zlt_f, zle_t, zle_f, zeq_f, f1, f3, e]
  have f4 : zsu s1 0 (upd (s1 0) 11 (-nI 9)) 0 11 = -nI 9 := by rw [zsu_eq, upd_eq]
  refine ⟨zsu s1 0 (upd (s1 0) 11 (-nI 9)), ?_, by rw [zsu_eq, upd_ne (by decide)]; exact f1, f2.s0 (by omega) _⟩
  unfold M_X6_readVine
  simp (disch := omega) only [↓reduceIte, ↓znm, ↓zbd_some, ↓zbv_some, ↓zga_in, ↓zgs_in, ↓zgr_in, zga_in, zgs_in, zgr_in, zgz_n0, zgz_n1, zlit, nI_add, pk_mul, pk_sub, znI_or, znI_and, znI_df, zon_ok, zbt_ok, zlt_t, zlt_f, zle_t, zle_f, zeq_f, h0, c0, ← hs1, ↓zbd_of dn, f4]
theorem readVine_ok {τ : zSt} {C : Nat → Int32} {F N m f : Nat} (hF : F + N ≤ 240) (hC : ∀ j, j < N → τ 3 (F + j) = C j) (h0 : τ 0 10 = nI F) (h : zTx C N m f) : ∃ o, M_X6_readVine (nI (F + N)) τ = some o ∧ zQo τ C F N m f o := by
  obtain ⟨h1, h2, h3, h4, h5, h6, h7, h8, h9, h10⟩ := id h
  have c0 := hC 0 (by omega)
  rw [Nat.add_zero, h5] at c0
  have c1 := hC 1 (by omega)
  rw [h6] at c1
  obtain ⟨s1, hs1⟩ : ∃ s1, s1 = zsu τ 0 (upd (τ 0) 10 (nI (F + 1))) := ⟨_, rfl⟩
  have f1 : s1 0 10 = nI (F + 1) := by rw [hs1, zsu_eq, upd_eq]
  have f2 : zfr τ s1 := by rw [hs1]; exact zfr.rf.s0 (by omega) _
  have dy := digit_yes (s := s1) (e := F + N) (lo := 2) (b := 8) (v := m) f1 (by omega) (by omega) (by rw [f2.1 3 (by decide) (by decide) (by decide) (by decide)]; exact c1) h1 h2 (by decide)
  obtain ⟨s2, hs2⟩ : ∃ s2, s2 = zsu s1 0 (upd (s1 0) 10 (nI (F + 1 + 1))) := ⟨_, rfl⟩
  rw [← hs2] at dy
  obtain ⟨s3, hs3⟩ : ∃ s3, s3 = zsu s2 0 (upd (s2 0) 11 (nI m)) := ⟨_, rfl⟩
  have f3 : s3 0 11 = nI m := by rw [hs3, zsu_eq, upd_eq]
  have n9 : (nI m = -nI 9) = False := eq_false (zneg_ne (by omega) (by decide) (by decide))
  have e : M_X6_readVine (nI (F + N)) τ = L_X6_readVine_59 (nI (F + N)) (nI 0) s3 := by
    unfold M_X6_readVine
    simp (disch := omega) only [↓reduceIte, ↓znm, ↓zbd_some, ↓zbv_some, ↓zga_in, ↓zgs_in, ↓zgr_in, zga_in, zgs_in, zgr_in, zgz_n0, zgz_n1, zlit, nI_add, pk_mul, pk_sub, znI_or, znI_and, znI_df, zon_ok, zbt_ok, zlt_t, zlt_f, zle_t, zle_f, zeq_f, h0, c0, ← hs1, ↓zbd_of dy, ← hs3, f3, n9]
  rw [e]
  refine readRows_ok hF hC h s3 ⟨?_, f3, ?_, fun k hk => by omega, fun q hq => by omega⟩
  · rw [hs3, zsu_eq, upd_ne (by decide), hs2, zsu_eq, upd_eq]
  · rw [hs3]
    refine zfr.s0 ?_ (by omega) _
    rw [hs2]
    exact f2.s0 (by omega) _
