/-! PURE: vine: the reference grows it; vine -/
def zew (r : Nat → Nat) (m : Nat) : Nat → Nat → Nat
  | 0, _ => 0
  | k + 1, q => if q = zgk r m k then zew r m k q ||| 2 ^ zgh r m k else if q = zgh r m k then zew r m k q ||| 2 ^ zgk r m k else zew r m k q
theorem zew_bit {r : Nat → Nat} {m : Nat} (hm : m ≤ 8) (h2 : 2 ≤ m) (hr : ∀ k, k < m - 2 → r k < m) (q x : Nat) : ∀ k, k ≤ m - 1 → ((zew r m k q).testBit x = true ↔ zgb r m 0 k q x) ∧ zew r m k q < 256
  | 0, _ => by
    refine ⟨⟨fun h => absurd h (by unfold zew; simp), ?_⟩, by unfold zew; decide⟩
    rintro ⟨j, -, h, -⟩
    omega
  | k + 1, hk => by
    obtain ⟨i1, i2⟩ := zew_bit hm h2 hr q x k (by omega)
    obtain ⟨a1, a2, a3, a4, a5, a6, a7⟩ := zgrow_h hm h2 hr (k := k) (by omega)
    unfold zew
    have ext : zgb r m 0 (k + 1) q x ↔ zgb r m 0 k q x ∨ ((q = zgk r m k ∧ x = zgh r m k) ∨ (q = zgh r m k ∧ x = zgk r m k)) := by
      constructor
      · rintro ⟨j, j1, j2, j3⟩
        by_cases e : j = k
        · exact Or.inr (e ▸ j3)
        · exact Or.inl ⟨j, j1, by omega, j3⟩
      · rintro (⟨j, j1, j2, j3⟩ | h)
        · exact ⟨j, j1, by omega, j3⟩
        · exact ⟨k, by omega, by omega, h⟩
    by_cases e1 : q = zgk r m k
    · rw [if_pos e1]
      refine ⟨?_, zor_lt i2 (z2p (by omega))⟩
      rw [Nat.testBit_or, Bool.or_eq_true, zbit2, i1, ext]
      constructor
      · rintro (h | h)
        · exact Or.inl h
        · exact Or.inr (Or.inl ⟨e1, h⟩)
      · rintro (h | ⟨-, h⟩ | ⟨h, -⟩)
        · exact Or.inl h
        · exact Or.inr h
        · exact absurd (e1.symm.trans h) a4
    · rw [if_neg e1]
      by_cases e2 : q = zgh r m k
      · rw [if_pos e2]
        refine ⟨?_, zor_lt i2 (z2p (by omega))⟩
        rw [Nat.testBit_or, Bool.or_eq_true, zbit2, i1, ext]
        constructor
        · rintro (h | h)
          · exact Or.inl h
          · exact Or.inr (Or.inr ⟨e2, h⟩)
        · rintro (h | ⟨h, -⟩ | ⟨-, h⟩)
          · exact Or.inl h
          · exact absurd h e1
          · exact Or.inr h
      · rw [if_neg e2]
        refine ⟨?_, i2⟩
        rw [i1, ext]
        constructor
        · exact fun h => Or.inl h
        · rintro (h | ⟨h, -⟩ | ⟨h, -⟩)
          · exact h
          · exact absurd h e1
          · exact absurd h e2
def zwM (s : zSt) (r : Nat → Nat) (m k : Nat) : zSt := fun c y => if c = 4 ∧ y < 8 then nI (zew r m k y) else s c y
theorem zwM_c {s : zSt} {r : Nat → Nat} {m k c : Nat} (h : c ≠ 4) : zwM s r m k c = s c := by
  funext y
  unfold zwM
  rw [if_neg (by omega)]
theorem join_ok {s : zSt} {r : Nat → Nat} {m k : Nat} (hm : m ≤ 8) (h2 : 2 ≤ m) (hr : ∀ k, k < m - 2 → r k < m) (hk : k < m - 1) : M_X6_join (nI (zgk r m k)) (nI (zgh r m k)) (zwM s r m k) = some (zwM s r m (k + 1)) := by
  obtain ⟨a1, a2, a3, a4, a5, a6, a7⟩ := zgrow_h hm h2 hr hk
  have f1 : ∀ q, q < 8 → zwM s r m k 4 q = nI (zew r m k q) := fun q hq => by
    unfold zwM
    rw [if_pos ⟨rfl, hq⟩]
  obtain ⟨s1, hs1⟩ : ∃ s1, s1 = zsu (zwM s r m k) 4 (upd (zwM s r m k 4) (zgk r m k) (nI (zew r m k (zgk r m k) ||| 2 ^ zgh r m k))) := ⟨_, rfl⟩
  have f2 : s1 4 (zgh r m k) = nI (zew r m k (zgh r m k)) := by
    rw [hs1, zsu_eq, upd_ne (fun e => a4 e.symm)]
    exact f1 _ (by omega)
  have f3 : zsu s1 4 (upd (s1 4) (zgh r m k) (nI (zew r m k (zgh r m k) ||| 2 ^ zgk r m k))) = zwM s r m (k + 1) := by
    funext c y
    rw [zput_at, hs1, zput_at]
    unfold zwM
    by_cases e1 : c = 4 ∧ y = zgh r m k
    · rw [if_pos e1, if_pos (by omega), e1.2]
      congr 1
      show _ = (if zgh r m k = zgk r m k then _ else if zgh r m k = zgh r m k then _ else _)
      rw [if_neg (show ¬ zgh r m k = zgk r m k from fun e => a4 e.symm), if_pos rfl]
    · rw [if_neg e1]
      by_cases e2 : c = 4 ∧ y = zgk r m k
      · rw [if_pos e2, if_pos (by omega), e2.2]
        congr 1
        show _ = (if zgk r m k = zgk r m k then _ else _)
        rw [if_pos rfl]
      · rw [if_neg e2]
        by_cases e3 : c = 4 ∧ y < 8
        · rw [if_pos e3, if_pos e3]
          congr 1
          show _ = (if y = zgk r m k then _ else if y = zgh r m k then _ else _)
          rw [if_neg (fun e => e2 ⟨e3.1, e⟩), if_neg (fun e => e1 ⟨e3.1, e⟩)]
        · rw [if_neg e3, if_neg e3]
  unfold M_X6_join
  simp (disch := omega) only [↓reduceIte, ↓znm, ↓zbd_some, ↓zbv_some, ↓zga_in, ↓zgs_in, ↓zgr_in, zga_in, zgs_in, zgr_in, zgz_n0, zgz_n1, zlit, nI_add, pk_mul, pk_sub, znI_or, znI_and, znI_df, zon_ok, zbt_ok, zlt_t, zlt_f, zle_t, zle_f, zeq_f, f1, ← hs1, f2, f3]
theorem growVine_ok {s : zSt} {r : Nat → Nat} {m : Nat} (hm : m ≤ 8) (h2 : 2 ≤ m) (hr : ∀ k, k < m - 2 → r k < m) (h0 : s 0 5 = nI m) (h7 : ∀ k, k < m - 2 → s 7 k = nI (r k)) : M_X6_growVine s = some (zwM s r m (m - 1)) := by
  have hp := zp256 hm
  have hp0 := Nat.two_pow_pos m
  have g0 : ∀ k, zwM s r m k 0 5 = nI m := fun k => by rw [zwM_c (by decide)]; exact h0
  have g7 : ∀ k j, j < m - 2 → zwM s r m k 7 j = nI (r j) := fun k j hj => by rw [zwM_c (by decide)]; exact h7 j hj
  unfold M_X6_growVine L_X6_growVine_2
  refine zloop_for (fun i => (nI i, fun c y => if c = 4 ∧ y < i then nI 0 else s c y)) 8 ?_ (by decide) (fun rec i hi => ?_) (fun rec => ?_)
  · have : (fun (c y : Nat) => if c = 4 ∧ y < 0 then nI 0 else s c y) = s := by
      funext c y
      rw [if_neg (by omega)]
    rw [this]; rfl
  · obtain ⟨t, ht⟩ : ∃ t : zSt, t = (fun (c y : Nat) => if c = 4 ∧ y < i then nI 0 else s c y) := ⟨_, rfl⟩
    have e2 : zsu t 4 (upd (t 4) i (nI 0)) = (fun (c y : Nat) => if c = 4 ∧ y < i + 1 then nI 0 else s c y) := by
      funext c y
      rw [zput_at, ht]
      by_cases c1 : c = 4 ∧ y = i
      · rw [if_pos c1, if_pos (by omega)]
      · rw [if_neg c1]
        show (if c = 4 ∧ y < i then nI 0 else s c y) = _
        by_cases c2 : c = 4 ∧ y < i
        · rw [if_pos c2, if_pos (by omega)]
        · rw [if_neg c2, if_neg (by omega)]
    rw [← ht]
    unfold B_X6_growVine_2
    simp (disch := omega) only [↓reduceIte, ↓znm, ↓zbd_some, ↓zbv_some, ↓zga_in, ↓zgs_in, ↓zgr_in, zga_in, zgs_in, zgr_in, zgz_n0, zgz_n1, zlit, nI_add, pk_mul, pk_sub, znI_or, znI_and, znI_df, zon_ok, zbt_ok, zlt_t, zlt_f, zle_t, zle_f, zeq_f, e2]
  · have e0 : (fun (c y : Nat) => if c = 4 ∧ y < 8 then nI 0 else s c y) = zwM s r m 0 := rfl
    rw [e0]
    unfold B_X6_growVine_2
    simp (disch := omega) only [↓reduceIte, ↓znm, ↓zbd_some, ↓zbv_some, ↓zga_in, ↓zgs_in, ↓zgr_in, zga_in, zgs_in, zgr_in, zgz_n0, zgz_n1, zlit, nI_add, pk_mul, pk_sub, znI_or, znI_and, znI_df, zon_ok, zbt_ok, zlt_t, zlt_f, zle_t, zle_f, zeq_f, g0]
    unfold L_X6_growVine_32
    refine zloop_for (fun k => (nI (zgl r m k), nI k, zwM s r m k)) (m - 2) rfl (by omega) (fun rc k hk => ?_) (fun rc => ?_)
    · obtain ⟨a1, a2, a3, a4, a5, a6, a7⟩ := zgrow_h hm h2 hr (k := k) (by omega)
      unfold B_X6_growVine_32
      simp (disch := omega) only [↓reduceIte, ↓znm, ↓zbd_some, ↓zbv_some, ↓zga_in, ↓zgs_in, ↓zgr_in, zga_in, zgs_in, zgr_in, zgz_n0, zgz_n1, zlit, nI_add, pk_mul, pk_sub, znI_or, znI_and, znI_df, zon_ok, zbt_ok, zlt_t, zlt_f, zle_t, zle_f, zeq_f, g0]
      unfold L_X6_growVine_47
      refine zloop_for (fun j => (nI (zgl r m k), nI k, nI (zna r k j), nI (k + j), zwM s r m k)) (m - 2 - k) rfl (by omega) (fun rd j hj => ?_) (fun rd => ?_)
      · have l := hr (k + j) (by omega)
        unfold B_X6_growVine_47
        simp (disch := omega) only [↓reduceIte, ↓znm, ↓zbd_some, ↓zbv_some, ↓zga_in, ↓zgs_in, ↓zgr_in, zga_in, zgs_in, zgr_in, zgz_n0, zgz_n1, zlit, nI_add, pk_mul, pk_sub, znI_or, znI_and, znI_df, zon_ok, zbt_ok, zlt_t, zlt_f, zle_t, zle_f, zeq_f, g0, g7 k (k + j) (by omega), zna]
        rfl
      · have lo := leastM_ok (zdf_lt (b := zna r k (m - 2 - k)) (zgl_lt r hm k)) a7 (zwM s r m k)
        have lh : zlo (zdf (zgl r m k) (zna r k (m - 2 - k))) = zgk r m k := rfl
        rw [lh] at lo
        have jo := join_ok (s := s) hm h2 hr (k := k) (by omega)
        have gh : zgh r m k = r k := if_pos hk
        rw [gh] at jo
        have e3 : zdf (zgl r m k) (2 ^ zgk r m k) = zgl r m (k + 1) := rfl
        unfold B_X6_growVine_47
        simp (disch := omega) only [↓reduceIte, ↓znm, ↓zbd_some, ↓zbv_some, ↓zga_in, ↓zgs_in, ↓zgr_in, zga_in, zgs_in, zgr_in, zgz_n0, zgz_n1, zlit, nI_add, pk_mul, pk_sub, znI_or, znI_and, znI_df, zon_ok, zbt_ok, zlt_t, zlt_f, zle_t, zle_f, zeq_f, g0, show k + (m - 2 - k) = m - 2 by omega, ↓zbd_of lo, g7 k k hk, ↓zbv_of jo, e3]
    · obtain ⟨a1, a2, a3, a4, a5, a6, a7⟩ := zgrow_h hm h2 hr (k := m - 2) (by omega)
      have lh : zlo (zgl r m (m - 2)) = zgk r m (m - 2) := by
        unfold zgk
        rw [Nat.sub_self]
        show _ = zlo (zdf (zgl r m (m - 2)) 0)
        rw [zdf_0]
      have ne1 : zgl r m (m - 2) ≠ 0 := by
        rw [Nat.sub_self] at a7
        have : zdf (zgl r m (m - 2)) 0 ≠ 0 := a7
        rw [zdf_0] at this
        exact this
      have lo := leastM_ok (zgl_lt r hm (m - 2)) ne1 (zwM s r m (m - 2))
      rw [lh] at lo
      have e3 : zdf (zgl r m (m - 2)) (2 ^ zgk r m (m - 2)) = zgl r m (m - 1) := by
        rw [show m - 1 = m - 2 + 1 by omega]
        rfl
      have lh2 : zlo (zgl r m (m - 1)) = zgh r m (m - 2) := by
        unfold zgh
        rw [if_neg (by omega)]
      obtain ⟨j1, -, -⟩ := zgrow hm h2 hr (m - 1) (Nat.le_refl _)
      have lo2 := leastM_ok (zgl_lt r hm (m - 1)) (zpc_ne (by omega)) (zwM s r m (m - 2))
      rw [lh2] at lo2
      have jo := join_ok (s := s) hm h2 hr (k := m - 2) (by omega)
      rw [show m - 2 + 1 = m - 1 by omega] at jo
      unfold B_X6_growVine_32
      simp (disch := omega) only [↓reduceIte, ↓znm, ↓zbd_some, ↓zbv_some, ↓zga_in, ↓zgs_in, ↓zgr_in, zga_in, zgs_in, zgr_in, zgz_n0, zgz_n1, zlit, nI_add, pk_mul, pk_sub, znI_or, znI_and, znI_df, zon_ok, zbt_ok, zlt_t, zlt_f, zle_t, zle_f, zeq_f, g0, ↓zbd_of lo, e3, ↓zbd_of lo2, ↓zbv_of jo]
/-- kinds and loads of what was read -/
theorem vineM_ok {s : zSt} {m : Nat} {r kd ld : Nat → Nat} (hm : m ≤ 8) (h2 : 2 ≤ m) (hr : ∀ k, k < m - 2 → r k < m) (h0 : s 0 5 = nI m) (h7 : ∀ k, k < m - 2 → s 7 k = nI (r k)) (h8 : ∀ p, p < m → s 8 p = nI (kd p) ∧ s 9 p = nI (ld p)) (p1 p2 p3 p4 : Int32) : ∃ t, L_X6_vine_95 p1 p2 p3 p4 (nI 0) s = some (nI m, t) ∧ t 0 5 = nI m ∧ t 0 6 = nI 0 ∧ t 0 23 = nI 0 ∧ (∀ y, y ≠ 6 → y ≠ 23 → t 0 y = s 0 y) ∧ (∀ p, p < m → t 5 p = nI (kd p) ∧ t 6 p = nI (ld p) ∧ t 4 p = nI (zew r m (m - 1) p)) ∧ ∀ c, c ≠ 0 → c ≠ 4 → c ≠ 5 → c ≠ 6 → t c = s c := by
  have g0 : ∀ i, zp2 s 5 6 kd ld i 0 5 = nI m := fun i => by rw [zp2_c (by decide) (by decide)]; exact h0
  have gv := growVine_ok (s := zp2 s 5 6 kd ld m) hm h2 hr (g0 m) (fun k hk => by rw [zp2_c (by decide) (by decide)]; exact h7 k hk)
  obtain ⟨s1, hs1⟩ : ∃ s1, s1 = zwM (zp2 s 5 6 kd ld m) r m (m - 1) := ⟨_, rfl⟩
  rw [← hs1] at gv
  obtain ⟨s2, hs2⟩ : ∃ s2, s2 = zsu s1 0 (upd (s1 0) 6 (nI 0)) := ⟨_, rfl⟩
  obtain ⟨s3, hs3⟩ : ∃ s3, s3 = zsu s2 0 (upd (s2 0) 23 (nI 0)) := ⟨_, rfl⟩
  have s10 : s1 0 = s 0 := by rw [hs1, zwM_c (by decide), zp2_c (by decide) (by decide)]
  have s35 : s3 0 5 = nI m := by rw [hs3, zsu_eq, upd_ne (by decide), hs2, zsu_eq, upd_ne (by decide), s10]; exact h0
  have s3c : ∀ c, c ≠ 0 → s3 c = s1 c := fun c hc => by rw [hs3, zsu_ne hc, hs2, zsu_ne hc]
  refine ⟨s3, ?_, s35, ?_, ?_, fun y h1 h2 => ?_, fun p hp => ⟨?_, ?_, ?_⟩, fun c c0 c4 c5 c6 => ?_⟩
  · unfold L_X6_vine_95
    refine zloop_for (fun i => (nI i, zp2 s 5 6 kd ld i)) m ?_ (by omega) (fun rec i hi => ?_) (fun rec => ?_)
    · rw [zp2_0]
    · obtain ⟨t1, ht1⟩ : ∃ t1, t1 = zsu (zp2 s 5 6 kd ld i) 5 (upd (zp2 s 5 6 kd ld i 5) i (nI (kd i))) := ⟨_, rfl⟩
      have g1 : zp2 s 5 6 kd ld i 8 i = nI (kd i) := by rw [zp2_c (by decide) (by decide)]; exact (h8 i hi).1
      have g2 : t1 9 i = nI (ld i) := by rw [ht1, zsu_ne (by decide), zp2_c (by decide) (by decide)]; exact (h8 i hi).2
      have g3 := zp2_s (τ := s) (c1 := 5) (c2 := 6) (f := kd) (g := ld) (i := i) (by decide)
      dsimp only at g3
      rw [← ht1] at g3
      unfold B_X6_vine_95
      simp (disch := omega) only [↓reduceIte, ↓znm, ↓zbd_some, ↓zbv_some, ↓zga_in, ↓zgs_in, ↓zgr_in, zga_in, zgs_in, zgr_in, zgz_n0, zgz_n1, zlit, nI_add, pk_mul, pk_sub, znI_or, znI_and, znI_df, zon_ok, zbt_ok, zlt_t, zlt_f, zle_t, zle_f, zeq_f, g0, g1, ← ht1, g2, g3]
    · unfold B_X6_vine_95
      simp (disch := omega) only [↓reduceIte, ↓znm, ↓zbd_some, ↓zbv_some, ↓zga_in, ↓zgs_in, ↓zgr_in, zga_in, zgs_in, zgr_in, zgz_n0, zgz_n1, zlit, nI_add, pk_mul, pk_sub, znI_or, znI_and, znI_df, zon_ok, zbt_ok, zlt_t, zlt_f, zle_t, zle_f, zeq_f, g0, ↓zbv_of gv, ← hs2, ← hs3, s35]
  · rw [hs3, zsu_eq, upd_ne (by decide), hs2, zsu_eq, upd_eq]
  · rw [hs3, zsu_eq, upd_eq]
  · rw [hs3, zsu_eq, upd_ne h2, hs2, zsu_eq, upd_ne h1, s10]
  · rw [s3c 5 (by decide), hs1, zwM_c (by decide)]; exact zp2_1 hp
  · rw [s3c 6 (by decide), hs1, zwM_c (by decide)]; exact zp2_2 (by decide) hp
  · rw [s3c 4 (by decide), hs1]
    unfold zwM
    rw [if_pos (by omega)]
  · rw [s3c c c0, hs1, zwM_c c4, zp2_c c5 c6]
theorem zRel.fr {σ τ s : zSt} (h : zRel σ τ) (hf : zfr τ s) : zRel σ s := h.eq zeqX.rf zeqX0.rf ⟨fun c _ _ => hf.1 c (by omega) (by omega) (by omega) (by omega), fun c _ _ => hf.1 c (by omega) (by omega) (by omega) (by omega), hf.2 5 (by decide) (by decide), hf.2 23 (by decide) (by decide)⟩ ⟨hf.2 0 (by decide) (by decide), hf.2 1 (by decide) (by decide), hf.2 6 (by decide) (by decide)⟩
theorem sim_vine (p1 p2 p3 p4 : Int32) : zSim (M_X5_vine p1 p2 p3 p4) (M_X6_vine p1 p2 p3 p4) := by
  intro σ τ h0
  have h := h0.fault (nI 0)
  unfold M_X5_vine M_X6_vine
  simp only [znm, zlit]
  generalize zsu σ 0 (upd (σ 0) 7 (nI 0)) = σ at h ⊢
  generalize zsu τ 0 (upd (τ 0) 0 (nI 0)) = τ at h ⊢
  rcases zcase p1 4 (by decide) with hp | ⟨k, hk, rfl⟩
  · refine ⟨-nI 1, σ, τ, ?_, ?_, h⟩
    · simp (disch := omega) only [↓reduceIte, ↓znm, ↓zbd_some, ↓zbv_some, ↓zga_in, ↓zgs_in, ↓zgr_in, zga_in, zgs_in, zgr_in, zgz_n0, zgz_n1, zlit, nI_add, pk_mul, pk_sub, znI_or, znI_and, znI_df, zon_ok, zbt_ok, zlt_t, zlt_f, zle_t, zle_f, zeq_f, ↓zbd_of (isSheet_no hp σ).1]
    · simp (disch := omega) only [↓reduceIte, ↓znm, ↓zbd_some, ↓zbv_some, ↓zga_in, ↓zgs_in, ↓zgr_in, zga_in, zgs_in, zgr_in, zgz_n0, zgz_n1, zlit, nI_add, pk_mul, pk_sub, znI_or, znI_and, znI_df, zon_ok, zbt_ok, zlt_t, zlt_f, zle_t, zle_f, zeq_f, ↓zbd_of (isSheet_no hp τ).2]
  have u1 := (isSheet_yes hk σ).1
  have u2 := (isSheet_yes hk τ).2
  rcases zcase p2 3 (by decide) with hl | ⟨m, hm, rfl⟩
  · refine ⟨-nI 2, σ, τ, ?_, ?_, h⟩
    · simp (disch := omega) only [↓reduceIte, ↓znm, ↓zbd_some, ↓zbv_some, ↓zga_in, ↓zgs_in, ↓zgr_in, zga_in, zgs_in, zgr_in, zgz_n0, zgz_n1, zlit, nI_add, pk_mul, pk_sub, znI_or, znI_and, znI_df, zon_ok, zbt_ok, zlt_t, zlt_f, zle_t, zle_f, zeq_f, ↓zbd_of u1, ↓zbd_of (isLane_no hl σ).1]
    · simp (disch := omega) only [↓reduceIte, ↓znm, ↓zbd_some, ↓zbv_some, ↓zga_in, ↓zgs_in, ↓zgr_in, zga_in, zgs_in, zgr_in, zgz_n0, zgz_n1, zlit, nI_add, pk_mul, pk_sub, znI_or, znI_and, znI_df, zon_ok, zbt_ok, zlt_t, zlt_f, zle_t, zle_f, zeq_f, ↓zbd_of u2, ↓zbd_of (isLane_no hl τ).2]
  have w1 := (isLane_yes hm σ).1
  have w2 := (isLane_yes hm τ).2
  rcases h.2.1 k hk with ⟨a1, a2⟩ | ⟨ln, len, t1, t2, t3, t4, t5, t6, t7⟩
  · refine ⟨-10 - nI 1, _, _, ?_, ?_, h.fault (nI 1)⟩
    · unfold B_X5_vine_53 B_X5_vine_72
      simp (disch := omega) only [↓reduceIte, ↓znm, ↓zbd_some, ↓zbv_some, ↓zga_in, ↓zgs_in, ↓zgr_in, zga_in, zgs_in, zgr_in, zgz_n0, zgz_n1, zlit, nI_add, pk_mul, pk_sub, znI_or, znI_and, znI_df, zon_ok, zbt_ok, zlt_t, zlt_f, zle_t, zle_f, zeq_f, ↓zbd_of u1, ↓zbd_of w1, ↓zbd_of (faultAs_null a1 (nI m)), ↓zbd_of (faulted_ok (nI 1) σ)]
    · simp (disch := omega) only [↓reduceIte, ↓znm, ↓zbd_some, ↓zbv_some, ↓zga_in, ↓zgs_in, ↓zgr_in, zga_in, zgs_in, zgr_in, zgz_n0, zgz_n1, zlit, nI_add, pk_mul, pk_sub, znI_or, znI_and, znI_df, zon_ok, zbt_ok, zlt_t, zlt_f, zle_t, zle_f, zeq_f, ↓zbd_of u2, ↓zbd_of w2, ↓zbd_of (against_null hk a2 (nI m) p3 p4), ↓zbd_of (fails_ok (nI 1) τ)]
  by_cases hlm : ln = m
  rotate_left
  · have fa := faultAs_ok t3 t1 hm
    rw [if_neg hlm] at fa
    refine ⟨-10 - nI 2, _, _, ?_, ?_, h.fault (nI 2)⟩
    · unfold B_X5_vine_53 B_X5_vine_72
      simp (disch := omega) only [↓reduceIte, ↓znm, ↓zbd_some, ↓zbv_some, ↓zga_in, ↓zgs_in, ↓zgr_in, zga_in, zgs_in, zgr_in, zgz_n0, zgz_n1, zlit, nI_add, pk_mul, pk_sub, znI_or, znI_and, znI_df, zon_ok, zbt_ok, zlt_t, zlt_f, zle_t, zle_f, zeq_f, ↓zbd_of u1, ↓zbd_of w1, ↓zbd_of fa, ↓zbd_of (faulted_ok (nI 2) σ)]
    · simp (disch := omega) only [↓reduceIte, ↓znm, ↓zbd_some, ↓zbv_some, ↓zga_in, ↓zgs_in, ↓zgr_in, zga_in, zgs_in, zgr_in, zgz_n0, zgz_n1, zlit, nI_add, pk_mul, pk_sub, znI_or, znI_and, znI_df, zon_ok, zbt_ok, zlt_t, zlt_f, zle_t, zle_f, zeq_f, ↓zbd_of u2, ↓zbd_of w2, ↓zbd_of (against_lane hk t4 t1 hm hlm p3 p4), ↓zbd_of (fails_ok (nI 2) τ)]
  subst hlm
  have fa := faultAs_ok t3 t1 hm
  rw [if_pos rfl] at fa
  by_cases hneg : p4 < 0
  · have n1 := zneg_ge hneg 0 (by decide)
    refine ⟨-10 - nI 4, _, _, ?_, ?_, h.fault (nI 4)⟩
    · unfold B_X5_vine_53 B_X5_vine_72
      simp (disch := omega) only [↓reduceIte, ↓znm, ↓zbd_some, ↓zbv_some, ↓zga_in, ↓zgs_in, ↓zgr_in, zga_in, zgs_in, zgr_in, zgz_n0, zgz_n1, zlit, nI_add, pk_mul, pk_sub, znI_or, znI_and, znI_df, zon_ok, zbt_ok, zlt_t, zlt_f, zle_t, zle_f, zeq_f, ↓zbd_of u1, ↓zbd_of w1, ↓zbd_of fa, n1, ↓zbd_of (faulted_ok (nI 4) σ)]
    · simp (disch := omega) only [↓reduceIte, ↓znm, ↓zbd_some, ↓zbv_some, ↓zga_in, ↓zgs_in, ↓zgr_in, zga_in, zgs_in, zgr_in, zgz_n0, zgz_n1, zlit, nI_add, pk_mul, pk_sub, znI_or, znI_and, znI_df, zon_ok, zbt_ok, zlt_t, zlt_f, zle_t, zle_f, zeq_f, ↓zbd_of u2, ↓zbd_of w2, ↓zbd_of (against_neg hk t4 t1 p3 hneg), ↓zbd_of (fails_ok (nI 4) τ)]
  have hp4 : 0 ≤ p4.toInt := by
    rw [zltI] at hneg
    have : (0 : Int32).toInt = 0 := rfl
    omega
  have n1 : (nI 0 ≤ p4) = True := eq_true (by
    rw [zleI']
    have : (nI 0).toInt = 0 := rfl
    omega)
  by_cases hg : zgd len p3 p4
  rotate_left
  · have hh := (has_ok t5 t2 p3 p4).2 hg
    have ga := (against_ok hk t4 t1 t6 t2 p3 p4 hp4).2 hg
    refine ⟨-10 - nI 3, _, _, ?_, ?_, h.fault (nI 3)⟩
    · unfold B_X5_vine_53 B_X5_vine_72
      simp (disch := omega) only [↓reduceIte, ↓znm, ↓zbd_some, ↓zbv_some, ↓zga_in, ↓zgs_in, ↓zgr_in, zga_in, zgs_in, zgr_in, zgz_n0, zgz_n1, zlit, nI_add, pk_mul, pk_sub, znI_or, znI_and, znI_df, zon_ok, zbt_ok, zlt_t, zlt_f, zle_t, zle_f, zeq_f, ↓zbd_of u1, ↓zbd_of w1, ↓zbd_of fa, n1, ↓zbd_of hh, ↓zbd_of (faulted_ok (nI 3) σ)]
    · simp (disch := omega) only [↓reduceIte, ↓znm, ↓zbd_some, ↓zbv_some, ↓zga_in, ↓zgs_in, ↓zgr_in, zga_in, zgs_in, zgr_in, zgz_n0, zgz_n1, zlit, nI_add, pk_mul, pk_sub, znI_or, znI_and, znI_df, zon_ok, zbt_ok, zlt_t, zlt_f, zle_t, zle_f, zeq_f, ↓zbd_of u2, ↓zbd_of w2, ↓zbd_of ga, ↓zbd_of (fails_ok (nI 3) τ)]
  have hh := (has_ok t5 t2 p3 p4).1 hg
  have ga := (against_ok hk t4 t1 t6 t2 p3 p4 hp4).1 hg
  obtain ⟨i0, N, hi0, rfl, rfl⟩ : ∃ i0 N, i0 + N ≤ len ∧ p3 = nI i0 ∧ p4 = nI N := by
    obtain ⟨g1, g2, g3, g4⟩ := hg
    have z0 : (0 : Int32).toInt = 0 := rfl
    rcases zix p3 (n := len + 1) (by omega) with c | c | ⟨i0, hi, rfl⟩
    · rw [zltI] at c
      omega
    · rw [zleI', zti (by omega)] at c
      omega
    · rcases zix p4 (n := len + 1) (by omega) with c | c | ⟨N, hN, rfl⟩
      · rw [zltI] at c
        omega
      · rw [zleI', zti (by omega)] at c
        omega
      · rw [zti (by omega), zti (by omega)] at g4
        exact ⟨i0, N, by omega, rfl, rfl⟩
  -- the text
  obtain ⟨C, hC⟩ : ∃ C : Nat → Int32, ∀ j, C j = τ 3 (60 * k + i0 + j) := ⟨_, fun _ => rfl⟩
  have ha : ∀ j, j < N → M_X2_at (2 + k) (nI (i0 + j)) σ = some (C j, σ) := by
    intro j hj
    have := at_ok (i := i0 + j) t5 t2 (by omega)
    rw [show 2 + k + 4 = 6 + k by omega, t7 _ (by omega), ← Nat.add_assoc, ← hC] at this
    exact this
  obtain ⟨τ1, hτ1⟩ : ∃ τ1, τ1 = zsu τ 0 (upd (τ 0) 10 (nI (60 * k + i0))) := ⟨_, rfl⟩
  have q10 : τ1 0 10 = nI (60 * k + i0) := by rw [hτ1, zsu_eq, upd_eq]
  have qfr : zfr τ τ1 := by rw [hτ1]; exact zfr.rf.s0 (by omega) _
  have qC : ∀ j, j < N → τ1 3 (60 * k + i0 + j) = C j := fun j hj => by rw [qfr.1 3 (by decide) (by decide) (by decide) (by decide), hC]
  have toM : ∀ x, M_X6_readVine (nI (60 * k + i0 + N)) τ1 = some x → ∀ y, (if x.1 = nI 0 then some (-nI 100 - (x.2 0 10 - nI (60 * k + i0)), x.2) else L_X6_vine_95 (nI k) (nI ln) (nI i0) (nI N) (nI 0) (zsu x.2 0 (upd (x.2 0) 5 (x.2 0 11)))) = y → (zbd (M_X6_isSheet (nI k) τ) fun x3 σ2 => if x3 = nI 0 then some (-nI 1, σ2) else zbd (M_X6_isSort (nI ln) σ2) fun x5 σ4 => if x5 = nI 0 then some (-nI 2, σ4) else zbd (M_X6_against (nI k) (nI ln) (nI i0) (nI N) σ4) fun x7 σ6 => if x7 = nI 0 then zbd (M_X6_readVine (nI 60 * nI k + nI i0 + nI N) (zsu σ6 0 (upd (σ6 0) 10 (nI 60 * nI k + nI i0)))) fun x11 σ10 => if x11 = nI 0 then some (-nI 100 - (σ10 0 10 - (nI 60 * nI k + nI i0)), σ10) else L_X6_vine_95 (nI k) (nI ln) (nI i0) (nI N) (nI 0) (zsu σ10 0 (upd (σ10 0) 5 (σ10 0 11))) else zbd (M_X6_fails x7 σ6) fun x16 σ15 => some (x16, σ15)) = y := by
    rintro ⟨x, s⟩ hx y hy
    simp (disch := omega) only [↓reduceIte, ↓znm, ↓zbd_some, ↓zbv_some, ↓zga_in, ↓zgs_in, ↓zgr_in, zga_in, zgs_in, zgr_in, zgz_n0, zgz_n1, zlit, nI_add, pk_mul, znI_or, znI_and, znI_df, zon_ok, zbt_ok, zlt_t, zlt_f, zle_t, zle_f, zeq_f, ↓zbd_of u2, ↓zbd_of w2, ↓zbd_of ga, ← hτ1, ↓zbd_of hx]
    exact hy
  have toX : ∀ x, M_X3_firstFault (2 + k) (nI i0) (nI N) σ = some (x, σ) → ∀ y, (if x = -nI 9 then zbv (M_X4_grow 10 (2 + k) (nI i0) σ) (fun σ13 => znm (zsu σ13 0 (upd (σ13 0) 5 (nI 0))) (fun σ14 => znm (zsu σ14 47 (upd (σ14 47) 0 (nI 0))) (fun σ15 => znm (σ15 10 0) (fun x16 => some (x16, σ15))))) else some (-nI 100 - x, σ)) = y → (zbd (M_X5_isSheet (nI k) σ) fun x3 σ2 => if x3 = nI 0 then some (-nI 1, σ2) else zbd (M_X5_isLane (nI ln) σ2) fun x5 σ4 => if x5 = nI 0 then some (-nI 2, σ4) else zgr (nI k) 4 2 fun q6 => zbd (M_X2_faultAs q6 (nI ln) σ4) fun x8 σ7 => if x8 = nI 0 then if nI 0 ≤ nI N then B_X5_vine_53 (nI k) (nI ln) (nI i0) (nI N) q6 x8 σ7 else B_X5_vine_53 (nI k) (nI ln) (nI i0) (nI N) q6 (nI 4) σ7 else B_X5_vine_53 (nI k) (nI ln) (nI i0) (nI N) q6 x8 σ7) = y := by
    intro x hx y hy
    unfold B_X5_vine_53 B_X5_vine_72
    simp (disch := omega) only [↓reduceIte, ↓znm, ↓zbd_some, ↓zbv_some, ↓zga_in, ↓zgs_in, ↓zgr_in, zga_in, zgs_in, zgr_in, zgz_n0, zgz_n1, zlit, nI_add, pk_mul, pk_sub, znI_or, znI_and, znI_df, zon_ok, zbt_ok, zlt_t, zlt_f, zle_t, zle_f, zeq_f, ↓zbd_of u1, ↓zbd_of w1, ↓zbd_of fa, ↓zbd_of hh, ↓zbd_of hx]
    simp only [znm] at hy
    exact hy
  rcases zTx_cases C (N := N) (by omega) with hb | ⟨c0, c1, hb⟩ | ⟨m', f, hx⟩
  · have r := readVine_bad0 (τ := τ1) (C := C) (F := 60 * k + i0) (N := N) (by omega) qC q10 hb
    refine ⟨-nI 100 - nI 0, σ, τ1, toX (nI 0) (firstFault_bad0 (by omega) ha hb) _ ?_, toM _ r _ ?_, h.fr qfr⟩
    · rw [if_neg (by decide)]
    · rw [if_pos rfl]
      dsimp only
      rw [q10, Int32.sub_self]
      rfl
  · obtain ⟨s, r1, r2, r3⟩ := readVine_bad1 (τ := τ1) (C := C) (F := 60 * k + i0) (N := N) (by omega) qC q10 c0 c1 hb
    refine ⟨-nI 100 - nI 1, σ, s, toX (nI 1) (firstFault_bad1 (by omega) ha c0 c1 hb) _ ?_, toM _ r1 _ ?_, (h.fr qfr).fr r3⟩
    · rw [if_neg (by decide)]
    · rw [if_pos rfl]
      dsimp only
      rw [r2, ← nI_add, Int32.add_comm, Int32.add_sub_cancel]
  · obtain ⟨⟨b, s⟩, o1, o2⟩ := readVine_ok (τ := τ1) (C := C) (F := 60 * k + i0) (N := N) (by omega) qC q10 hx
    have ff := firstFault_ok (σ := σ) (q := 2 + k) (i0 := i0) (N := N) (by omega) ha hx
    rcases o2 with ⟨e1, e2, e3, e4⟩ | ⟨e1, e2, e3, e4⟩
    · rw [if_pos ⟨e1, e2⟩] at ff
      dsimp only at e3 e4
      subst e3
      subst e1 e2
      obtain ⟨x1, x2, x3, x4, x5, x6, x7, x8, x9, x10⟩ := id hx
      obtain ⟨⟨n, kd0, ld0, tw0, d0, hV, hR⟩, hS, hI, hd⟩ := id h
      obtain ⟨σ1, g1, g2⟩ := grow_ok (σ := σ) (k := k) (len := len) (i0 := i0) (m := m') (C := C) hk t2 t5 (by omega) (fun j hj => by rw [t7 _ (by omega), ← Nat.add_assoc, ← hC]) hd hx
      obtain ⟨r, er⟩ : ∃ r : Nat → Nat, r = fun j => zdi (C (2 + j)) := ⟨_, rfl⟩
      obtain ⟨kd, ek⟩ : ∃ r : Nat → Nat, r = fun p => zkn (C (m' + 2 * p)) := ⟨_, rfl⟩
      obtain ⟨ld, el⟩ : ∃ r : Nat → Nat, r = fun p => zdi (C (m' + 2 * p + 1)) := ⟨_, rfl⟩
      rw [← er, ← ek, ← el] at g2
      have hr : ∀ j, j < m' - 2 → r j < m' := by
        intro j hj
        have g := (x9 (2 + j) (by omega) (by omega)).2
        unfold zpg at g
        rw [if_pos (by omega)] at g
        rw [er]
        exact (zdg_get (by omega) g).1
      have hld : ∀ p, p < m' → ld p ≤ 9 := by
        intro p hp
        have g := (x9 (m' + 2 * p + 1) (by omega) (by omega)).2
        unfold zpg at g
        rw [if_neg (by omega), if_neg (by omega)] at g
        rw [el]
        have := (zdg_get (by omega) g).1
        show zdi _ ≤ 9
        omega
      have hkd : ∀ p, kd p ≤ 2 := fun p => by rw [ek]; exact zkn_le _
      obtain ⟨z1, z2, z3, z4, z5⟩ := e4
      obtain ⟨s5, hs5⟩ : ∃ s5, s5 = zsu s 0 (upd (s 0) 5 (nI m')) := ⟨_, rfl⟩
      have s5c : ∀ c, c ≠ 0 → s5 c = s c := fun c hc => by rw [hs5, zsu_ne hc]
      obtain ⟨t, v1, v2, v3, v4, v5, v6, v7⟩ := vineM_ok (s := s5) (m := m') (r := r) (kd := kd) (ld := ld) x2 x1 hr (by rw [hs5, zsu_eq, upd_eq]) (fun j hj => by rw [s5c 7 (by decide), er]; exact z4 j hj) (fun p hp => by rw [s5c 8 (by decide), s5c 9 (by decide), ek, el]; exact z5 p hp) (nI k) (nI ln) (nI i0) (nI (3 * m'))
      obtain ⟨G0, G1, G2, G3, ⟨tw, d, G4, G5, G6⟩, G7⟩ := g2
      obtain ⟨σ2, hσ2⟩ : ∃ σ2, σ2 = zsu σ1 0 (upd (σ1 0) 5 (nI 0)) := ⟨_, rfl⟩
      obtain ⟨σ3, hσ3⟩ : ∃ σ3, σ3 = zsu σ2 47 (upd (σ2 47) 0 (nI 0)) := ⟨_, rfl⟩
      have σc : ∀ c, c ≠ 0 → c ≠ 47 → σ3 c = σ1 c := fun c h1 h2 => by rw [hσ3, zsu_ne h2, hσ2, zsu_ne h1]
      have full : ∀ q, (zgl r m' 0).testBit q = true ↔ q < m' := fun q => zfull_bit q
      have hT : zTR (fun p => p < m') tw d := by
        have e : (fun q => (zgl r m' 0).testBit q = true) = (fun p => p < m') := by
          funext q
          exact propext (full q)
        rw [e] at G5
        exact G5
      have htw : ∀ q, q < m' → tw q = zew r m' (m' - 1) q := by
        intro q hq
        apply zfun_ext
        intro x
        rw [(G4 q hq).2.2 x, (zew_bit x2 x1 hr q x (m' - 1) (Nat.le_refl _)).1]
      refine ⟨nI m', σ3, t, toX _ ff _ ?_, toM _ o1 _ ?_, ⟨⟨m', kd, ld, tw, d, ⟨⟨?_, fun p hp => ?_⟩, ⟨v2, fun p hp => ?_⟩, ⟨x2, fun p hp => ⟨hkd p, hld p hp, (G4 p hp).2.1⟩⟩, fun p hp q hq => ?_, Or.inr x1, hT⟩, ?_⟩, fun k' hk' => ?_, ?_, fun p hp => ?_⟩⟩
      · have f10 : σ3 10 0 = nI m' := by rw [σc 10 (by decide) (by decide)]; exact G0
        rw [if_pos rfl, zbv_of g1]
        simp only [znm, ← hσ2, ← hσ3, f10]
      · dsimp only
        rw [if_neg (by decide), z2, ← hs5]
        exact v1
      · rw [σc 10 (by decide) (by decide)]; exact G0
      · rw [σc (10 + 1) (by decide) (by decide), σc (10 + 2) (by decide) (by decide), σc (10 + 3) (by decide) (by decide)]
        exact ⟨(G1 p hp).1, (G1 p hp).2, (G4 p hp).1⟩
      · rw [htw p hp]; exact v6 p hp
      · rw [σc _ (by omega) (by omega)]
        exact G6 p q ((full p).mpr hp) ((full q).mpr hq)
      · refine ⟨0, by omega, ?_, v4, fun i hi => by omega⟩
        rw [hσ3, zsu_eq, upd_eq]
      · have := hS k' hk'
        unfold zR1 at this ⊢
        rw [σc _ (by omega) (by omega), σc _ (by omega) (by omega), G7 _ (by omega), G7 _ (by omega)]
        have tc : ∀ c, c = 1 ∨ c = 2 ∨ c = 3 → t c = τ c := fun c hc => by
          rw [v7 c (by omega) (by omega) (by omega) (by omega), s5c c (by omega), z3.1 c (by omega) (by omega) (by omega) (by omega), qfr.1 c (by omega) (by omega) (by omega) (by omega)]
        rw [tc 1 (by omega), tc 2 (by omega), tc 3 (by omega)]
        exact this
      · obtain ⟨i1, i2, i3⟩ := hI
        have σ0 : σ3 0 = upd (σ 0) 5 (nI 0) := by
          rw [hσ3, zsu_ne (by decide), hσ2, zsu_eq, G7 0 (by omega)]
        have t0 : ∀ y, y = 0 ∨ y = 1 → t 0 y = τ 0 y := fun y hy => by
          rw [v5 y (by omega) (by omega), hs5, zsu_eq, upd_ne (by omega), z3.2 y (by omega) (by omega), qfr.2 y (by omega) (by omega)]
        refine ⟨?_, ?_, ?_⟩
        · rw [σ0, upd_eq, v3]
        · rw [σ0, upd_ne (by decide), t0 1 (by omega)]; exact i2
        · rw [σ0, upd_ne (by decide), t0 0 (by omega)]; exact i3
      · rw [σc _ (by omega) (by omega)]; exact G3 p hp
    · rw [if_neg e1] at ff
      dsimp only at e2 e3 e4
      subst e2
      have hf : f ≤ 24 := by
        obtain ⟨x1, x2, x3, x4, x5, x6, x7, x8, x9, x10⟩ := hx
        omega
      refine ⟨-nI 100 - nI f, σ, s, toX _ ff _ ?_, toM _ o1 _ ?_, (h.fr qfr).fr e4⟩
      · rw [if_neg (zneg_ne (by omega) (by decide) (by decide))]
      · rw [if_pos rfl]
        dsimp only
        rw [e3, ← nI_add, Int32.add_comm, Int32.add_sub_cancel]
