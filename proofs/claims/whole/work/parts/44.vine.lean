/-! PURE: vine: the class grows it -/
theorem digitAt_ok {s : zSt} {q a v b : Nat} (h : M_X2_at q (nI a) s = some (nI (48 + v), s)) (hv : v ≤ b) (hb : b ≤ 9) : M_X3_digitAt q (nI a) (nI b) s = some (nI v, s) := by
  unfold M_X3_digitAt
  have e1 : (if nI v < nI b then nI v else nI b) = nI v := by
    by_cases c : v < b
    · rw [if_pos (nI_lt c (by omega))]
    · rw [if_neg (nI_nlt (by omega) (by omega)), show b = v by omega]
  have e2 : (if nI 0 < nI v then nI v else nI 0) = nI v := by
    by_cases c : 0 < v
    · rw [if_pos (nI_lt c (by omega))]
    · rw [if_neg (nI_nlt (by omega) (by omega)), show v = 0 by omega]
  simp (disch := omega) only [↓reduceIte, ↓znm, ↓zbd_some, ↓zbv_some, ↓zga_in, ↓zgs_in, ↓zgr_in, zga_in, zgs_in, zgr_in, zgz_n0, zgz_n1, zlit, nI_add, pk_mul, pk_sub, znI_or, znI_and, znI_df, zon_ok, zbt_ok, zlt_t, zlt_f, zle_t, zle_f, zeq_f, ↓zbd_of h, show 48 + v - 48 = v by omega, e1, e2]
/-- hung, when i are told -/
def zh1 (σ : zSt) (m : Nat) (r : Nat → Nat) (i : Nat) : zSt := fun c y => if c = 10 ∧ y = 0 then nI m else if c = 16 ∧ y < i then nI (r y) else σ c y
def zk1 (σ : zSt) (m : Nat) (r kd ld : Nat → Nat) (i : Nat) : zSt := fun c y => if c = 11 ∧ y < i then nI (kd y) else if c = 12 ∧ y < i then nI (ld y) else if c = 13 ∧ y < i then nI 0 else zh1 σ m r (m - 2) c y
def zt1 (σ : zSt) (m : Nat) (r kd ld : Nat → Nat) (i : Nat) : zSt := fun c y => if c = 15 ∧ y < i then nI (zgk r m y) else zk1 σ m r kd ld m c y
theorem named_ok {s : zSt} {m k : Nat} {r : Nat → Nat} (hm : m ≤ 8) (h0 : s 10 0 = nI m) (h16 : ∀ k, k < m - 2 → s 16 k = nI (r k)) (hr : ∀ k, k < m - 2 → r k < m) (hk : k < m - 2) : M_X4_namedFrom 10 (nI k) s = some (nI (zna r k (m - 2 - k)), s) := by
  unfold M_X4_namedFrom L_X4_namedFrom_4
  refine zloop_for (fun j => (nI (zna r k j), nI (k + j), s)) (m - 2 - k) rfl (by omega) (fun rec j hj => ?_) (fun rec => ?_)
  · have e := h16 (k + j) (by omega)
    have e2 : s (10 + 6) (k + j) = nI (r (k + j)) := e
    have l := hr (k + j) (by omega)
    unfold B_X4_namedFrom_4
    simp (disch := omega) only [↓reduceIte, ↓znm, ↓zbd_some, ↓zbv_some, ↓zga_in, ↓zgs_in, ↓zgr_in, zga_in, zgs_in, zgr_in, zgz_n0, zgz_n1, zlit, nI_add, pk_mul, pk_sub, znI_or, znI_and, znI_df, zon_ok, zbt_ok, zlt_t, zlt_f, zle_t, zle_f, zeq_f, h0, e2, zna]
    rfl
  · unfold B_X4_namedFrom_4
    simp (disch := omega) only [↓reduceIte, ↓znm, ↓zbd_some, ↓zbv_some, ↓zga_in, ↓zgs_in, ↓zgr_in, zga_in, zgs_in, zgr_in, zgz_n0, zgz_n1, zlit, nI_add, pk_mul, pk_sub, znI_or, znI_and, znI_df, zon_ok, zbt_ok, zlt_t, zlt_f, zle_t, zle_f, zeq_f, h0]
theorem findTaken_ok {σ : zSt} {m : Nat} {r kd ld : Nat → Nat} (hm : m ≤ 8) (h2 : 2 ≤ m) (hr : ∀ k, k < m - 2 → r k < m) : ∃ s, M_X4_findTaken 10 (zk1 σ m r kd ld m) = some s ∧ s = zsu (zt1 σ m r kd ld (m - 1)) 16 (upd (zt1 σ m r kd ld (m - 1) 16) (m - 2) (nI (zgh r m (m - 2)))) := by
  refine ⟨_, ?_, rfl⟩
  have hp := zp256 hm
  have hp0 := Nat.two_pow_pos m
  have f0 : ∀ i, zt1 σ m r kd ld i 10 0 = nI m := fun i => by
    unfold zt1 zk1 zh1
    rw [if_neg (by omega), if_neg (by omega), if_neg (by omega), if_neg (by omega), if_pos ⟨rfl, rfl⟩]
  have f16 : ∀ i k, k < m - 2 → zt1 σ m r kd ld i 16 k = nI (r k) := fun i k hk => by
    unfold zt1 zk1 zh1
    rw [if_neg (by omega), if_neg (by omega), if_neg (by omega), if_neg (by omega), if_neg (by omega), if_pos ⟨rfl, hk⟩]
  have t0 : zk1 σ m r kd ld m = zt1 σ m r kd ld 0 := by
    funext c y
    unfold zt1
    rw [if_neg (by omega)]
  have ts : ∀ i, zsu (zt1 σ m r kd ld i) 15 (upd (zt1 σ m r kd ld i 15) i (nI (zgk r m i))) = zt1 σ m r kd ld (i + 1) := by
    intro i
    funext c y
    rw [zput_at]
    unfold zt1
    by_cases e : c = 15 ∧ y = i
    · rw [if_pos e, if_pos (by omega), e.2]
    · rw [if_neg e]
      by_cases e2 : c = 15 ∧ y < i
      · rw [if_pos e2, if_pos (by omega)]
      · rw [if_neg e2, if_neg (by omega)]
  have t15 : ∀ i, zt1 σ m r kd ld (i + 1) 15 i = nI (zgk r m i) := fun i => by
    unfold zt1
    rw [if_pos (by omega)]
  rw [t0]
  unfold M_X4_findTaken
  simp (disch := omega) only [↓reduceIte, ↓znm, ↓zbd_some, ↓zbv_some, ↓zga_in, ↓zgs_in, ↓zgr_in, zga_in, zgs_in, zgr_in, zgz_n0, zgz_n1, zlit, nI_add, pk_mul, pk_sub, znI_or, znI_and, znI_df, zon_ok, zbt_ok, zlt_t, zlt_f, zle_t, zle_f, zeq_f, f0]
  unfold L_X4_findTaken_11
  refine zloop_for (fun i => (nI (zgl r m i), nI i, zt1 σ m r kd ld i)) (m - 2) rfl (by omega) (fun rec i hi => ?_) (fun rec => ?_)
  · obtain ⟨a1, a2, a3, a4, a5, a6, a7⟩ := zgrow_h hm h2 hr (k := i) (by omega)
    have nm := named_ok hm (f0 i) (f16 i) hr hi
    have lo := leastX_ok (zdf_lt (b := zna r i (m - 2 - i)) (zgl_lt r hm i)) (zt1 σ m r kd ld i)
    have lh : zlo (zdf (zgl r m i) (zna r i (m - 2 - i))) = zgk r m i := rfl
    rw [lh] at lo
    have e1 : zsu (zt1 σ m r kd ld i) (10 + 5) (upd (zt1 σ m r kd ld i (10 + 5)) i (nI (zgk r m i))) = zt1 σ m r kd ld (i + 1) := ts i
    have e2 : zt1 σ m r kd ld (i + 1) (10 + 5) i = nI (zgk r m i) := t15 i
    have e3 : zdf (zgl r m i) (2 ^ zgk r m i) = zgl r m (i + 1) := rfl
    unfold B_X4_findTaken_11
    simp (disch := omega) only [↓reduceIte, ↓znm, ↓zbd_some, ↓zbv_some, ↓zga_in, ↓zgs_in, ↓zgr_in, zga_in, zgs_in, zgr_in, zgz_n0, zgz_n1, zlit, nI_add, pk_mul, pk_sub, znI_or, znI_and, znI_df, zon_ok, zbt_ok, zlt_t, zlt_f, zle_t, zle_f, zeq_f, f0, ↓zbd_of nm, ↓zbd_of lo, e1, e2, e3]
  · obtain ⟨a1, a2, a3, a4, a5, a6, a7⟩ := zgrow_h hm h2 hr (k := m - 2) (by omega)
    have lo := leastX_ok (zgl_lt r hm (m - 2)) (zt1 σ m r kd ld (m - 2))
    have lh : zlo (zgl r m (m - 2)) = zgk r m (m - 2) := by
      unfold zgk
      rw [Nat.sub_self]
      show _ = zlo (zdf (zgl r m (m - 2)) 0)
      rw [zdf_0]
    rw [lh] at lo
    have e1 : zsu (zt1 σ m r kd ld (m - 2)) (10 + 5) (upd (zt1 σ m r kd ld (m - 2) (10 + 5)) (m - 2) (nI (zgk r m (m - 2)))) = zt1 σ m r kd ld (m - 1) := by
      have := ts (m - 2)
      rw [show m - 2 + 1 = m - 1 by omega] at this
      exact this
    have e2 : zt1 σ m r kd ld (m - 1) (10 + 5) (m - 2) = nI (zgk r m (m - 2)) := by
      have := t15 (m - 2)
      rw [show m - 2 + 1 = m - 1 by omega] at this
      exact this
    have e3 : zdf (zgl r m (m - 2)) (2 ^ zgk r m (m - 2)) = zgl r m (m - 1) := by
      rw [show m - 1 = m - 2 + 1 by omega]
      rfl
    have lo2 := leastX_ok (zgl_lt r hm (m - 1)) (zt1 σ m r kd ld (m - 1))
    have lh2 : zlo (zgl r m (m - 1)) = zgh r m (m - 2) := by
      unfold zgh
      rw [if_neg (by omega)]
    rw [lh2] at lo2
    unfold B_X4_findTaken_11
    simp (disch := omega) only [↓reduceIte, ↓znm, ↓zbd_some, ↓zbv_some, ↓zga_in, ↓zgs_in, ↓zgr_in, zga_in, zgs_in, zgr_in, zgz_n0, zgz_n1, zlit, nI_add, pk_mul, pk_sub, znI_or, znI_and, znI_df, zon_ok, zbt_ok, zlt_t, zlt_f, zle_t, zle_f, zeq_f, f0, ↓zbd_of lo, e1, e2, e3, ↓zbd_of lo2]
theorem grow_ok {σ : zSt} {k len i0 m : Nat} {C : Nat → Int32} (hk : k < 4) (hlen : len ≤ 60) (hl : σ (2 + k) 2 = nI len) (hi : i0 + 3 * m ≤ len) (hC : ∀ j, j < 3 * m → σ (6 + k) (i0 + j) = C j) (hdg : ∀ p, p < 8 → σ (19 + p) p = nI 0) (h : zTx C (3 * m) m (3 * m)) : ∃ s, M_X4_grow 10 (2 + k) (nI i0) σ = some s ∧ zGr σ s (fun j => zdi (C (2 + j))) (fun p => zkn (C (m + 2 * p))) (fun p => zdi (C (m + 2 * p + 1))) m 0 := by
  obtain ⟨h1, h2, h3, h4, h5, h6, h7, h8, h9, h10⟩ := h
  obtain ⟨r, er⟩ : ∃ r : Nat → Nat, r = fun j => zdi (C (2 + j)) := ⟨_, rfl⟩
  obtain ⟨kd, ek⟩ : ∃ r : Nat → Nat, r = fun p => zkn (C (m + 2 * p)) := ⟨_, rfl⟩
  obtain ⟨ld, el⟩ : ∃ r : Nat → Nat, r = fun p => zdi (C (m + 2 * p + 1)) := ⟨_, rfl⟩
  rw [← er, ← ek, ← el]
  have cr : ∀ j, j < m - 2 → C (2 + j) = nI (48 + r j) ∧ r j < m := by
    intro j hj
    have g := (h9 (2 + j) (by omega) (by omega)).2
    unfold zpg at g
    rw [if_pos (by omega)] at g
    rw [er]
    exact ⟨(zdg_get (by omega) g).2, (zdg_get (by omega) g).1⟩
  have ck : ∀ p, p < m → zlet (C (m + 2 * p)) ∧ kd p ≤ 2 ∧ kd p = zkn (C (m + 2 * p)) := by
    intro p hp
    have g := (h9 (m + 2 * p) (by omega) (by omega)).2
    unfold zpg at g
    rw [if_neg (by omega), if_pos (by omega)] at g
    rw [ek]
    exact ⟨g, zkn_le _, rfl⟩
  have cl : ∀ p, p < m → C (m + 2 * p + 1) = nI (48 + ld p) ∧ ld p < 10 := by
    intro p hp
    have g := (h9 (m + 2 * p + 1) (by omega) (by omega)).2
    unfold zpg at g
    rw [if_neg (by omega), if_neg (by omega)] at g
    rw [el]
    exact ⟨(zdg_get (by omega) g).2, (zdg_get (by omega) g).1⟩
  have hr : ∀ j, j < m - 2 → r j < m := fun j hj => (cr j hj).2
  have atc : ∀ (s : zSt), (∀ c, c ≤ 9 → s c = σ c) → ∀ j, j < 3 * m → M_X2_at (2 + k) (nI (i0 + j)) s = some (C j, s) := by
    intro s hs j hj
    have := at_ok (σ := s) (q := 2 + k) (len := len) (i := i0 + j) (by rw [hs _ (by omega)]; exact hl) hlen (by omega)
    rw [show 2 + k + 4 = 6 + k by omega, hs _ (by omega), hC j hj] at this
    exact this
  have zh9 : ∀ i c, c ≤ 9 → zh1 σ m r i c = σ c := by
    intro i c hc
    funext y
    unfold zh1
    rw [if_neg (by omega), if_neg (by omega)]
  have zk9 : ∀ i c, c ≤ 9 → zk1 σ m r kd ld i c = σ c := by
    intro i c hc
    funext y
    unfold zk1
    rw [if_neg (by omega), if_neg (by omega), if_neg (by omega), zh9 _ _ hc]
  have h10' : ∀ i, zh1 σ m r i 10 0 = nI m := fun i => by
    unfold zh1
    rw [if_pos ⟨rfl, rfl⟩]
  have k10 : ∀ i, zk1 σ m r kd ld i 10 0 = nI m := fun i => by
    unfold zk1
    rw [if_neg (by omega), if_neg (by omega), if_neg (by omega)]
    exact h10' _
  obtain ⟨sF, tF, eF⟩ := findTaken_ok (σ := σ) (kd := kd) (ld := ld) h2 h1 hr
  have t10 : ∀ y, zt1 σ m r kd ld (m - 1) 10 y = if y = 0 then nI m else σ 10 y := fun y => by
    unfold zt1 zk1 zh1
    rw [if_neg (by omega), if_neg (by omega), if_neg (by omega), if_neg (by omega)]
    by_cases e : y = 0
    · rw [if_pos ⟨rfl, e⟩, if_pos e]
    · rw [if_neg (by omega), if_neg (by omega), if_neg e]
  -- nothing is put together yet
  have hG : zGr σ sF r kd ld m (m - 1) := by
    obtain ⟨w1, w2⟩ := zgrow_l h2 h1 hr
    have tc : ∀ c, c ≤ 9 ∨ 17 ≤ c → sF c = σ c := by
      intro c hc
      rw [eF, zsu_ne (by omega)]
      funext y
      unfold zt1 zk1 zh1
      rw [if_neg (by omega), if_neg (by omega), if_neg (by omega), if_neg (by omega), if_neg (by omega), if_neg (by omega)]
    refine ⟨?_, fun p hp => ⟨?_, ?_⟩, fun j hj => ⟨?_, ?_⟩, fun p hp => ?_, ⟨fun _ => 0, fun _ _ => 0, fun q hq => ⟨?_, (by show 0 < 256; decide), fun x => ?_⟩, ?_, fun x y hx hy => ?_⟩, fun c hc => tc c (by omega)⟩
    · rw [eF, zsu_ne (by decide), t10, if_pos rfl]
    · rw [eF, zsu_ne (by decide)]
      unfold zt1 zk1
      rw [if_neg (by omega), if_pos ⟨rfl, hp⟩]
    · rw [eF, zsu_ne (by decide)]
      unfold zt1 zk1
      rw [if_neg (by omega), if_neg (by omega), if_pos ⟨rfl, hp⟩]
    · rw [eF, zsu_ne (by decide)]
      unfold zt1
      rw [if_pos ⟨rfl, hj⟩]
    · rw [eF, zput_at]
      by_cases e : j = m - 2
      · rw [if_pos ⟨rfl, e⟩, e]
      · rw [if_neg (by omega)]
        unfold zt1 zk1 zh1
        rw [if_neg (by omega), if_neg (by omega), if_neg (by omega), if_neg (by omega), if_neg (by omega), if_pos (by omega)]
        unfold zgh
        rw [if_pos (by omega)]
    · rw [tc _ (by omega)]; exact hdg p hp
    · rw [eF, zsu_ne (by decide)]
      unfold zt1 zk1
      rw [if_neg (by omega), if_neg (by omega), if_neg (by omega), if_pos ⟨rfl, hq⟩]
    · constructor
      · intro hx
        exact absurd hx (by simp)
      · rintro ⟨j, j1, j2, -⟩
        omega
    · refine ⟨fun p hp => ?_, fun p q hp hq => absurd hq (by simp), fun p hp => rfl, fun p q _ _ => rfl, fun x p q _ _ hq => absurd hq (by simp), fun x p hx hp hne => ?_⟩
      · have := (w2 p).mp hp
        omega
      · exact absurd (((w2 p).mp hp).trans ((w2 x).mp hx).symm) hne
    · have e1 := (w2 x).mp hx
      have e2 := (w2 y).mp hy
      rw [tc _ (by omega), e1, e2]
      exact hdg _ (by omega)
  -- put together
  have hL : ∃ s, L_X4_grow_133 10 (2 + k) (nI i0) (nI (m - 2)) sF = some s ∧ zGr σ s r kd ld m 0 := by
    unfold L_X4_grow_133
    refine zloop_ex (I := fun x => ∃ j, j ≤ m - 1 ∧ x.1 = nI j - nI 1 ∧ zGr σ x.2 r kd ld m j) (μ := fun x => (x.1 + nI 1).toNatClampNeg) ?_ zFU _ ⟨m - 1, Nat.le_refl _, ?_, hG⟩ ?_
    · rintro rec ⟨x, s⟩ ⟨j, hj, e1, hQ⟩ ih
      dsimp only at e1 hQ ih ⊢
      subst e1
      by_cases e : j = 0
      · subst e
        refine ⟨s, ?_, hQ⟩
        unfold B_X4_grow_133
        have : (nI 0 - nI 1 < nI 0) = True := eq_true (by decide)
        simp (disch := omega) only [↓reduceIte, ↓znm, ↓zbd_some, ↓zbv_some, ↓zga_in, ↓zgs_in, ↓zgr_in, zga_in, zgs_in, zgr_in, zgz_n0, zgz_n1, zlit, nI_add, pk_mul, znI_or, znI_and, znI_df, zon_ok, zbt_ok, zlt_t, zlt_f, zle_t, zle_f, zeq_f, this]
      · obtain ⟨j', rfl⟩ : ∃ j', j = j' + 1 := ⟨j - 1, by omega⟩
        obtain ⟨s', t1, t2⟩ := hQ.step h2 h1 hr (by omega)
        obtain ⟨q0, q1, q2, q3⟩ := id hQ
        have e2 : nI (j' + 1) - nI 1 = nI j' := by
          rw [← nI_add]
          exact Int32.add_sub_cancel _ _
        have e3 : s (10 + 5) j' = nI (zgk r m j') := (q2 j' (by omega)).1
        have e4 : s (10 + 6) j' = nI (zgh r m j') := (q2 j' (by omega)).2
        have e5 : nI j' + -nI 1 = nI j' - nI 1 := (Int32.sub_eq_add_neg _ _).symm
        rw [e2]
        have e : B_X4_grow_133 10 (2 + k) (nI i0) (fun v3 σ => rec (v3, σ)) (nI j') s = rec (nI j' - nI 1, s') := by
          unfold B_X4_grow_133
          simp (disch := omega) only [↓reduceIte, ↓znm, ↓zbd_some, ↓zbv_some, ↓zga_in, ↓zgs_in, ↓zgr_in, zga_in, zgs_in, zgr_in, zgz_n0, zgz_n1, zlit, nI_add, pk_mul, znI_or, znI_and, znI_df, zon_ok, zbt_ok, zlt_t, zlt_f, zle_t, zle_f, zeq_f, e3, e4, ↓zbv_of t1, e5]
        rw [e]
        refine ih _ ⟨j', by omega, rfl, t2⟩ ?_
        show (nI j' - nI 1 + nI 1).toNatClampNeg < (nI (j' + 1) - nI 1 + nI 1).toNatClampNeg
        rw [Int32.sub_add_cancel, Int32.sub_add_cancel, nI_clamp (by omega), nI_clamp (by omega)]
        omega
    · show nI (m - 2) = nI (m - 1) - nI 1
      rw [show m - 1 = m - 2 + 1 by omega, ← nI_add]
      exact (Int32.add_sub_cancel _ _).symm
    · show (nI (m - 2) + nI 1).toNatClampNeg < zFU
      rw [nI_add, nI_clamp (by omega)]
      have := zFU_ge
      omega
  obtain ⟨s, s1, s2⟩ := hL
  refine ⟨s, ?_, s2⟩
  -- the way down
  have d0 := digitAt_ok (s := σ) (q := 2 + k) (a := i0 + 1) (v := m) (b := 8) (by rw [← h6]; exact atc σ (fun _ _ => rfl) 1 (by omega)) h2 (by decide)
  have z0 : zsu σ 10 (upd (σ 10) 0 (nI m)) = zh1 σ m r 0 := by
    funext c y
    rw [zput_at]
    unfold zh1
    by_cases e : c = 10 ∧ y = 0
    · rw [if_pos e, if_pos e]
    · rw [if_neg e, if_neg e, if_neg (by omega)]
  unfold M_X4_grow
  simp (disch := omega) only [↓reduceIte, ↓znm, ↓zbd_some, ↓zbv_some, ↓zga_in, ↓zgs_in, ↓zgr_in, zga_in, zgs_in, zgr_in, zgz_n0, zgz_n1, zlit, nI_add, pk_mul, pk_sub, znI_or, znI_and, znI_df, zon_ok, zbt_ok, zlt_t, zlt_f, zle_t, zle_f, zeq_f, ↓zbd_of d0, z0]
  unfold L_X4_grow_15
  refine zloop_for (fun i => (nI i, zh1 σ m r i)) (m - 2) rfl (by omega) (fun rec i hi => ?_) (fun rec => ?_)
  · obtain ⟨c1, c2⟩ := cr i hi
    have da := digitAt_ok (s := zh1 σ m r i) (q := 2 + k) (a := i0 + 2 + i) (v := r i) (b := m - 1) (by rw [← c1, show i0 + 2 + i = i0 + (2 + i) by omega]; exact atc _ (zh9 i) (2 + i) (by omega)) (by omega) (by omega)
    have e1 : zsu (zh1 σ m r i) (10 + 6) (upd (zh1 σ m r i (10 + 6)) i (nI (r i))) = zh1 σ m r (i + 1) := by
      funext c y
      rw [zput_at]
      unfold zh1
      by_cases e : c = 10 + 6 ∧ y = i
      · rw [if_pos e, if_neg (by omega), if_pos (by omega), e.2]
      · rw [if_neg e]
        by_cases e2 : c = 10 ∧ y = 0
        · rw [if_pos e2, if_pos e2]
        · rw [if_neg e2, if_neg e2]
          by_cases e3 : c = 16 ∧ y < i
          · rw [if_pos e3, if_pos (by omega)]
          · rw [if_neg e3, if_neg (by omega)]
    unfold B_X4_grow_15
    simp (disch := omega) only [↓reduceIte, ↓znm, ↓zbd_some, ↓zbv_some, ↓zga_in, ↓zgs_in, ↓zgr_in, zga_in, zgs_in, zgr_in, zgz_n0, zgz_n1, zlit, nI_add, pk_mul, pk_sub, znI_or, znI_and, znI_df, zon_ok, zbt_ok, zlt_t, zlt_f, zle_t, zle_f, zeq_f, h10', ↓zbd_of da, e1]
  · have z1 : zh1 σ m r (m - 2) = zk1 σ m r kd ld 0 := by
      funext c y
      unfold zk1
      rw [if_neg (by omega), if_neg (by omega), if_neg (by omega)]
    unfold B_X4_grow_15
    simp (disch := omega) only [↓reduceIte, ↓znm, ↓zbd_some, ↓zbv_some, ↓zga_in, ↓zgs_in, ↓zgr_in, zga_in, zgs_in, zgr_in, zgz_n0, zgz_n1, zlit, nI_add, pk_mul, pk_sub, znI_or, znI_and, znI_df, zon_ok, zbt_ok, zlt_t, zlt_f, zle_t, zle_f, zeq_f, h10']
    rw [z1]
    unfold L_X4_grow_54
    refine zloop_for (fun i => (nI i, zk1 σ m r kd ld i)) m rfl (by omega) (fun rc i hi => ?_) (fun rc => ?_)
    · obtain ⟨c1, c2, c3⟩ := ck i hi
      obtain ⟨d1, d2⟩ := cl i hi
      have a1 := atc _ (zk9 i) (m + 2 * i) (by omega)
      rw [← Nat.add_assoc] at a1
      have k1 := kindOf_ok c1 (zk1 σ m r kd ld i)
      rw [← c3] at k1
      obtain ⟨t1, ht1⟩ : ∃ t1, t1 = zsu (zk1 σ m r kd ld i) (10 + 1) (upd (zk1 σ m r kd ld i (10 + 1)) i (nI (kd i))) := ⟨_, rfl⟩
      have t9 : ∀ c, c ≤ 9 → t1 c = σ c := fun c hc => by rw [ht1, zsu_ne (by omega)]; exact zk9 i c hc
      have da := digitAt_ok (s := t1) (q := 2 + k) (a := i0 + m + 2 * i + 1) (v := ld i) (b := 9) (by rw [← d1, show i0 + m + 2 * i + 1 = i0 + (m + 2 * i + 1) by omega]; exact atc _ t9 (m + 2 * i + 1) (by omega)) (by omega) (by decide)
      obtain ⟨t2, ht2⟩ : ∃ t2, t2 = zsu t1 (10 + 2) (upd (t1 (10 + 2)) i (nI (ld i))) := ⟨_, rfl⟩
      have e1 : zsu t2 (10 + 3) (upd (t2 (10 + 3)) i (nI 0)) = zk1 σ m r kd ld (i + 1) := by
        funext c y
        rw [zput_at, ht2, zput_at, ht1, zput_at]
        unfold zk1
        by_cases e : c = 10 + 3 ∧ y = i
        · rw [if_pos e, if_neg (by omega), if_neg (by omega), if_pos (by omega)]
        · rw [if_neg e]
          by_cases e2 : c = 10 + 2 ∧ y = i
          · rw [if_pos e2, if_neg (by omega), if_pos (by omega), e2.2]
          · rw [if_neg e2]
            by_cases e3 : c = 10 + 1 ∧ y = i
            · rw [if_pos e3, if_pos (by omega), e3.2]
            · rw [if_neg e3]
              by_cases f1 : c = 11 ∧ y < i
              · rw [if_pos f1, if_pos (by omega)]
              · rw [if_neg f1, if_neg (show ¬ (c = 11 ∧ y < i + 1) by omega)]
                by_cases f2 : c = 12 ∧ y < i
                · rw [if_pos f2, if_pos (by omega)]
                · rw [if_neg f2, if_neg (show ¬ (c = 12 ∧ y < i + 1) by omega)]
                  by_cases f3 : c = 13 ∧ y < i
                  · rw [if_pos f3, if_pos (by omega)]
                  · rw [if_neg f3, if_neg (show ¬ (c = 13 ∧ y < i + 1) by omega)]
      unfold B_X4_grow_54
      by_cases c : 0 < kd i
      · simp (disch := omega) only [↓reduceIte, ↓znm, ↓zbd_some, ↓zbv_some, ↓zga_in, ↓zgs_in, ↓zgr_in, zga_in, zgs_in, zgr_in, zgz_n0, zgz_n1, zlit, nI_add, pk_mul, pk_sub, znI_or, znI_and, znI_df, zon_ok, zbt_ok, zlt_t, zlt_f, zle_t, zle_f, zeq_f, k10, ↓zbd_of a1, ↓zbd_of k1, ← ht1, ↓zbd_of da, ← ht2, e1]
      · have e0 : kd i = 0 := by omega
        rw [e0] at ht1
        simp (disch := omega) only [↓reduceIte, ↓znm, ↓zbd_some, ↓zbv_some, ↓zga_in, ↓zgs_in, ↓zgr_in, zga_in, zgs_in, zgr_in, zgz_n0, zgz_n1, zlit, nI_add, pk_mul, pk_sub, znI_or, znI_and, znI_df, zon_ok, zbt_ok, zlt_t, zlt_f, zle_t, zle_f, zeq_f, k10, ↓zbd_of a1, ↓zbd_of k1, ← ht1, ↓zbd_of da, ← ht2, e1]
    · have f10 : sF 10 0 = nI m := hG.1
      unfold B_X4_grow_54
      simp (disch := omega) only [↓reduceIte, ↓znm, ↓zbd_some, ↓zbv_some, ↓zga_in, ↓zgs_in, ↓zgr_in, zga_in, zgs_in, zgr_in, zgz_n0, zgz_n1, zlit, nI_add, pk_mul, pk_sub, znI_or, znI_and, znI_df, zon_ok, zbt_ok, zlt_t, zlt_f, zle_t, zle_f, zeq_f, k10, ↓zbv_of tF, f10, s1]
