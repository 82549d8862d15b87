/-! PURE: which posts the row takes away, and the tree that is put together again -/
theorem zdf_0 (a : Nat) : zdf a 0 = a := by
  unfold zdf
  rw [Nat.and_zero, Nat.xor_zero]
theorem zpc_sd (a b : Nat) : zpc a ≤ zpc (zdf a b) + zpc b := by
  rw [zpc_sum, zpc_sum, zpc_sum, ← zsum_ad2]
  apply zsum_mono
  intro i _
  unfold zbi
  rw [zdf_bit]
  cases c1 : a.testBit i <;> cases c2 : b.testBit i <;> simp
def zna (r : Nat → Nat) (k : Nat) : Nat → Nat
  | 0 => 0
  | j + 1 => zna r k j ||| 2 ^ r (k + j)
theorem zna_bit (r : Nat → Nat) (k b : Nat) : ∀ j, (zna r k j).testBit b = true ↔ ∃ i, i < j ∧ r (k + i) = b
  | 0 => by
    constructor
    · intro h
      exact absurd h (by unfold zna; simp)
    · rintro ⟨i, h, -⟩
      omega
  | j + 1 => by
    unfold zna
    rw [Nat.testBit_or, Bool.or_eq_true, zna_bit r k b j, zbit2]
    constructor
    · rintro (⟨i, h1, h2⟩ | h)
      · exact ⟨i, by omega, h2⟩
      · exact ⟨j, by omega, h.symm⟩
    · rintro ⟨i, h1, h2⟩
      by_cases e : i = j
      · exact Or.inr (e ▸ h2).symm
      · exact Or.inl ⟨i, by omega, h2⟩
theorem zna_pc {r : Nat → Nat} (k : Nat) : ∀ j, (∀ i, i < j → r (k + i) < 8) → zpc (zna r k j) ≤ j ∧ zna r k j < 256
  | 0, _ => ⟨by unfold zna; rw [zpc_0]; exact Nat.le_refl _, by unfold zna; decide⟩
  | j + 1, h => by
    obtain ⟨i1, i2⟩ := zna_pc k j (fun i hi => h i (by omega))
    have h8 := h j (by omega)
    unfold zna
    refine ⟨?_, zor_lt i2 (z2p h8)⟩
    have := zpc_or_le (zna r k j) (2 ^ r (k + j))
    rw [(zpc_2p _ h8).1] at this
    omega
/-- those left before step k -/
def zgl (r : Nat → Nat) (m : Nat) : Nat → Nat
  | 0 => 2 ^ m - 1
  | k + 1 => zdf (zgl r m k) (2 ^ zlo (zdf (zgl r m k) (zna r k (m - 2 - k))))
def zgk (r : Nat → Nat) (m k : Nat) : Nat := zlo (zdf (zgl r m k) (zna r k (m - 2 - k)))
def zgh (r : Nat → Nat) (m k : Nat) : Nat := if k < m - 2 then r k else zlo (zgl r m (m - 1))
theorem zgl_s (r : Nat → Nat) (m k : Nat) : zgl r m (k + 1) = zdf (zgl r m k) (2 ^ zgk r m k) := rfl
theorem zgl_lt (r : Nat → Nat) {m : Nat} (hm : m ≤ 8) : ∀ k, zgl r m k < 256
  | 0 => by
    have := zp256 hm
    have := Nat.two_pow_pos m
    show 2 ^ m - 1 < 256
    omega
  | k + 1 => zdf_lt (zgl_lt r hm k)
theorem zpc_ne {a : Nat} (h : 0 < zpc a) : a ≠ 0 := fun e => by
  rw [e, zpc_0] at h
  omega
theorem zgrow {r : Nat → Nat} {m : Nat} (hm : m ≤ 8) (h2 : 2 ≤ m) (hr : ∀ k, k < m - 2 → r k < m) : ∀ k, k ≤ m - 1 → zpc (zgl r m k) = m - k ∧ (∀ q, (zgl r m k).testBit q = true → q < m) ∧ (k < m - 1 → zdf (zgl r m k) (zna r k (m - 2 - k)) ≠ 0 ∧ (zgl r m k).testBit (zgk r m k) = true ∧ (∀ q, (zgl r m (k + 1)).testBit q = true ↔ (zgl r m k).testBit q = true ∧ q ≠ zgk r m k) ∧ ∀ j, k ≤ j → j < m - 2 → r j ≠ zgk r m k) := by
  have step : ∀ k, k < m - 1 → zpc (zgl r m k) = m - k → zdf (zgl r m k) (zna r k (m - 2 - k)) ≠ 0 ∧ (zgl r m k).testBit (zgk r m k) = true ∧ (∀ q, (zgl r m (k + 1)).testBit q = true ↔ (zgl r m k).testBit q = true ∧ q ≠ zgk r m k) ∧ ∀ j, k ≤ j → j < m - 2 → r j ≠ zgk r m k := by
    intro k hk hpc
    have hna := (zna_pc (r := r) k (m - 2 - k) (fun i hi => by have := hr (k + i) (by omega); omega)).1
    have hsd := zpc_sd (zgl r m k) (zna r k (m - 2 - k))
    have hne : zdf (zgl r m k) (zna r k (m - 2 - k)) ≠ 0 := zpc_ne (by omega)
    have hb := (zlo_bit _ (zdf_lt (b := zna r k (m - 2 - k)) (zgl_lt r hm k)) hne).1
    obtain ⟨b1, b2⟩ := (zdf_iff _ _ _).mp hb
    refine ⟨hne, b1, fun q => by rw [zgl_s, zdf_iff, zbit2], fun j j1 j2 e => ?_⟩
    apply b2
    rw [zna_bit]
    exact ⟨j - k, by omega, by rw [show k + (j - k) = j by omega]; exact e⟩
  intro k
  induction k with
  | zero =>
    intro _
    have h0 : zpc (zgl r m 0) = m - 0 := zpc_full m hm
    exact ⟨h0, fun q hq => (zfull_bit q).mp hq, fun hk => step 0 hk h0⟩
  | succ k ih =>
    intro hk
    obtain ⟨i1, i2, i3⟩ := ih (by omega)
    obtain ⟨s1, s2, s3, s4⟩ := i3 (by omega)
    have ht := i2 _ s2
    have h0 : zpc (zgl r m (k + 1)) = m - (k + 1) := by
      have := zpc_df _ (zgl_lt r hm k) _ (show zgk r m k < 8 by omega) s2
      rw [zgl_s]
      omega
    exact ⟨h0, fun q hq => i2 q ((s3 q).mp hq).1, fun hk => step (k + 1) hk h0⟩
theorem zgrow_h {r : Nat → Nat} {m : Nat} (hm : m ≤ 8) (h2 : 2 ≤ m) (hr : ∀ k, k < m - 2 → r k < m) {k : Nat} (hk : k < m - 1) : zgk r m k < m ∧ zgh r m k < m ∧ (zgl r m (k + 1)).testBit (zgh r m k) = true ∧ zgk r m k ≠ zgh r m k ∧ (zgl r m k).testBit (zgk r m k) = true ∧ (∀ q, (zgl r m (k + 1)).testBit q = true ↔ (zgl r m k).testBit q = true ∧ q ≠ zgk r m k) ∧ zdf (zgl r m k) (zna r k (m - 2 - k)) ≠ 0 := by
  obtain ⟨i1, i2, i3⟩ := zgrow hm h2 hr k (by omega)
  obtain ⟨s1, s2, s3, s4⟩ := i3 hk
  have key : (zgl r m (k + 1)).testBit (zgh r m k) = true := by
    unfold zgh
    by_cases c : k < m - 2
    · rw [if_pos c]
      have all : ∀ j, j ≤ k + 1 → (zgl r m j).testBit (r k) = true := by
        intro j
        induction j with
        | zero => intro _; exact (zfull_bit _).mpr (hr k c)
        | succ j ih =>
          intro hj
          obtain ⟨-, -, j3⟩ := zgrow hm h2 hr j (by omega)
          obtain ⟨-, -, j4, j5⟩ := j3 (by omega)
          exact (j4 _).mpr ⟨ih (by omega), j5 k (by omega) c⟩
      exact all (k + 1) (Nat.le_refl _)
    · rw [if_neg c]
      have e : k + 1 = m - 1 := by omega
      rw [e]
      obtain ⟨j1, -, -⟩ := zgrow hm h2 hr (m - 1) (Nat.le_refl _)
      exact (zlo_bit _ (zgl_lt r hm _) (zpc_ne (by omega))).1
  obtain ⟨k1, k2⟩ := (s3 _).mp key
  exact ⟨i2 _ s2, i2 _ k1, key, fun e => k2 e.symm, s2, s3, s1⟩
/-- the last post alone -/
theorem zgrow_l {r : Nat → Nat} {m : Nat} (hm : m ≤ 8) (h2 : 2 ≤ m) (hr : ∀ k, k < m - 2 → r k < m) : zlo (zgl r m (m - 1)) < m ∧ ∀ q, (zgl r m (m - 1)).testBit q = true ↔ q = zlo (zgl r m (m - 1)) := by
  obtain ⟨j1, j2, -⟩ := zgrow hm h2 hr (m - 1) (Nat.le_refl _)
  have hb := (zlo_bit _ (zgl_lt r hm (m - 1)) (zpc_ne (by omega))).1
  refine ⟨j2 _ hb, fun q => ⟨fun hq => ?_, fun e => e ▸ hb⟩⟩
  exact zpc_1u _ (zgl_lt r hm _) q (by have := j2 q hq; omega) _ (by have := j2 _ hb; omega) (by rw [j1]; omega) hq hb
/-- twigs by the steps lo .. hi -/
def zgb (r : Nat → Nat) (m lo hi q x : Nat) : Prop := ∃ k, lo ≤ k ∧ k < hi ∧ ((q = zgk r m k ∧ x = zgh r m k) ∨ (q = zgh r m k ∧ x = zgk r m k))
/-- the class's ints when the steps from k on are put together -/
def zGr (σ s : zSt) (r kd ld : Nat → Nat) (m k : Nat) : Prop := s 10 0 = nI m ∧ (∀ p, p < m → s 11 p = nI (kd p) ∧ s 12 p = nI (ld p)) ∧ (∀ j, j < m - 1 → s 15 j = nI (zgk r m j) ∧ s 16 j = nI (zgh r m j)) ∧ (∀ p, p < 8 → s (19 + p) p = nI 0) ∧ (∃ tw d, (∀ q, q < m → s 13 q = nI (tw q) ∧ tw q < 256 ∧ ∀ x, (tw q).testBit x = true ↔ zgb r m k (m - 1) q x) ∧ zTR (fun q => (zgl r m k).testBit q = true) tw d ∧ ∀ x y, (zgl r m k).testBit x = true → (zgl r m k).testBit y = true → s (19 + x) y = nI (d x y)) ∧ (∀ c, c ≤ 9 ∨ 27 ≤ c → s c = σ c)
theorem zGr.step {σ s : zSt} {r kd ld : Nat → Nat} {m k : Nat} (hm : m ≤ 8) (h2 : 2 ≤ m) (hr : ∀ k, k < m - 2 → r k < m) (hk : k < m - 1) (h : zGr σ s r kd ld m (k + 1)) : ∃ s', M_X4_tie 10 (nI (zgk r m k)) (nI (zgh r m k)) s = some s' ∧ zGr σ s' r kd ld m k := by
  obtain ⟨h0, h1, ht, hdg, ⟨tw, d, htw, hT, hA⟩, hc⟩ := h
  obtain ⟨a1, a2, a3, a4, a5, a6, a7⟩ := zgrow_h hm h2 hr hk
  obtain ⟨u1, u2, u3⟩ := htw _ a1
  obtain ⟨v1, v2, v3⟩ := htw _ a2
  have ho := tie_ok (σ := s) (b := 10) (tp := tw (zgk r m k)) (to' := tw (zgh r m k)) h0 hm a1 a2 a4 u1 v1
  have hp0 : tw (zgk r m k) = 0 := by
    apply zfun_ext
    intro x
    constructor
    · intro hx
      exfalso
      obtain ⟨j, j1, j2, j3⟩ := (u3 x).mp hx
      obtain ⟨b1, b2, b3, b4, b5, b6, b7⟩ := zgrow_h hm h2 hr j2
      -- of the steps from k + 1 on none names what went at k
      have hin : ∀ q, (zgl r m j).testBit q = true → (zgl r m (k + 1)).testBit q = true := by
        intro q
        have : ∀ i, (zgl r m (k + 1 + i)).testBit q = true → (zgl r m (k + 1)).testBit q = true := by
          intro i
          induction i with
          | zero => exact fun h => h
          | succ i ih => exact fun h => ih ((zdf_iff _ _ _).mp h).1
        have := this (j - (k + 1))
        rw [show k + 1 + (j - (k + 1)) = j by omega] at this
        exact this
      rcases j3 with ⟨e1, -⟩ | ⟨e1, -⟩
      · exact ((a6 _).mp (hin _ b5)).2 e1.symm
      · exact ((a6 _).mp (hin _ ((b6 _).mp b3).1)).2 e1.symm
    · intro hx
      exact absurd hx (by simp)
  rw [hp0, Nat.zero_or] at ho
  obtain ⟨s1, hs1⟩ : ∃ s1, s1 = zsu s (10 + 3) (upd (upd (s (10 + 3)) (zgk r m k) (nI (2 ^ zgh r m k))) (zgh r m k) (nI (tw (zgh r m k) ||| 2 ^ zgk r m k))) := ⟨_, rfl⟩
  rw [← hs1] at ho
  have c1 : ∀ c, c ≠ 13 → s1 c = s c := fun c hc => by rw [hs1, zsu_ne hc]
  have zTc : ∀ c, ¬ (19 ≤ c ∧ c < 27) → zT s1 10 (zgk r m k) (zgh r m k) m c = s1 c := by
    intro c hc
    funext y
    unfold zT
    rw [if_neg (by omega), if_neg (by omega)]
  refine ⟨_, ho, ?_, fun p hp => ?_, fun j hj => ?_, fun p hp => ?_, ?_, fun c hcc => ?_⟩
  · rw [zTc 10 (by omega), c1 10 (by decide)]; exact h0
  · rw [zTc 11 (by omega), c1 11 (by decide), zTc 12 (by omega), c1 12 (by decide)]; exact h1 p hp
  · rw [zTc 15 (by omega), c1 15 (by decide), zTc 16 (by omega), c1 16 (by decide)]; exact ht j hj
  · unfold zT
    rw [if_neg (by omega), if_neg (by omega), c1 _ (by omega)]
    exact hdg p hp
  · refine ⟨fun q => if q = zgk r m k then 2 ^ zgh r m k else if q = zgh r m k then tw q ||| 2 ^ zgk r m k else tw q, fun x y => if x = zgk r m k then (if y = zgk r m k then 0 else d (zgh r m k) y + 1) else if y = zgk r m k then d (zgh r m k) x + 1 else d x y, fun q hq => ?_, ?_, fun x y hx hy => ?_⟩
    · dsimp only
      rw [zTc 13 (by omega), hs1, zsu_eq]
      by_cases e1 : q = zgk r m k
      · rw [if_pos e1, upd_ne (fun e => a4 (e1.symm.trans e)), e1, upd_eq]
        refine ⟨rfl, z2p (by omega), fun x => ?_⟩
        rw [zbit2]
        constructor
        · intro e
          exact ⟨k, Nat.le_refl _, hk, Or.inl ⟨rfl, e⟩⟩
        · rintro ⟨j, j1, j2, j3⟩
          by_cases e : j = k
          · subst e
            rcases j3 with ⟨-, e2⟩ | ⟨e2, -⟩
            · exact e2
            · exact absurd e2 a4
          · have := (u3 x).mpr ⟨j, by omega, j2, j3⟩
            rw [hp0] at this
            exact absurd this (by simp)
      · rw [if_neg e1]
        by_cases e2 : q = zgh r m k
        · rw [if_pos e2, e2, upd_eq]
          refine ⟨rfl, zor_lt v2 (z2p (by omega)), fun x => ?_⟩
          rw [Nat.testBit_or, Bool.or_eq_true, v3 x, zbit2]
          constructor
          · rintro (⟨j, j1, j2, j3⟩ | e)
            · exact ⟨j, by omega, j2, j3⟩
            · exact ⟨k, Nat.le_refl _, hk, Or.inr ⟨rfl, e⟩⟩
          · rintro ⟨j, j1, j2, j3⟩
            by_cases e : j = k
            · subst e
              rcases j3 with ⟨e3, -⟩ | ⟨-, e3⟩
              · exact absurd e3.symm a4
              · exact Or.inr e3
            · exact Or.inl ⟨j, by omega, j2, j3⟩
        · rw [if_neg e2, upd_ne e2, upd_ne e1]
          obtain ⟨w1, w2, w3⟩ := htw q hq
          refine ⟨w1, w2, fun x => ?_⟩
          rw [w3 x]
          constructor
          · rintro ⟨j, j1, j2, j3⟩
            exact ⟨j, by omega, j2, j3⟩
          · rintro ⟨j, j1, j2, j3⟩
            by_cases e : j = k
            · subst e
              rcases j3 with ⟨e3, -⟩ | ⟨e3, -⟩
              · exact absurd e3 e1
              · exact absurd e3 e2
            · exact ⟨j, by omega, j2, j3⟩
    · refine hT.attach (p := zgk r m k) (on := zgh r m k) (fun q => ?_) (by omega) (fun q => ((a6 _).mp q).2 rfl) a3 (fun q x hq => ?_) (fun x => ?_) (fun x y hx hy => ?_) (fun y hy => ?_) ?_
      · constructor
        · intro hq
          by_cases e : q = zgk r m k
          · exact Or.inr e
          · exact Or.inl ((a6 q).mpr ⟨hq, e⟩)
        · rintro (hq | e)
          · exact ((a6 q).mp hq).1
          · rw [e]; exact a5
      · have e1 := ((a6 q).mp hq).2
        rw [if_neg e1]
        by_cases e2 : q = zgh r m k
        · rw [if_pos e2, Nat.testBit_or, Bool.or_eq_true, zbit2]
          constructor
          · rintro (h | h)
            · exact Or.inl h
            · exact Or.inr ⟨e2, h⟩
          · rintro (h | ⟨-, h⟩)
            · exact Or.inl h
            · exact Or.inr h
        · rw [if_neg e2]
          constructor
          · exact fun h => Or.inl h
          · rintro (h | ⟨h, -⟩)
            · exact h
            · exact absurd h e2
      · rw [if_pos rfl, zbit2]
      · have e1 := ((a6 x).mp hx).2
        have e2 := ((a6 y).mp hy).2
        rw [if_neg e1, if_neg e2]
      · have e2 := ((a6 y).mp hy).2
        rw [if_pos rfl, if_neg e2, if_neg e2, if_pos rfl]
        exact ⟨rfl, rfl⟩
      · rw [if_pos rfl, if_pos rfl]
    · have hxm := (zgrow hm h2 hr k (by omega)).2.1 x hx
      have hym := (zgrow hm h2 hr k (by omega)).2.1 y hy
      dsimp only
      unfold zT
      by_cases e1 : x = zgk r m k
      · rw [if_pos e1]
        by_cases e2 : y = zgk r m k
        · rw [if_pos e2, if_neg (by omega), if_neg (by omega), c1 _ (by omega), e1, e2]
          exact hdg _ (by omega)
        · rw [if_neg e2, if_pos (by omega), c1 _ (by omega), hA _ _ a3 ((a6 y).mpr ⟨hy, e2⟩), nI_add]
      · rw [if_neg e1]
        by_cases e2 : y = zgk r m k
        · rw [if_pos e2, if_neg (by omega), if_pos (by omega), c1 _ (by omega), show 19 + x - (10 + 9) = x by omega, hA _ _ a3 ((a6 x).mpr ⟨hx, e1⟩), nI_add]
        · rw [if_neg e2, if_neg (by omega), if_neg (by omega), c1 _ (by omega)]
          exact hA _ _ ((a6 x).mpr ⟨hx, e1⟩) ((a6 y).mpr ⟨hy, e2⟩)
  · rw [zTc c (by omega), c1 c (by omega)]; exact hc c hcc
