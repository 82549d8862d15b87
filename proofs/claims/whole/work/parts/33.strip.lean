/-! PURE: leaves come off, least first -/
theorem zTR.b8 {S : Nat → Prop} {tw : Nat → Nat} {d : Nat → Nat → Nat} (h : zTR S tw d) {r p : Nat} (hr : S r) (hp : S p) : d r p < 8 := by
  by_cases e : d r p < 8
  · exact e
  · exfalso
    have hq : ∀ k, ∃ q, k ≤ 8 → S q ∧ d r q = k := by
      intro k
      by_cases hk : k ≤ 8
      · obtain ⟨q, h1, h2⟩ := h.down hr k p hp (by omega)
        exact ⟨q, fun _ => ⟨h1, h2⟩⟩
      · exact ⟨0, fun c => absurd c hk⟩
    obtain ⟨g, hg⟩ := Classical.axiomOfChoice hq
    obtain ⟨i, j, h1, h2, h3⟩ := zphp 8 g (fun i hi => h.1 _ (hg i hi).1)
    have e1 := (hg i (by omega)).2
    have e2 := (hg j h2).2
    rw [h3, e2] at e1
    omega
/-- a tree of two posts or more has a leaf -/
theorem zTR.leaf {S : Nat → Prop} {tw : Nat → Nat} {d : Nat → Nat → Nat} (h : zTR S tw d) {r s : Nat} (hr : S r) (hs : S s) (hrs : r ≠ s) : ∃ p q, S p ∧ ∀ t, (tw p).testBit t = true ↔ t = q := by
  obtain ⟨j, ⟨p, hp, hj⟩, hmin⟩ := pk_least (fun j => ∃ p, S p ∧ d r p + j = 8) ⟨8, r, hr, by rw [h.2.2.1 r hr]⟩
  have hmax : ∀ q, S q → d r q ≤ d r p := by
    intro q hq
    by_cases c : d r q ≤ d r p
    · exact c
    · exfalso
      have b := h.b8 hr hq
      exact hmin (8 - d r q) (by omega) ⟨q, hq, by omega⟩
  have hpr : p ≠ r := by
    intro e
    rw [e, h.2.2.1 r hr] at hmax
    have := hmax s hs
    obtain ⟨t, t1, t2, -⟩ := h.2.2.2.2.2 r s hr hs (fun e => hrs e.symm)
    omega
  obtain ⟨q, q1, q2, q3⟩ := h.2.2.2.2.2 r p hr hp hpr
  refine ⟨p, q, hp, fun t => ⟨fun ht => ?_, fun e => e ▸ q1⟩⟩
  have g := (h.2.1 p t hp ht).1
  rcases h.2.2.2.2.1 r p t hr hp ht with c | c
  · exact q3 t ht c
  · have := hmax t g
    omega
def zfl (tw : Nat → Nat) (n L : Nat) : Nat := ((List.range n).find? (fun p => L.testBit p && decide (zpc (tw p &&& L) = 1))).getD 0
def zL (tw : Nat → Nat) (n : Nat) : Nat → Nat
  | 0 => 2 ^ n - 1
  | k + 1 => zdf (zL tw n k) (2 ^ zfl tw n (zL tw n k))
def ztk (tw : Nat → Nat) (n k : Nat) : Nat := zfl tw n (zL tw n k)
def zhk (tw : Nat → Nat) (n k : Nat) : Nat := zlo (tw (ztk tw n k) &&& zL tw n k)
theorem zL_s (tw : Nat → Nat) (n k : Nat) : zL tw n (k + 1) = zdf (zL tw n k) (2 ^ ztk tw n k) := rfl
theorem zL_lt (tw : Nat → Nat) {n : Nat} (hn : n ≤ 8) : ∀ k, zL tw n k < 256
  | 0 => by
    have := zp256 hn
    have := Nat.two_pow_pos n
    show 2 ^ n - 1 < 256
    omega
  | k + 1 => zdf_lt (zL_lt tw hn k)
theorem zfl_lt (tw : Nat → Nat) {n L : Nat} (hn : 0 < n) : zfl tw n L < n := by
  unfold zfl
  cases e : (List.range n).find? (fun p => L.testBit p && decide (zpc (tw p &&& L) = 1)) with
  | none => exact hn
  | some p =>
    have := List.mem_of_find?_eq_some e
    simpa using this
theorem zfl_first (tw : Nat → Nat) {n L e : Nat} (h1 : e < n) (h2 : L.testBit e = true ∧ zpc (tw e &&& L) = 1) (h3 : ∀ i, i < e → ¬ (L.testBit i = true ∧ zpc (tw i &&& L) = 1)) : zfl tw n L = e := by
  unfold zfl
  have : (List.range n).find? (fun p => L.testBit p && decide (zpc (tw p &&& L) = 1)) = some e := by
    rw [List.find?_range_eq_some]
    refine ⟨by simp [h2.1, h2.2], by simpa using h1, fun j hj => ?_⟩
    have := h3 j hj
    cases hb : L.testBit j
    · simp
    · simp only [hb, true_and] at this
      simp [this]
  rw [this]; rfl
theorem zand_lt {a b : Nat} (h : b < 256) : a &&& b < 256 := Nat.lt_of_le_of_lt Nat.and_le_right h
theorem leastEnd_ok {σ : zSt} {b n : Nat} {kd ld tw : Nat → Nat} (hV : zVX σ b n kd ld tw) (hO : zOK n kd ld tw) {L : Nat} (hL : L < 256) : M_X4_leastEnd b (nI L) σ = some (nI (zfl tw n L), σ) := by
  have hn := hO.1
  have step : ∀ (rec : Int32 × zSt → Option (Int32 × zSt)) (p : Nat), p < n → ¬ (L.testBit p = true ∧ zpc (tw p &&& L) = 1) → B_X4_leastEnd_2 b (nI L) (fun v2 σ => rec (v2, σ)) (nI p) σ = rec (nI (p + 1), σ) := by
    intro rec p hp hne
    obtain ⟨v1, v2, v3⟩ := hV.2 p hp
    have hw := zand_lt (a := tw p) hL
    have h8 := zpc_le (tw p &&& L)
    unfold B_X4_leastEnd_2
    cases hb : L.testBit p
    · simp (disch := omega) only [↓reduceIte, ↓znm, ↓zbd_some, ↓zbv_some, ↓zga_in, ↓zgs_in, ↓zgr_in, zga_in, zgs_in, zgr_in, zgz_n0, zgz_n1, zlit, nI_add, pk_mul, pk_sub, znI_or, znI_and, znI_df, zon_ok, zbt_ok, zlt_t, zlt_f, zle_t, zle_f, zeq_f, hV.1, hb, Bool.false_eq_true, B_X4_leastEnd_35]
    · have hc : ¬ zpc (tw p &&& L) = 1 := fun q => hne ⟨hb, q⟩
      simp (disch := omega) only [↓reduceIte, ↓znm, ↓zbd_some, ↓zbv_some, ↓zga_in, ↓zgs_in, ↓zgr_in, zga_in, zgs_in, zgr_in, zgz_n0, zgz_n1, zlit, nI_add, pk_mul, pk_sub, znI_or, znI_and, znI_df, zon_ok, zbt_ok, zlt_t, zlt_f, zle_t, zle_f, zeq_f, hV.1, hb, v3, ↓zbd_of (bitCount_ok hw σ), bitCount_ok, hc, B_X4_leastEnd_35]
  unfold M_X4_leastEnd L_X4_leastEnd_2
  rcases zfirst (fun p => L.testBit p = true ∧ zpc (tw p &&& L) = 1) n with ⟨e, e1, e2, e3⟩ | hno
  · rw [zfl_first tw e1 e2 e3]
    refine zloop_for (fun i => (nI i, σ)) e rfl (by omega) (fun rec i hi => step rec i (by omega) (e3 i hi)) (fun rec => ?_)
    obtain ⟨v1, v2, v3⟩ := hV.2 e e1
    have hw := zand_lt (a := tw e) hL
    unfold B_X4_leastEnd_2
    simp (disch := omega) only [↓reduceIte, ↓znm, ↓zbd_some, ↓zbv_some, ↓zga_in, ↓zgs_in, ↓zgr_in, zga_in, zgs_in, zgr_in, zgz_n0, zgz_n1, zlit, nI_add, pk_mul, pk_sub, znI_or, znI_and, znI_df, zon_ok, zbt_ok, zlt_t, zlt_f, zle_t, zle_f, zeq_f, hV.1, e2.1, v3, bitCount_ok, e2.2]
  · have e0 : zfl tw n L = 0 := by
      unfold zfl
      have : (List.range n).find? (fun p => L.testBit p && decide (zpc (tw p &&& L) = 1)) = none := by
        rw [List.find?_eq_none]
        intro p hp
        have := hno p (by simpa using hp)
        simpa using this
      rw [this]; rfl
    rw [e0]
    refine zloop_for (fun i => (nI i, σ)) n rfl (by omega) (fun rec i hi => step rec i hi (hno i hi)) (fun rec => ?_)
    unfold B_X4_leastEnd_2
    simp (disch := omega) only [↓reduceIte, ↓znm, ↓zbd_some, ↓zbv_some, ↓zga_in, ↓zgs_in, ↓zgr_in, zga_in, zgs_in, zgr_in, zgz_n0, zgz_n1, zlit, nI_add, pk_mul, pk_sub, znI_or, znI_and, znI_df, zon_ok, zbt_ok, zlt_t, zlt_f, zle_t, zle_f, zeq_f, hV.1]
/-- taken and hung, after i steps -/
def zsp (σ : zSt) (b n : Nat) (tw : Nat → Nat) (i : Nat) : zSt := fun c y => if c = b + 5 ∧ y < i then nI (ztk tw n y) else if c = b + 6 ∧ y < i then nI (zhk tw n y) else σ c y
theorem zsp_0 {σ : zSt} {b n : Nat} {tw : Nat → Nat} : zsp σ b n tw 0 = σ := by
  funext c y
  unfold zsp
  rw [if_neg (by omega), if_neg (by omega)]
theorem zsp_s {σ : zSt} {b n : Nat} {tw : Nat → Nat} {i : Nat} : (let s1 := zsu (zsp σ b n tw i) (b + 5) (upd (zsp σ b n tw i (b + 5)) i (nI (ztk tw n i))); zsu s1 (b + 6) (upd (s1 (b + 6)) i (nI (zhk tw n i)))) = zsp σ b n tw (i + 1) := by
  funext c y
  rw [zput_at, zput_at]
  by_cases e1 : c = b + 6 ∧ y = i
  · rw [if_pos e1]
    unfold zsp
    rw [if_neg (by omega), if_pos (by omega), e1.2]
  · rw [if_neg e1]
    by_cases e2 : c = b + 5 ∧ y = i
    · rw [if_pos e2]
      unfold zsp
      rw [if_pos (by omega), e2.2]
    · rw [if_neg e2]
      unfold zsp
      by_cases e3 : c = b + 5 ∧ y < i
      · rw [if_pos e3, if_pos (by omega)]
      · have e4 : ¬ (c = b + 5 ∧ y < i + 1) := by omega
        rw [if_neg e3]
        by_cases e5 : c = b + 6 ∧ y < i
        · rw [if_pos e5, if_neg e4, if_pos (by omega)]
        · have e6 : ¬ (c = b + 6 ∧ y < i + 1) := by omega
          rw [if_neg e5, if_neg e4, if_neg e6]
theorem zsp_c {σ : zSt} {b n : Nat} {tw : Nat → Nat} {i c : Nat} (h1 : c ≠ b + 5) (h2 : c ≠ b + 6) : zsp σ b n tw i c = σ c := by
  funext y
  unfold zsp
  rw [if_neg (by omega), if_neg (by omega)]
theorem zVX.sp {σ : zSt} {b n : Nat} {kd ld tw : Nat → Nat} (h : zVX σ b n kd ld tw) (tw' : Nat → Nat) (m i : Nat) : zVX (zsp σ b m tw' i) b n kd ld tw := by
  refine ⟨by rw [zsp_c (by omega) (by omega)]; exact h.1, fun p hp => ?_⟩
  rw [zsp_c (by omega) (by omega), zsp_c (by omega) (by omega), zsp_c (by omega) (by omega)]
  exact h.2 p hp
theorem strip_ok {σ : zSt} {b n : Nat} {kd ld tw : Nat → Nat} (hV : zVX σ b n kd ld tw) (hO : zOK n kd ld tw) (h2 : 2 ≤ n) : M_X4_strip b σ = some (zsp σ b n tw (n - 1)) := by
  have hn := hO.1
  have hp := zp256 hn
  have hp0 := Nat.two_pow_pos n
  unfold M_X4_strip
  simp (disch := omega) only [↓reduceIte, ↓znm, ↓zbd_some, ↓zbv_some, ↓zga_in, ↓zgs_in, ↓zgr_in, zga_in, zgs_in, zgr_in, zgz_n0, zgz_n1, zlit, nI_add, pk_mul, pk_sub, znI_or, znI_and, znI_df, zon_ok, zbt_ok, zlt_t, zlt_f, zle_t, zle_f, zeq_f, hV.1]
  unfold L_X4_strip_11
  refine zloop_for (fun i => (nI (zL tw n i), nI i, zsp σ b n tw i)) (n - 1) ?_ (by omega) (fun rec i hi => ?_) (fun rec => ?_)
  · rw [zsp_0]; rfl
  · have hVi := hV.sp tw n i
    have hL := zL_lt tw hn i
    have ht : ztk tw n i < n := zfl_lt tw (by omega)
    have le := leastEnd_ok hVi hO hL
    have tl : zfl tw n (zL tw n i) = ztk tw n i := rfl
    rw [tl] at le
    obtain ⟨s1, hs1⟩ : ∃ s1, s1 = zsu (zsp σ b n tw i) (b + 5) (upd (zsp σ b n tw i (b + 5)) i (nI (ztk tw n i))) := ⟨_, rfl⟩
    have e1 : s1 (b + 5) i = nI (ztk tw n i) := by rw [hs1, zput_at, if_pos ⟨rfl, rfl⟩]
    have e2 : s1 (b + 3) (ztk tw n i) = nI (tw (ztk tw n i)) := by
      rw [hs1, zsu_ne (by omega)]; exact (hVi.2 _ ht).2.2
    have hw := zand_lt (a := tw (ztk tw n i)) hL
    have lo := leastX_ok hw s1
    have lh : zlo (tw (ztk tw n i) &&& zL tw n i) = zhk tw n i := rfl
    rw [lh] at lo
    have e3 := zsp_s (σ := σ) (b := b) (n := n) (tw := tw) (i := i)
    dsimp only at e3
    rw [← hs1] at e3
    have e4 : zsp σ b n tw (i + 1) (b + 5) i = nI (ztk tw n i) := by
      unfold zsp
      rw [if_pos (by omega)]
    have e5 : zdf (zL tw n i) (2 ^ ztk tw n i) = zL tw n (i + 1) := rfl
    unfold B_X4_strip_11
    simp (disch := omega) only [↓reduceIte, ↓znm, ↓zbd_some, ↓zbv_some, ↓zga_in, ↓zgs_in, ↓zgr_in, zga_in, zgs_in, zgr_in, zgz_n0, zgz_n1, zlit, nI_add, pk_mul, pk_sub, znI_or, znI_and, znI_df, zon_ok, zbt_ok, zlt_t, zlt_f, zle_t, zle_f, zeq_f, hVi.1, ↓zbd_of le, ← hs1, e1, e2, ↓zbd_of lo, lo, e3, e4, e5]
  · have hVi := hV.sp tw n (n - 1)
    unfold B_X4_strip_11
    simp (disch := omega) only [↓reduceIte, ↓znm, ↓zbd_some, ↓zbv_some, ↓zga_in, ↓zgs_in, ↓zgr_in, zga_in, zgs_in, zgr_in, zgz_n0, zgz_n1, zlit, nI_add, pk_mul, pk_sub, znI_or, znI_and, znI_df, zon_ok, zbt_ok, zlt_t, zlt_f, zle_t, zle_f, zeq_f, hVi.1]
