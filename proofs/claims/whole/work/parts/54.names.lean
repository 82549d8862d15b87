/-! PURE: alike: names by a number -/
def zse (f i : Nat) : Nat := zgi (zbl f) i
def zfac : Nat → Nat
  | 0 => 1
  | n + 1 => (n + 1) * zfac n
def zru : Nat → Nat → Nat → List Nat
  | 0, _, _ => []
  | j + 1, f, k => zse f (k % (j + 1)) :: zru j (zdf f (2 ^ zse f (k % (j + 1)))) (k / (j + 1))
theorem zbl_nodup (m : Nat) : (zbl m).Nodup := List.Pairwise.filter _ List.nodup_range
theorem zbl_sorted (m : Nat) : (zbl m).Pairwise (fun a b => a < b) := List.Pairwise.filter _ List.pairwise_lt_range
theorem zse_bit {f i : Nat} (h : i < zpc f) : f.testBit (zse f i) = true ∧ zse f i < 8 := by
  have := zbl_mem.mp (zgi_mem (L := zbl f) (i := i) (by rw [zbl_len]; exact h))
  exact ⟨this.2, this.1⟩
theorem zse_lt {f i j : Nat} (hij : i < j) (h : j < zpc f) : zse f i < zse f j := by
  have hl := zbl_len f
  have := List.pairwise_iff_getElem.mp (zbl_sorted f) i j (by omega) (by omega) hij
  unfold zse zgi
  rw [List.getElem?_eq_getElem (show j < (zbl f).length by omega), List.getElem?_eq_getElem (show i < (zbl f).length by omega)]
  exact this
theorem zse_inj {f i j : Nat} (hi : i < zpc f) (hj : j < zpc f) (h : zse f i = zse f j) : i = j := by
  rcases Nat.lt_trichotomy i j with c | c | c
  · have := zse_lt c hj
    omega
  · exact c
  · have := zse_lt c hi
    omega
theorem zse_of {f x : Nat} (hx : x < 8) (h : f.testBit x = true) : ∃ i, i < zpc f ∧ zse f i = x := by
  obtain ⟨i, i1, i2⟩ := zgi_of (zbl_mem.mpr ⟨hx, h⟩)
  rw [zbl_len] at i1
  exact ⟨i, i1, i2⟩
theorem zse_gap {f i x : Nat} (h : i + 1 < zpc f) (h1 : zse f i < x) (h2 : x < zse f (i + 1)) : f.testBit x = false := by
  have h8 := (zse_bit h).2
  cases hb : f.testBit x
  · rfl
  · exfalso
    obtain ⟨j, j1, j2⟩ := zse_of (by omega) hb
    rcases Nat.lt_trichotomy j i with c | c | c
    · have := zse_lt c (show i < zpc f by omega)
      omega
    · subst c; omega
    · by_cases e : j = i + 1
      · subst e; omega
      · have := zse_lt (show i + 1 < j by omega) j1
        omega
theorem zse_0 {f : Nat} (hf : f < 256) (h : 0 < zpc f) : zse f 0 = zlo f := by
  obtain ⟨b1, b2, b3⟩ := zlo_bit f hf (zpc_ne h)
  obtain ⟨i, i1, i2⟩ := zse_of b2 b1
  by_cases e : i = 0
  · rw [← i2, e]
  · have h1 := zse_lt (show 0 < i by omega) i1
    have h2 := b3 (zse f 0) (by omega)
    rw [(zse_bit h).1] at h2
    cases h2
theorem zru_ok : ∀ j f k, f < 256 → zpc f = j → (zru j f k).length = j ∧ (zru j f k).Nodup ∧ ∀ x, x ∈ zru j f k → f.testBit x = true ∧ x < 8
  | 0, f, k, _, _ => ⟨rfl, List.nodup_nil, fun x hx => by cases hx⟩
  | j + 1, f, k, hf, hp => by
    have hi : k % (j + 1) < zpc f := by rw [hp]; exact Nat.mod_lt _ (by omega)
    obtain ⟨b1, b2⟩ := zse_bit hi
    have hd := zpc_df f hf _ b2 b1
    obtain ⟨i1, i2, i3⟩ := zru_ok j (zdf f (2 ^ zse f (k % (j + 1)))) (k / (j + 1)) (zdf_lt hf) (by omega)
    unfold zru
    refine ⟨by rw [List.length_cons, i1], ?_, fun x hx => ?_⟩
    · rw [List.nodup_cons]
      refine ⟨fun hm => ?_, i2⟩
      have := (zdf_iff _ _ _).mp (i3 _ hm).1
      exact this.2 ((zbit2 _ _).mpr rfl)
    · rcases List.mem_cons.mp hx with e | e
      · rw [e]; exact ⟨b1, b2⟩
      · exact ⟨((zdf_iff _ _ _).mp (i3 x e).1).1, (i3 x e).2⟩
theorem zru_inj : ∀ j f k k', f < 256 → zpc f = j → k < zfac j → k' < zfac j → zru j f k = zru j f k' → k = k'
  | 0, f, k, k', _, _, h1, h2, _ => by
    have e : zfac 0 = 1 := rfl
    omega
  | j + 1, f, k, k', hf, hp, h1, h2, e => by
    have hi : k % (j + 1) < zpc f := by rw [hp]; exact Nat.mod_lt _ (by omega)
    have hi' : k' % (j + 1) < zpc f := by rw [hp]; exact Nat.mod_lt _ (by omega)
    unfold zru at e
    rw [List.cons.injEq] at e
    have e1 := zse_inj hi hi' e.1
    obtain ⟨b1, b2⟩ := zse_bit hi
    have hd := zpc_df f hf _ b2 b1
    have e2 := e.2
    rw [← e1] at e2
    have h1' : k / (j + 1) < zfac j := by
      rw [Nat.div_lt_iff_lt_mul (by omega), Nat.mul_comm]
      exact h1
    have h2' : k' / (j + 1) < zfac j := by
      rw [Nat.div_lt_iff_lt_mul (by omega), Nat.mul_comm]
      exact h2
    have e3 := zru_inj j _ _ _ (zdf_lt hf) (by omega) h1' h2' e2
    have d1 := Nat.div_add_mod k (j + 1)
    have d2 := Nat.div_add_mod k' (j + 1)
    rw [← d1, ← d2, e1, e3]
theorem zru_surj : ∀ j f l, f < 256 → zpc f = j → l.length = j → l.Nodup → (∀ x, x ∈ l → f.testBit x = true ∧ x < 8) → ∃ k, k < zfac j ∧ zru j f k = l
  | 0, f, l, _, _, h, _, _ => ⟨0, by decide, by
    have : l = [] := List.length_eq_zero_iff.mp h
    rw [this]; rfl⟩
  | j + 1, f, [], _, _, h, _, _ => by simp at h
  | j + 1, f, x :: l, hf, hp, h, hn, hm => by
    obtain ⟨b1, b2⟩ := hm x (by simp)
    obtain ⟨i, i1, i2⟩ := zse_of b2 b1
    have hd := zpc_df f hf x b2 b1
    rw [List.nodup_cons] at hn
    obtain ⟨k, k1, k2⟩ := zru_surj j (zdf f (2 ^ x)) l (zdf_lt hf) (by omega) (by simpa using h) hn.2 (fun y hy => ⟨(zdf_iff _ _ _).mpr ⟨(hm y (by simp [hy])).1, fun q => hn.1 (by rw [zbit2] at q; rw [← q]; exact hy)⟩, (hm y (by simp [hy])).2⟩)
    have e1 : (k * (j + 1) + i) % (j + 1) = i := by
      rw [Nat.mul_add_mod_self_right, Nat.mod_eq_of_lt (by omega)]
    have e2 : (k * (j + 1) + i) / (j + 1) = k := by
      rw [Nat.mul_comm, Nat.mul_add_div (by omega), Nat.div_eq_of_lt (by omega), Nat.add_zero]
    refine ⟨k * (j + 1) + i, ?_, ?_⟩
    · show _ < (j + 1) * zfac j
      have : (k + 1) * (j + 1) ≤ zfac j * (j + 1) := Nat.mul_le_mul k1 (Nat.le_refl _)
      rw [Nat.add_mul, Nat.one_mul, Nat.mul_comm (zfac j)] at this
      omega
    · unfold zru
      rw [e1, e2, i2, k2]
theorem zfac_le : ∀ n, n ≤ 8 → zfac n ≤ 40320 ∧ 0 < zfac n := by decide
/-- names of all posts: those of a number -/
theorem zau_num {n : Nat} (hn : n ≤ 8) {l : List Nat} : (l.length = n ∧ (∀ p, p < n → zgi l p < n) ∧ (∀ p q, p < n → q < n → zgi l p = zgi l q → p = q)) ↔ ∃ k, k < zfac n ∧ zru n (2 ^ n - 1) k = l := by
  have hf : 2 ^ n - 1 < 256 := by
    have := zp256 hn
    have := Nat.two_pow_pos n
    omega
  constructor
  · rintro ⟨h1, h2, h3⟩
    refine zru_surj n _ l hf (zpc_full n hn) h1 ?_ (fun x hx => ?_)
    · unfold List.Nodup
      rw [List.pairwise_iff_getElem]
      intro i j hi hj hij e
      have e1 : zgi l i = zgi l j := by
        unfold zgi
        rw [List.getElem?_eq_getElem hi, List.getElem?_eq_getElem hj, e]
      have := h3 i j (by omega) (by omega) e1
      omega
    · obtain ⟨i, i1, i2⟩ := zgi_of hx
      have := h2 i (by omega)
      rw [i2] at this
      exact ⟨(zfull_bit x).mpr this, by omega⟩
  · rintro ⟨k, k1, rfl⟩
    obtain ⟨r1, r2, r3⟩ := zru_ok n _ k hf (zpc_full n hn)
    refine ⟨r1, fun p hp => (zfull_bit _).mp (r3 _ (zgi_mem (by omega))).1, fun p q hp hq e => ?_⟩
    have key : ∀ a b, a < b → b < n → zgi (zru n (2 ^ n - 1) k) a ≠ zgi (zru n (2 ^ n - 1) k) b := by
      intro a b hab hb e
      have := List.pairwise_iff_getElem.mp r2 a b (by omega) (by omega) hab
      apply this
      unfold zgi at e
      rw [List.getElem?_eq_getElem (show b < _ by omega), List.getElem?_eq_getElem (show a < _ by omega)] at e
      exact e
    rcases Nat.lt_trichotomy p q with c | c | c
    · exact absurd e (key p q c hq)
    · exact c
    · exact absurd e.symm (key q p c hp)
theorem zau_list {n : Nat} {tw : Nat → Nat} (hn : n ≤ 8) {P : List Nat → Bool} (hP : ∀ k, k < zfac n → (P (zru n (2 ^ n - 1) k) = true ↔ zau n tw (zru n (2 ^ n - 1) k))) : (((List.range (zfac n)).map (zru n (2 ^ n - 1))).filter P).Nodup ∧ ∀ l, l ∈ ((List.range (zfac n)).map (zru n (2 ^ n - 1))).filter P ↔ zau n tw l := by
  have hf : 2 ^ n - 1 < 256 := by
    have := zp256 hn
    have := Nat.two_pow_pos n
    omega
  constructor
  · apply List.Pairwise.filter
    rw [List.pairwise_map]
    refine List.Pairwise.imp_of_mem ?_ List.nodup_range
    intro a b ha hb hab e
    exact hab (zru_inj n _ a b hf (zpc_full n hn) (List.mem_range.mp ha) (List.mem_range.mp hb) e)
  · intro l
    rw [List.mem_filter, List.mem_map]
    constructor
    · rintro ⟨⟨k, k1, rfl⟩, h⟩
      exact (hP k (List.mem_range.mp k1)).mp h
    · intro ha
      obtain ⟨k, k1, rfl⟩ := (zau_num hn).mp ⟨ha.1, ha.2.1, ha.2.2.1⟩
      exact ⟨⟨k, List.mem_range.mpr k1, rfl⟩, (hP k k1).mpr ha⟩
/-! the reference finds them -/
theorem orders_ok {τ : zSt} {n : Nat} (hn : n ≤ 8) (h1 : 1 ≤ n) (h0 : τ 0 5 = nI n) : M_X6_orders τ = some (nI (zfac n), τ) := by
  unfold M_X6_orders L_X6_orders_4
  refine zloop_for (fun i => (nI (zfac (i + 1)), nI (i + 2), τ)) (n - 1) rfl (by omega) (fun rec i hi => ?_) (fun rec => ?_)
  · have e : zfac (i + 1) * (i + 2) = zfac (i + 1 + 1) := by
      show _ = (i + 1 + 1) * zfac (i + 1)
      rw [Nat.mul_comm]
    unfold B_X6_orders_4
    simp (disch := omega) only [↓reduceIte, ↓znm, ↓zbd_some, ↓zbv_some, ↓zga_in, ↓zgs_in, ↓zgr_in, zga_in, zgs_in, zgr_in, zgz_n0, zgz_n1, zlit, nI_add, pk_mul, pk_sub, znI_or, znI_and, znI_df, zon_ok, zbt_ok, zlt_t, zlt_f, zle_t, zle_f, zeq_f, h0, e]
  · rw [show n - 1 + 1 = n by omega]
    unfold B_X6_orders_4
    simp (disch := omega) only [↓reduceIte, ↓znm, ↓zbd_some, ↓zbv_some, ↓zga_in, ↓zgs_in, ↓zgr_in, zga_in, zgs_in, zgr_in, zgz_n0, zgz_n1, zlit, nI_add, pk_mul, pk_sub, znI_or, znI_and, znI_df, zon_ok, zbt_ok, zlt_t, zlt_f, zle_t, zle_f, zeq_f, h0]
theorem skip_ok {τ : zSt} {f : Nat} (hf : f < 256) (p1 v2 : Int32) (p sk : Nat) (hp : p < 8) (hs : sk < zpc f) (K14 : Int32 → Int32 → Int32 → zSt → Option zSt) : L_X6_findNames_53 p1 K14 v2 (nI f) (nI p) (nI sk) (nI (zse f 0)) (nI 0) τ = K14 v2 (nI (zdf f (2 ^ zse f sk))) (nI (p + 1)) (zsu τ 15 (upd (τ 15) p (nI (zse f sk)))) := by
  have h8 := zpc_le f
  unfold L_X6_findNames_53
  refine zloop_for (fun i => (v2, nI f, nI p, nI sk, nI (zse f i), nI i, τ)) sk rfl (by omega) (fun rec i hi => ?_) (fun rec => ?_)
  · have lt := zse_lt (f := f) (show i < i + 1 by omega) (by omega)
    have b8 := (zse_bit (f := f) (i := i + 1) (by omega))
    unfold B_X6_findNames_53
    simp (disch := omega) only [↓reduceIte, ↓znm, ↓zbd_some, ↓zbv_some, ↓zga_in, ↓zgs_in, ↓zgr_in, zga_in, zgs_in, zgr_in, zgz_n0, zgz_n1, zlit, nI_add, pk_mul, pk_sub, znI_or, znI_and, znI_df, zon_ok, zbt_ok, zlt_t, zlt_f, zle_t, zle_f, zeq_f]
    unfold L_X6_findNames_63
    refine zloop_for (fun j => (v2, nI f, nI p, nI sk, nI (zse f i + 1 + j), nI i, τ)) (zse f (i + 1) - (zse f i + 1)) rfl (by omega) (fun rd j hj => ?_) (fun rd => ?_)
    · have gap := zse_gap (f := f) (i := i) (x := zse f i + 1 + j) (by omega) (by omega) (by omega)
      unfold B_X6_findNames_63
      simp (disch := omega) only [↓reduceIte, ↓znm, ↓zbd_some, ↓zbv_some, ↓zga_in, ↓zgs_in, ↓zgr_in, zga_in, zgs_in, zgr_in, zgz_n0, zgz_n1, zlit, nI_add, pk_mul, pk_sub, znI_or, znI_and, znI_df, zon_ok, zbt_ok, zlt_t, zlt_f, zle_t, zle_f, zeq_f, ↓zbd_of (isOf_ok (m := f) (k := zse f i + 1 + j) (by omega) (by omega) τ), gap, Bool.false_eq_true]
      rfl
    · have e : zse f i + 1 + (zse f (i + 1) - (zse f i + 1)) = zse f (i + 1) := by omega
      rw [e]
      unfold B_X6_findNames_63
      simp (disch := omega) only [↓reduceIte, ↓znm, ↓zbd_some, ↓zbv_some, ↓zga_in, ↓zgs_in, ↓zgr_in, zga_in, zgs_in, zgr_in, zgz_n0, zgz_n1, zlit, nI_add, pk_mul, pk_sub, znI_or, znI_and, znI_df, zon_ok, zbt_ok, zlt_t, zlt_f, zle_t, zle_f, zeq_f, ↓zbd_of (isOf_ok (m := f) (k := zse f (i + 1)) (by omega) (by omega) τ), b8.1]
  · have b8 := (zse_bit (f := f) (i := sk) (by omega)).2
    unfold B_X6_findNames_53
    simp (disch := omega) only [↓reduceIte, ↓znm, ↓zbd_some, ↓zbv_some, ↓zga_in, ↓zgs_in, ↓zgr_in, zga_in, zgs_in, zgr_in, zgz_n0, zgz_n1, zlit, nI_add, pk_mul, pk_sub, znI_or, znI_and, znI_df, zon_ok, zbt_ok, zlt_t, zlt_f, zle_t, zle_f, zeq_f]
theorem zgi_drop (l : List Nat) (p : Nat) : zgi l p = zgi (l.drop p) 0 := by
  unfold zgi
  rw [List.getElem?_drop, Nat.add_zero]
theorem findNames_ok {τ : zSt} {n k : Nat} (hn : n ≤ 8) (h0 : τ 0 5 = nI n) (hk : k < zfac n) : ∃ τ', M_X6_findNames (nI k) τ = some τ' ∧ (∀ p, p < n → τ' 15 p = nI (zgi (zru n (2 ^ n - 1) k) p)) ∧ ∀ c, c ≠ 15 → τ' c = τ c := by
  have hp2 := zp256 hn
  have hp0 := Nat.two_pow_pos n
  have hfl := (zfac_le n hn).1
  generalize hl : zru n (2 ^ n - 1) k = l
  unfold M_X6_findNames
  simp (disch := omega) only [↓reduceIte, ↓znm, ↓zbd_some, ↓zbv_some, ↓zga_in, ↓zgs_in, ↓zgr_in, zga_in, zgs_in, zgr_in, zgz_n0, zgz_n1, zlit, nI_add, pk_mul, pk_sub, znI_or, znI_and, znI_df, zon_ok, zbt_ok, zlt_t, zlt_f, zle_t, zle_f, zeq_f, h0]
  unfold L_X6_findNames_14
  have := zloop_ex (F := (fun (rec : Int32 × Int32 × Int32 × zSt → Option (zSt)) x => B_X6_findNames_14 (nI k)  (fun v2 v3 v4 σ => rec (v2, v3, v4, σ)) x.1 x.2.1 x.2.2.1 x.2.2.2)) (I := fun x => ∃ p rest f, p ≤ n ∧ x.1 = nI rest ∧ x.2.1 = nI f ∧ x.2.2.1 = nI p ∧ rest ≤ k ∧ f < 256 ∧ zpc f = n - p ∧ l.drop p = zru (n - p) f rest ∧ (∀ y, y < p → x.2.2.2 15 y = nI (zgi l y)) ∧ ∀ c, c ≠ 15 → x.2.2.2 c = τ c) (μ := fun x => n - x.2.2.1.toNatClampNeg) (Po := fun τ' => (∀ p, p < n → τ' 15 p = nI (zgi l p)) ∧ ∀ c, c ≠ 15 → τ' c = τ c) ?_ zFU (nI k, nI (2 ^ n - 1), nI 0, τ) ⟨0, k, 2 ^ n - 1, by omega, rfl, rfl, rfl, Nat.le_refl k, by omega, zpc_full n hn, by rw [List.drop_zero]; exact hl.symm, fun y hy => by omega, fun _ _ => rfl⟩ (by have := zFU_ge; show n - _ < _; omega)
  · obtain ⟨τ', o1, o2⟩ := this
    exact ⟨τ', o1, o2⟩
  rintro rec ⟨v2, v3, v4, s⟩ ⟨p, rest, f, hp, c1, c2, c3, hrk, hf, hpc, hdr, h15, hfr⟩ ih
  dsimp only at c1 c2 c3 h15 hfr ih ⊢
  subst c1 c2 c3
  have f0 : s 0 5 = nI n := by rw [hfr 0 (by decide)]; exact h0
  by_cases hpn : p = n
  · subst hpn
    refine ⟨s, ?_, h15, hfr⟩
    unfold B_X6_findNames_14
    simp (disch := omega) only [↓reduceIte, ↓znm, ↓zbd_some, ↓zbv_some, ↓zga_in, ↓zgs_in, ↓zgr_in, zga_in, zgs_in, zgr_in, zgz_n0, zgz_n1, zlit, nI_add, pk_mul, pk_sub, znI_or, znI_and, znI_df, zon_ok, zbt_ok, zlt_t, zlt_f, zle_t, zle_f, zeq_f, f0]
  · obtain ⟨j, hj⟩ : ∃ j, n - p = j + 1 := ⟨n - p - 1, by omega⟩
    have hsk : rest % (j + 1) < zpc f := by rw [hpc, hj]; exact Nat.mod_lt _ (by omega)
    have lo := leastM_ok hf (zpc_ne (by omega)) s
    rw [← zse_0 hf (by omega)] at lo
    obtain ⟨b1, b2⟩ := zse_bit hsk
    have hd := zpc_df f hf _ b2 b1
    have sk := skip_ok (τ := s) hf (nI k) (nI (rest / (j + 1))) p (rest % (j + 1)) (by omega) hsk (fun v2 v3 v4 σ => rec (v2, v3, v4, σ))
    have hrl : rest < 2147483648 := by omega
    have e : B_X6_findNames_14 (nI k) (fun v2 v3 v4 σ => rec (v2, v3, v4, σ)) (nI rest) (nI f) (nI p) s = rec (nI (rest / (j + 1)), nI (zdf f (2 ^ zse f (rest % (j + 1)))), nI (p + 1), zsu s 15 (upd (s 15) p (nI (zse f (rest % (j + 1)))))) := by
      unfold B_X6_findNames_14
      simp (disch := omega) only [↓reduceIte, ↓znm, ↓zbd_some, ↓zbv_some, ↓zga_in, ↓zgs_in, ↓zgr_in, zga_in, zgs_in, zgr_in, zgz_n0, zgz_n1, zlit, nI_add, pk_mul, pk_sub, znI_or, znI_and, znI_df, zon_ok, zbt_ok, zlt_t, zlt_f, zle_t, zle_f, zeq_f, f0, hj, zrm_n, zdv_n, ↓zbd_of lo, sk]
    rw [e]
    rw [hj] at hdr
    have hdr' : l.drop p = zse f (rest % (j + 1)) :: zru j (zdf f (2 ^ zse f (rest % (j + 1)))) (rest / (j + 1)) := hdr
    have hgp : zgi l p = zse f (rest % (j + 1)) := by
      rw [zgi_drop, hdr']
      rfl
    refine ih _ ⟨p + 1, rest / (j + 1), _, by omega, rfl, rfl, rfl, ?_, zdf_lt hf, by omega, ?_, fun y hy => ?_, fun c hc => ?_⟩ ?_
    · exact Nat.le_trans (Nat.div_le_self _ _) hrk
    · rw [show n - (p + 1) = j by omega, ← List.drop_drop, hdr']
      rfl
    · show zsu s 15 (upd (s 15) p (nI (zse f (rest % (j + 1))))) 15 y = _
      rw [zsu_eq]
      by_cases ey : y = p
      · rw [ey, upd_eq, hgp]
      · rw [upd_ne ey]; exact h15 y (by omega)
    · show zsu s 15 (upd (s 15) p (nI (zse f (rest % (j + 1))))) c = _
      rw [zsu_ne hc]; exact hfr c hc
    · show n - (nI (p + 1)).toNatClampNeg < n - (nI p).toNatClampNeg
      rw [nI_clamp (by omega), nI_clamp (by omega)]
      omega
