/-! PURE: odds -/
theorem zdv_n {β : Type} {a b : Nat} {K : Int32 → Option β} (ha : a < 2147483648) (hb : 0 < b) (hb2 : b < 2147483648) : zdv (nI a) (nI b) K = K (nI (a / b)) := by
  unfold zdv
  rw [if_neg (nI_ne0 hb hb2), pk_div ha hb hb2]
theorem zrm_n {β : Type} {a b : Nat} {K : Int32 → Option β} (ha : a < 2147483648) (hb : 0 < b) (hb2 : b < 2147483648) : zrm (nI a) (nI b) K = K (nI (a % b)) := by
  unfold zrm
  rw [if_neg (nI_ne0 hb hb2), pk_rem ha hb hb2]
theorem zdvL_n {β : Type} {a b : Nat} {K : Int64 → Option β} (ha : a < 2147483648) (hb : 0 < b) (hb2 : b < 2147483648) : zdvL (lN a) (lN b) K = K (lN (a / b)) := by
  unfold zdvL
  rw [if_neg, pk_lDiv (by omega) hb (by omega)]
  intro q
  have := (pk_lEQ (a := b) (b := 0) (by omega) (by omega)).mp q
  omega
theorem zrmL_n {β : Type} {a b : Nat} {K : Int64 → Option β} (ha : a < 2147483648) (hb : 0 < b) (hb2 : b < 2147483648) : zrmL (lN a) (lN b) K = K (lN (a % b)) := by
  unfold zrmL
  rw [if_neg, pk_lRem (by omega) hb (by omega)]
  intro q
  have := (pk_lEQ (a := b) (b := 0) (by omega) (by omega)).mp q
  omega
theorem zcmp0 {k : Nat} (hk : k < 2147483648) : (lg_cmp (lN k) 0 = 0) = (k = 0) := by
  apply propext
  constructor
  · intro h
    by_cases e : k = 0
    · exact e
    · exfalso
      unfold lg_cmp at h
      have h1 : lN k > 0 := (pk_lLT (a := 0) (b := k) (by omega) (by omega)).mpr (by omega)
      rw [if_pos h1] at h
      exact absurd h (by decide)
  · rintro rfl
    decide
theorem zsum_add (f g : Nat → Nat) : ∀ n, zsum (fun i => f i + g i) n = zsum f n + zsum g n
  | 0 => rfl
  | n + 1 => by
    unfold zsum
    rw [zsum_add f g n]
    omega
theorem ztwos (e : Nat → Nat → Nat) : ∀ n, (∀ a b, a < n → b < n → e a b = e b a) → zsum (fun a => zsum (fun j => e a (a + 1 + j)) (n - (a + 1))) n = zsum (fun p => zsum (fun q => e p q) p) n
  | 0, _ => rfl
  | n + 1, hs => by
    have h1 : zsum (fun a => zsum (fun j => e a (a + 1 + j)) (n + 1 - (a + 1))) n = zsum (fun a => zsum (fun j => e a (a + 1 + j)) (n - (a + 1)) + e a n) n := by
      apply zsum_ext
      intro a ha
      rw [show n + 1 - (a + 1) = (n - (a + 1)) + 1 by omega]
      show zsum (fun j => e a (a + 1 + j)) (n - (a + 1)) + e a (a + 1 + (n - (a + 1))) = _
      rw [show a + 1 + (n - (a + 1)) = n by omega]
    show zsum (fun a => zsum (fun j => e a (a + 1 + j)) (n + 1 - (a + 1))) n + zsum (fun j => e n (n + 1 + j)) (n + 1 - (n + 1)) = zsum (fun p => zsum (fun q => e p q) p) n + zsum (fun q => e n q) n
    rw [h1, zsum_add, ztwos e n (fun a b ha hb => hs a b (by omega) (by omega)), Nat.sub_self]
    have h2 : zsum (fun a => e a n) n = zsum (fun q => e n q) n := zsum_ext (fun i hi => hs i n (by omega) (by omega))
    rw [h2]
    rfl
theorem zall : ∀ n, n ≤ 8 → zsum (fun a => n - (a + 1)) n = n * (n - 1) / 2 := by decide
def znear (d : Nat → Nat → Nat) (D p q : Nat) : Nat := if d p q ≤ D then 1 else 0
theorem znear_le (d : Nat → Nat → Nat) (D : Nat) {n : Nat} (hn : n ≤ 8) : zsum (fun p => zsum (znear d D p) p) n ≤ 64 := by
  have := zsum_le (f := fun p => zsum (znear d D p) p) (B := 8) (n := n) (fun p hp => by
    have := zsum_le (f := znear d D p) (B := 1) (n := p) (fun q _ => by unfold znear; split <;> omega)
    omega)
  omega
theorem twos_in {σ : zSt} {b n : Nat} {d : Nat → Nat → Nat} (hA : zAX σ b n d) (hn : n ≤ 8) (hd : ∀ p q, p < n → q < n → d p q < 8) {D : Nat} (hD : D < 8) {p F : Nat} (hp : p < n) (hF : F ≤ 64) (K4 : Int32 → Int32 → zSt → Option (Int32 × zSt)) : L_X4_twosWithin_15 b (nI D) K4 (nI F) (nI p) (nI 0) σ = K4 (nI (F + zsum (znear d D p) p)) (nI (p + 1)) σ := by
  unfold L_X4_twosWithin_15
  refine zloop_for (fun q => (nI (F + zsum (znear d D p) q), nI p, nI q, σ)) p rfl (by omega) (fun rec q hq => ?_) (fun rec => ?_)
  · have e1 := hA p hp q (by omega)
    have b1 := hd p q hp (by omega)
    unfold B_X4_twosWithin_15
    by_cases c : d p q ≤ D
    · simp (disch := omega) only [↓reduceIte, ↓znm, ↓zbd_some, ↓zbv_some, ↓zga_in, ↓zgs_in, ↓zgr_in, zga_in, zgs_in, zgr_in, zgz_n0, zgz_n1, zlit, nI_add, pk_mul, pk_sub, znI_or, znI_and, znI_df, zon_ok, zbt_ok, zlt_t, zlt_f, zle_t, zle_f, zeq_f, e1, B_X4_twosWithin_37, zsum, znear, c]
      rfl
    · simp (disch := omega) only [↓reduceIte, ↓znm, ↓zbd_some, ↓zbv_some, ↓zga_in, ↓zgs_in, ↓zgr_in, zga_in, zgs_in, zgr_in, zgz_n0, zgz_n1, zlit, nI_add, pk_mul, pk_sub, znI_or, znI_and, znI_df, zon_ok, zbt_ok, zlt_t, zlt_f, zle_t, zle_f, zeq_f, e1, B_X4_twosWithin_37, zsum, znear, c, Nat.add_zero]
  · unfold B_X4_twosWithin_15
    simp (disch := omega) only [↓reduceIte, ↓znm, ↓zbd_some, ↓zbv_some, ↓zga_in, ↓zgs_in, ↓zgr_in, zga_in, zgs_in, zgr_in, zgz_n0, zgz_n1, zlit, nI_add, pk_mul, pk_sub, znI_or, znI_and, znI_df, zon_ok, zbt_ok, zlt_t, zlt_f, zle_t, zle_f, zeq_f]
theorem twos_ok {σ : zSt} {b n : Nat} {d : Nat → Nat → Nat} (h0 : σ b 0 = nI n) (hA : zAX σ b n d) (hn : n ≤ 8) (hd : ∀ p q, p < n → q < n → d p q < 8) {D : Nat} (hD : D < 8) : M_X4_twosWithin b (nI D) σ = some (nI (zsum (fun p => zsum (znear d D p) p) n), σ) := by
  unfold M_X4_twosWithin L_X4_twosWithin_4
  refine zloop_for (fun p => (nI (zsum (fun p => zsum (znear d D p) p) p), nI p, σ)) n rfl (by omega) (fun rec p hp => ?_) (fun rec => ?_)
  · have hl := znear_le d D (n := p) (by omega)
    have := twos_in hA hn hd hD hp hl (fun v2 v3 σ => rec (v2, v3, σ))
    unfold B_X4_twosWithin_4
    simp (disch := omega) only [↓reduceIte, ↓znm, ↓zbd_some, ↓zbv_some, ↓zga_in, ↓zgs_in, ↓zgr_in, zga_in, zgs_in, zgr_in, zgz_n0, zgz_n1, zlit, nI_add, pk_mul, pk_sub, znI_or, znI_and, znI_df, zon_ok, zbt_ok, zlt_t, zlt_f, zle_t, zle_f, zeq_f, h0, this, zsum]
  · unfold B_X4_twosWithin_4
    simp (disch := omega) only [↓reduceIte, ↓znm, ↓zbd_some, ↓zbv_some, ↓zga_in, ↓zgs_in, ↓zgr_in, zga_in, zgs_in, zgr_in, zgz_n0, zgz_n1, zlit, nI_add, pk_mul, pk_sub, znI_or, znI_and, znI_df, zon_ok, zbt_ok, zlt_t, zlt_f, zle_t, zle_f, zeq_f, h0]
theorem gcdX_ok {σ : zSt} {near all told : Nat} (hn : near ≤ 64) (ha : all ≤ 64) (h0 : 0 < all) (ht : told ≤ 64) (p1 p2 : Int32) : L_X5_odds_79 p1 p2 (nI near) (nI all) (nI told) (nI all) σ = some (lN (told / Nat.gcd near all), σ) := by
  have hg0 : 0 < Nat.gcd near all := Nat.gcd_pos_of_pos_right _ h0
  have hga : Nat.gcd near all ≤ all := Nat.le_of_dvd h0 (Nat.gcd_dvd_right near all)
  have hd1 := Nat.gcd_dvd_left near all
  have hd2 := Nat.gcd_dvd_right near all
  have hmax : ∀ g, g ∣ near → g ∣ all → g ≤ Nat.gcd near all := fun g h1 h2 => Nat.le_of_dvd hg0 (Nat.dvd_gcd h1 h2)
  unfold L_X5_odds_79
  generalize Nat.gcd near all = G at *
  refine zloop_for (fun i => (nI near, nI all, nI told, nI (all - i), σ)) (all - G) rfl (by omega) (fun rec i hi => ?_) (fun rec => ?_)
  · unfold B_X5_odds_79
    by_cases c1 : near % (all - i) = 0
    · have c2 : ¬ all % (all - i) = 0 := fun c2 => by
        have := hmax (all - i) (Nat.dvd_of_mod_eq_zero c1) (Nat.dvd_of_mod_eq_zero c2)
        omega
      have b2 : all % (all - i) < 2147483648 := Nat.lt_of_lt_of_le (Nat.mod_lt _ (by omega)) (by omega)
      have e2 : (nI (all % (all - i)) = nI 0) = False := zeq_f c2 b2 (by decide)
      simp (disch := omega) only [↓reduceIte, ↓znm, ↓zbd_some, ↓zbv_some, ↓zga_in, ↓zgs_in, ↓zgr_in, zga_in, zgs_in, zgr_in, zgz_n0, zgz_n1, zlit, nI_add, pk_mul, pk_sub, znI_or, znI_and, znI_df, zon_ok, zbt_ok, zlt_t, zlt_f, zle_t, zle_f, zeq_f, zrm_n, c1, e2, B_X5_odds_107]
      have e3 : nI (all - i) + -nI 1 = nI (all - (i + 1)) := by
        rw [show all - i = (all - (i + 1)) + 1 by omega]
        exact pk_m1 _
      rw [e3]
    · have b1 : near % (all - i) < 2147483648 := Nat.lt_of_lt_of_le (Nat.mod_lt _ (by omega)) (by omega)
      have e2 : (nI (near % (all - i)) = nI 0) = False := zeq_f c1 b1 (by decide)
      simp (disch := omega) only [↓reduceIte, ↓znm, ↓zbd_some, ↓zbv_some, ↓zga_in, ↓zgs_in, ↓zgr_in, zga_in, zgs_in, zgr_in, zgz_n0, zgz_n1, zlit, nI_add, pk_mul, pk_sub, znI_or, znI_and, znI_df, zon_ok, zbt_ok, zlt_t, zlt_f, zle_t, zle_f, zeq_f, zrm_n, e2, B_X5_odds_107]
      have e3 : nI (all - i) + -nI 1 = nI (all - (i + 1)) := by
        rw [show all - i = (all - (i + 1)) + 1 by omega]
        exact pk_m1 _
      rw [e3]
  · rw [show all - (all - G) = G by omega]
    unfold B_X5_odds_79
    by_cases c : G ≤ 1
    · have e : G = 1 := by omega
      subst e
      simp (disch := omega) only [↓reduceIte, ↓znm, ↓zbd_some, ↓zbv_some, ↓zga_in, ↓zgs_in, ↓zgr_in, zga_in, zgs_in, zgr_in, zgz_n0, zgz_n1, zlit, nI_add, pk_mul, pk_sub, znI_or, znI_and, znI_df, zon_ok, zbt_ok, zlt_t, zlt_f, zle_t, zle_f, zeq_f, Nat.div_one]
      rw [nI_l (by omega)]
    · have c1 : near % G = 0 := Nat.mod_eq_zero_of_dvd hd1
      have c2 : all % G = 0 := Nat.mod_eq_zero_of_dvd hd2
      simp (disch := omega) only [↓reduceIte, ↓znm, ↓zbd_some, ↓zbv_some, ↓zga_in, ↓zgs_in, ↓zgr_in, zga_in, zgs_in, zgr_in, zgz_n0, zgz_n1, zlit, nI_add, pk_mul, pk_sub, znI_or, znI_and, znI_df, zon_ok, zbt_ok, zlt_t, zlt_f, zle_t, zle_f, zeq_f, zrm_n, zdv_n, c1, c2]
      rw [nI_l (Nat.lt_of_le_of_lt (Nat.div_le_self _ _) (by omega))]
theorem euclid_ok {τ : zSt} {u w k : Nat} (hu : u ≤ 64) (hw : w ≤ 64) (h0 : 0 < w) (hk : k < 2) : M_X6_inLeastTerms (lN u) (lN w) (nI k) τ = some (lN ((if k = 0 then u else w) / Nat.gcd u w), τ) := by
  unfold M_X6_inLeastTerms L_X6_inLeastTerms_6
  refine zloop_inv (I := fun s => ∃ x y, x ≤ 64 ∧ y ≤ 64 ∧ 0 < Nat.gcd x y ∧ s = (lN x, lN y, τ) ∧ Nat.gcd x y = Nat.gcd u w) (μ := fun s => s.2.1.toInt.toNat) (fun rec s hs hr => ?_) zFU _ ⟨u, w, hu, hw, Nat.gcd_pos_of_pos_right _ h0, rfl, rfl⟩ ?_
  · obtain ⟨x, y, hx, hy, hg, rfl, he⟩ := hs
    unfold B_X6_inLeastTerms_6
    have hc := zcmp0 (k := y) (by omega)
    by_cases c : y = 0
    · subst c
      rw [Nat.gcd_zero_right] at he hg
      rcases (by omega : k = 0 ∨ k = 1) with rfl | rfl
      · simp only [hc, if_true]
        simp (disch := omega) only [↓reduceIte, ↓znm, ↓zbd_some, ↓zbv_some, ↓zga_in, ↓zgs_in, ↓zgr_in, zga_in, zgs_in, zgr_in, zgz_n0, zgz_n1, zlit, nI_add, pk_mul, pk_sub, znI_or, znI_and, znI_df, zon_ok, zbt_ok, zlt_t, zlt_f, zle_t, zle_f, zeq_f, zdvL_n, he]
      · rw [if_neg (show ¬ (1 : Nat) = 0 by decide)]
        simp only [hc, if_true]
        simp (disch := omega) only [↓reduceIte, ↓znm, ↓zbd_some, ↓zbv_some, ↓zga_in, ↓zgs_in, ↓zgr_in, zga_in, zgs_in, zgr_in, zgz_n0, zgz_n1, zlit, nI_add, pk_mul, pk_sub, znI_or, znI_and, znI_df, zon_ok, zbt_ok, zlt_t, zlt_f, zle_t, zle_f, zeq_f, zdvL_n, he]
    · have hlt : x % y < y := Nat.mod_lt _ (by omega)
      have := hr (lN y, lN (x % y), τ) ⟨y, x % y, hy, by omega, by rw [Nat.gcd_comm, ← Nat.gcd_rec, Nat.gcd_comm]; exact hg, rfl, by rw [Nat.gcd_comm, ← Nat.gcd_rec, Nat.gcd_comm]; exact he⟩ (by
        show (lN (x % y)).toInt.toNat < (lN y).toInt.toNat
        rw [lN_toInt (by omega), lN_toInt (by omega), Int.toNat_natCast, Int.toNat_natCast]
        exact hlt)
      simp only [hc, c, if_false]
      rw [zrmL_n (by omega) (by omega) (by omega)]
      exact this
  · show (lN w).toInt.toNat < zFU
    rw [lN_toInt (by omega)]
    have := zFU_ge
    simp
    omega
theorem oddsM_in {τ : zSt} {n : Nat} {d : Nat → Nat → Nat} (h0 : τ 0 5 = nI n) (hF : zFM τ n d) (hn : n ≤ 8) (hd : ∀ p q, p < n → q < n → d p q < 8) {D : Nat} (hD : D < 8) (p2 : Int32) {a A M : Nat} (ha : a < n) (hA : A ≤ 64) (hM : M ≤ 64) (K42 : Int32 → Int32 → Int32 → zSt → Option (Int64 × zSt)) : L_X6_odds_57 (nI D) p2 K42 (nI A) (nI M) (nI a) (nI (a + 1)) τ = K42 (nI (A + (n - (a + 1)))) (nI (M + zsum (fun j => znear d D a (a + 1 + j)) (n - (a + 1)))) (nI (a + 1)) τ := by
  unfold L_X6_odds_57
  refine zloop_for (fun j => (nI (A + j), nI (M + zsum (fun j => znear d D a (a + 1 + j)) j), nI a, nI (a + 1 + j), τ)) (n - (a + 1)) rfl (by omega) (fun rec j hj => ?_) (fun rec => ?_)
  · have e1 := hF a (a + 1 + j) ha (by omega)
    have b1 := hd a (a + 1 + j) ha (by omega)
    unfold B_X6_odds_57
    by_cases c : d a (a + 1 + j) ≤ D
    · simp (disch := omega) only [↓reduceIte, ↓znm, ↓zbd_some, ↓zbv_some, ↓zga_in, ↓zgs_in, ↓zgr_in, zga_in, zgs_in, zgr_in, zgz_n0, zgz_n1, zlit, nI_add, pk_mul, pk_sub, znI_or, znI_and, znI_df, zon_ok, zbt_ok, zlt_t, zlt_f, zle_t, zle_f, zeq_f, h0, e1, B_X6_odds_93, zsum, znear, c]
      rfl
    · simp (disch := omega) only [↓reduceIte, ↓znm, ↓zbd_some, ↓zbv_some, ↓zga_in, ↓zgs_in, ↓zgr_in, zga_in, zgs_in, zgr_in, zgz_n0, zgz_n1, zlit, nI_add, pk_mul, pk_sub, znI_or, znI_and, znI_df, zon_ok, zbt_ok, zlt_t, zlt_f, zle_t, zle_f, zeq_f, h0, e1, B_X6_odds_93, zsum, znear, c, Nat.add_zero]
      rfl
  · rw [show a + 1 + (n - (a + 1)) = n by omega]
    unfold B_X6_odds_57
    simp (disch := omega) only [↓reduceIte, ↓znm, ↓zbd_some, ↓zbv_some, ↓zga_in, ↓zgs_in, ↓zgr_in, zga_in, zgs_in, zgr_in, zgz_n0, zgz_n1, zlit, nI_add, pk_mul, pk_sub, znI_or, znI_and, znI_df, zon_ok, zbt_ok, zlt_t, zlt_f, zle_t, zle_f, zeq_f, h0]
theorem sim_odds (p1 p2 : Int32) : zSim (M_X5_odds p1 p2) (M_X6_odds p1 p2) := by
  intro σ τ h
  obtain ⟨⟨n, kd, ld, tw, d, hV, hR⟩, hS, hI, hd⟩ := id h
  obtain ⟨h1, h2, h3, h4, h5, h6⟩ := hV
  have hn := h3.1
  have h8 := h6.lt8 hn
  unfold M_X5_odds M_X6_odds M_X6_within
  rcases zix p1 (n := 8) (by decide) with c | c | ⟨D, hD, rfl⟩
  · refine ⟨(-9223372036854775808 : Int64), σ, τ, ?_, ?_, h⟩
    · simp (disch := omega) only [↓reduceIte, ↓znm, ↓zbd_some, ↓zbv_some, ↓zga_in, ↓zgs_in, ↓zgr_in, zga_in, zgs_in, zgr_in, zgz_n0, zgz_n1, zlit, nI_add, pk_mul, pk_sub, znI_or, znI_and, znI_df, zon_ok, zbt_ok, zlt_t, zlt_f, zle_t, zle_f, zeq_f, zneg_lt c]
    · simp (disch := omega) only [↓reduceIte, ↓znm, ↓zbd_some, ↓zbv_some, ↓zga_in, ↓zgs_in, ↓zgr_in, zga_in, zgs_in, zgr_in, zgz_n0, zgz_n1, zlit, nI_add, pk_mul, pk_sub, znI_or, znI_and, znI_df, zon_ok, zbt_ok, zlt_t, zlt_f, zle_t, zle_f, zeq_f, zneg_lt c]
  · refine ⟨(-9223372036854775808 : Int64), σ, τ, ?_, ?_, h⟩
    · simp (disch := omega) only [↓reduceIte, ↓znm, ↓zbd_some, ↓zbv_some, ↓zga_in, ↓zgs_in, ↓zgr_in, zga_in, zgs_in, zgr_in, zgz_n0, zgz_n1, zlit, nI_add, pk_mul, pk_sub, znI_or, znI_and, znI_df, zon_ok, zbt_ok, zlt_t, zlt_f, zle_t, zle_f, zeq_f, zbig_lt (by decide) c, zbig_ge (by decide) c]
    · simp (disch := omega) only [↓reduceIte, ↓znm, ↓zbd_some, ↓zbv_some, ↓zga_in, ↓zgs_in, ↓zgr_in, zga_in, zgs_in, zgr_in, zgz_n0, zgz_n1, zlit, nI_add, pk_mul, pk_sub, znI_or, znI_and, znI_df, zon_ok, zbt_ok, zlt_t, zlt_f, zle_t, zle_f, zeq_f, zbig_lt (by decide) c, zbig_gt (by decide) c]
  rcases zix p2 (n := 2) (by decide) with c | c | ⟨k, hk, rfl⟩
  · refine ⟨(-9223372036854775808 : Int64), σ, τ, ?_, ?_, h⟩
    · simp (disch := omega) only [↓reduceIte, ↓znm, ↓zbd_some, ↓zbv_some, ↓zga_in, ↓zgs_in, ↓zgr_in, zga_in, zgs_in, zgr_in, zgz_n0, zgz_n1, zlit, nI_add, pk_mul, pk_sub, znI_or, znI_and, znI_df, zon_ok, zbt_ok, zlt_t, zlt_f, zle_t, zle_f, zeq_f, zneg_lt c]
    · simp (disch := omega) only [↓reduceIte, ↓znm, ↓zbd_some, ↓zbv_some, ↓zga_in, ↓zgs_in, ↓zgr_in, zga_in, zgs_in, zgr_in, zgz_n0, zgz_n1, zlit, nI_add, pk_mul, pk_sub, znI_or, znI_and, znI_df, zon_ok, zbt_ok, zlt_t, zlt_f, zle_t, zle_f, zeq_f, zneg_lt c]
  · refine ⟨(-9223372036854775808 : Int64), σ, τ, ?_, ?_, h⟩
    · simp (disch := omega) only [↓reduceIte, ↓znm, ↓zbd_some, ↓zbv_some, ↓zga_in, ↓zgs_in, ↓zgr_in, zga_in, zgs_in, zgr_in, zgz_n0, zgz_n1, zlit, nI_add, pk_mul, pk_sub, znI_or, znI_and, znI_df, zon_ok, zbt_ok, zlt_t, zlt_f, zle_t, zle_f, zeq_f, zbig_lt (by decide) c, zbig_gt (by decide) c]
    · simp (disch := omega) only [↓reduceIte, ↓znm, ↓zbd_some, ↓zbv_some, ↓zga_in, ↓zgs_in, ↓zgr_in, zga_in, zgs_in, zgr_in, zgz_n0, zgz_n1, zlit, nI_add, pk_mul, pk_sub, znI_or, znI_and, znI_df, zon_ok, zbt_ok, zlt_t, zlt_f, zle_t, zle_f, zeq_f, zbig_lt (by decide) c, zbig_gt (by decide) c]
  by_cases hz : n = 0
  · subst hz
    refine ⟨(-9223372036854775808 : Int64), σ, τ, ?_, ?_, h⟩
    · simp (disch := omega) only [↓reduceIte, ↓znm, ↓zbd_some, ↓zbv_some, ↓zga_in, ↓zgs_in, ↓zgr_in, zga_in, zgs_in, zgr_in, zgz_n0, zgz_n1, zlit, nI_add, pk_mul, pk_sub, znI_or, znI_and, znI_df, zon_ok, zbt_ok, zlt_t, zlt_f, zle_t, zle_f, zeq_f, h1.1]
    · simp (disch := omega) only [↓reduceIte, ↓znm, ↓zbd_some, ↓zbv_some, ↓zga_in, ↓zgs_in, ↓zgr_in, zga_in, zgs_in, zgr_in, zgz_n0, zgz_n1, zlit, nI_add, pk_mul, pk_sub, znI_or, znI_and, znI_df, zon_ok, zbt_ok, zlt_t, zlt_f, zle_t, zle_f, zeq_f, h2.1]
  have hn2 : 2 ≤ n := h5.resolve_left hz
  obtain ⟨τ', f1, f2, f3, f4, f5⟩ := fars_get h h2 h3 h6
  have hl := znear_le d D hn
  have hall := zall n hn
  have hm : n * (n - 1) ≤ 56 := by
    have := Nat.mul_le_mul hn (show n - 1 ≤ 7 by omega)
    omega
  have hm2 : 2 ≤ n * (n - 1) := by
    have := Nat.mul_le_mul hn2 (show 1 ≤ n - 1 by omega)
    omega
  have ht := ztwos (znear d D) n (fun a b ha hb => by
    unfold znear
    rw [h6.2.2.2.1 a b ha hb])
  refine ⟨lN ((if k = 0 then zsum (fun p => zsum (znear d D p) p) n else n * (n - 1) / 2) / Nat.gcd (zsum (fun p => zsum (znear d D p) p) n) (n * (n - 1) / 2)), σ, τ', ?_, ?_, f2⟩
  · have u := twos_ok h1.1 h4 hn h8 hD
    rcases (by omega : k = 0 ∨ k = 1) with rfl | rfl
    · rw [if_pos rfl]
      simp (disch := omega) only [↓reduceIte, ↓znm, ↓zbd_some, ↓zbv_some, ↓zga_in, ↓zgs_in, ↓zgr_in, zga_in, zgs_in, zgr_in, zgz_n0, zgz_n1, zlit, nI_add, pk_mul, pk_sub, znI_or, znI_and, znI_df, zon_ok, zbt_ok, zlt_t, zlt_f, zle_t, zle_f, zeq_f, h1.1, ↓zbd_of u, zdv_n, B_X5_odds_73]
      rw [gcdX_ok hl (by omega) (by omega) hl]
    · rw [if_neg (show ¬ (1 : Nat) = 0 by decide)]
      simp (disch := omega) only [↓reduceIte, ↓znm, ↓zbd_some, ↓zbv_some, ↓zga_in, ↓zgs_in, ↓zgr_in, zga_in, zgs_in, zgr_in, zgz_n0, zgz_n1, zlit, nI_add, pk_mul, pk_sub, znI_or, znI_and, znI_df, zon_ok, zbt_ok, zlt_t, zlt_f, zle_t, zle_f, zeq_f, h1.1, ↓zbd_of u, zdv_n, B_X5_odds_73]
      rw [gcdX_ok hl (by omega) (by omega) (by omega)]
  · simp (disch := omega) only [↓reduceIte, ↓znm, ↓zbd_some, ↓zbv_some, ↓zga_in, ↓zgs_in, ↓zgr_in, zga_in, zgs_in, zgr_in, zgz_n0, zgz_n1, zlit, nI_add, pk_mul, pk_sub, znI_or, znI_and, znI_df, zon_ok, zbt_ok, zlt_t, zlt_f, zle_t, zle_f, zeq_f, f3.1, h2.1, ↓zbv_of f1]
    unfold L_X6_odds_42
    refine zloop_for (fun a => (nI (zsum (fun a => n - (a + 1)) a), nI (zsum (fun a => zsum (fun j => znear d D a (a + 1 + j)) (n - (a + 1))) a), nI a, τ')) n rfl (by omega) (fun rec a ha => ?_) (fun rec => ?_)
    · have q1 := zsum_le (f := fun a => n - (a + 1)) (B := 8) (n := a) (fun p hp => by omega)
      have q2 := zsum_le (f := fun a => zsum (fun j => znear d D a (a + 1 + j)) (n - (a + 1))) (B := 8) (n := a) (fun p hp => by
        have := zsum_le (f := fun j => znear d D p (p + 1 + j)) (B := 1) (n := n - (p + 1)) (fun q _ => by unfold znear; split <;> omega)
        omega)
      have := oddsM_in f3.1 f4 hn h8 hD (nI k) ha (A := zsum (fun a => n - (a + 1)) a) (M := zsum (fun a => zsum (fun j => znear d D a (a + 1 + j)) (n - (a + 1))) a) (by omega) (by omega) (fun v3 v4 v5 σ => rec (v3, v4, v5, σ))
      unfold B_X6_odds_42
      simp (disch := omega) only [↓reduceIte, ↓znm, ↓zbd_some, ↓zbv_some, ↓zga_in, ↓zgs_in, ↓zgr_in, zga_in, zgs_in, zgr_in, zgz_n0, zgz_n1, zlit, nI_add, pk_mul, pk_sub, znI_or, znI_and, znI_df, zon_ok, zbt_ok, zlt_t, zlt_f, zle_t, zle_f, zeq_f, f3.1, this, zsum]
    · unfold B_X6_odds_42
      rw [hall, ht]
      have e := euclid_ok (τ := τ') (u := zsum (fun p => zsum (znear d D p) p) n) (w := n * (n - 1) / 2) (k := k) hl (by omega) (by omega) hk
      rw [← nI_l (n := zsum (fun p => zsum (znear d D p) p) n) (by omega), ← nI_l (n := n * (n - 1) / 2) (by omega)] at e
      simp (disch := omega) only [↓reduceIte, ↓znm, ↓zbd_some, ↓zbv_some, ↓zga_in, ↓zgs_in, ↓zgr_in, zga_in, zgs_in, zgr_in, zgz_n0, zgz_n1, zlit, nI_add, pk_mul, pk_sub, znI_or, znI_and, znI_df, zon_ok, zbt_ok, zlt_t, zlt_f, zle_t, zle_f, zeq_f, f3.1, ↓zbd_of e]
