/-! PURE: loners, both sides -/
def zvv (n : Nat) (kd ld : Nat → Nat) (q : Nat) : Int := if q < n then 256 * (zwo kd ld q : Int) - (2 ^ q : Nat) else 0
theorem zvv_b {n : Nat} {kd ld tw : Nat → Nat} (hO : zOK n kd ld tw) (q : Nat) : -5000 ≤ zvv n kd ld q ∧ zvv n kd ld q ≤ 5000 := by
  unfold zvv
  split
  · rename_i h
    have h1 := zwo_le hO h
    have h2 := z2p (k := q) (by have := hO.1; omega)
    generalize 2 ^ q = e at *
    omega
  · omega
theorem zdp_b {tw : Nat → Nat} {n : Nat} {v : Nat → Int} (hv : ∀ q, -5000 ≤ v q ∧ v q ≤ 5000) : ∀ k B, B = 5000 * (2 ^ k : Nat) → ∀ q, (-(B : Int) ≤ (zdp tw n v k).1 q ∧ (zdp tw n v k).1 q ≤ (B : Int)) ∧ (-(B : Int) ≤ (zdp tw n v k).2 q ∧ (zdp tw n v k).2 q ≤ (B : Int)) := by
  intro k
  induction k with
  | zero =>
    intro B hB q
    have := hv q
    show (-(B : Int) ≤ v q ∧ v q ≤ (B : Int)) ∧ (-(B : Int) ≤ 0 ∧ (0 : Int) ≤ (B : Int))
    simp at hB
    omega
  | succ k ih =>
    intro B hB q
    have i1 := ih _ rfl q
    have i2 := ih _ rfl (ztk tw n k)
    rw [Nat.pow_succ] at hB
    generalize 2 ^ k = e at *
    show (_ ≤ (if q = zhk tw n k then _ else _) ∧ (if q = zhk tw n k then _ else _) ≤ _) ∧ (_ ≤ (if q = zhk tw n k then _ else _) ∧ (if q = zhk tw n k then _ else _) ≤ _)
    split
    · split <;> omega
    · omega
theorem zdp_b2 {tw : Nat → Nat} {n : Nat} {v : Nat → Int} (hv : ∀ q, -5000 ≤ v q ∧ v q ≤ 5000) {k : Nat} (hk : k ≤ 7) (q : Nat) : (-2000000 ≤ (zdp tw n v k).1 q ∧ (zdp tw n v k).1 q ≤ 2000000) ∧ (-2000000 ≤ (zdp tw n v k).2 q ∧ (zdp tw n v k).2 q ≤ 2000000) := by
  have h := zdp_b (tw := tw) (n := n) hv k _ rfl q
  have h2 : 2 ^ k ≤ 2 ^ 7 := Nat.pow_le_pow_right (by decide) hk
  generalize 2 ^ k = e at *
  omega
def zdst (σ : zSt) (b n : Nat) (tw : Nat → Nat) (v : Nat → Int) (k : Nat) : zSt := fun c y => if c = b + 7 ∧ y < n then jI ((zdp tw n v k).1 y) else if c = b + 8 ∧ y < n then jI ((zdp tw n v k).2 y) else σ c y
def zdsi (σ : zSt) (b : Nat) (v : Nat → Int) (i : Nat) : zSt := fun c y => if c = b + 7 ∧ y < i then jI (v y) else if c = b + 8 ∧ y < i then jI 0 else σ c y
theorem zdst_c {σ : zSt} {b n : Nat} {tw : Nat → Nat} {v : Nat → Int} {k c : Nat} (h1 : c ≠ b + 7) (h2 : c ≠ b + 8) : zdst σ b n tw v k c = σ c := by
  funext y
  unfold zdst
  rw [if_neg (by omega), if_neg (by omega)]
theorem zdsi_c {σ : zSt} {b : Nat} {v : Nat → Int} {k c : Nat} (h1 : c ≠ b + 7) (h2 : c ≠ b + 8) : zdsi σ b v k c = σ c := by
  funext y
  unfold zdsi
  rw [if_neg (by omega), if_neg (by omega)]
theorem zVX.si {σ : zSt} {b n : Nat} {kd ld tw : Nat → Nat} (h : zVX σ b n kd ld tw) (v : Nat → Int) (i : Nat) : zVX (zdsi σ b v i) b n kd ld tw := by
  refine ⟨by rw [zdsi_c (by omega) (by omega)]; exact h.1, fun p hp => ?_⟩
  rw [zdsi_c (by omega) (by omega), zdsi_c (by omega) (by omega), zdsi_c (by omega) (by omega)]
  exact h.2 p hp
theorem bestApart_loop {σ : zSt} {b n : Nat} {tw : Nat → Nat} {d : Nat → Nat → Nat} (hn : n ≤ 8) (h2 : 2 ≤ n) (hT : zTR (fun p => p < n) tw d) (h0 : σ b 0 = nI n) (ht : ∀ k, k < n - 1 → σ (b + 5) k = nI (ztk tw n k) ∧ σ (b + 6) k = nI (zhk tw n k)) {v : Nat → Int} (hv : ∀ q, -5000 ≤ v q ∧ v q ≤ 5000) : L_X4_bestApart_50 b (nI 0) (nI 0) (zdst σ b n tw v 0) = some (jI (zbest tw n v), zdst σ b n tw v (n - 1)) := by
  have f0 : ∀ k, zdst σ b n tw v k b 0 = nI n := fun k => by rw [zdst_c (by omega) (by omega)]; exact h0
  have f7 : ∀ k q, q < n → zdst σ b n tw v k (b + 7) q = jI ((zdp tw n v k).1 q) := fun k q hq => by
    unfold zdst
    rw [if_pos ⟨rfl, hq⟩]
  have f8 : ∀ k q, q < n → zdst σ b n tw v k (b + 8) q = jI ((zdp tw n v k).2 q) := fun k q hq => by
    unfold zdst
    rw [if_neg (by omega), if_pos ⟨rfl, hq⟩]
  have f5 : ∀ k j, j < n - 1 → zdst σ b n tw v k (b + 5) j = nI (ztk tw n j) := fun k j hj => by
    rw [zdst_c (by omega) (by omega)]; exact (ht j hj).1
  have f6 : ∀ k j, j < n - 1 → zdst σ b n tw v k (b + 6) j = nI (zhk tw n j) := fun k j hj => by
    rw [zdst_c (by omega) (by omega)]; exact (ht j hj).2
  unfold L_X4_bestApart_50
  refine zloop_for (fun k => (nI (if k = 0 then 0 else zhk tw n (k - 1)), nI k, zdst σ b n tw v k)) (n - 1) rfl (by omega) (fun rec k hk => ?_) (fun rec => ?_)
  · obtain ⟨i1, i2, i3, i4⟩ := zelim hn hT k (by omega)
    obtain ⟨l1, l2⟩ := i4 (by omega)
    have hh : (zL tw n k).testBit (zhk tw n k) = true := ((zand_iff _ _ _).mp ((l2 _).mpr rfl)).2
    have htn := i3 _ l1
    have hhn := i3 _ hh
    have hne : ¬ zhk tw n k = ztk tw n k := fun e => (i2.2.1 _ _ l1 ((l2 _).mpr rfl)).2.2 e.symm
    have bt := zdp_b2 (tw := tw) (n := n) hv (k := k) (by omega) (ztk tw n k)
    obtain ⟨s1, hs1⟩ : ∃ s1, s1 = zsu (zdst σ b n tw v k) (b + 7) (upd (zdst σ b n tw v k (b + 7)) (zhk tw n k) (jI ((zdp tw n v k).1 (zhk tw n k) + (zdp tw n v k).2 (ztk tw n k)))) := ⟨_, rfl⟩
    have g8 : ∀ q, q < n → s1 (b + 8) q = jI ((zdp tw n v k).2 q) := fun q hq => by rw [hs1, zsu_ne (by omega)]; exact f8 k q hq
    have g7 : s1 (b + 7) (ztk tw n k) = jI ((zdp tw n v k).1 (ztk tw n k)) := by
      rw [hs1, zput_at, if_neg (fun e => hne e.2.symm)]; exact f7 k _ htn
    have e3 : (if jI ((zdp tw n v k).1 (ztk tw n k)) < jI ((zdp tw n v k).2 (ztk tw n k)) then jI ((zdp tw n v k).2 (ztk tw n k)) else jI ((zdp tw n v k).1 (ztk tw n k))) = jI (if (zdp tw n v k).1 (ztk tw n k) < (zdp tw n v k).2 (ztk tw n k) then (zdp tw n v k).2 (ztk tw n k) else (zdp tw n v k).1 (ztk tw n k)) := by
      simp only [jI_lt bt.1.1 bt.1.2 bt.2.1 bt.2.2]
      split <;> rfl
    have e4 : zsu s1 (b + 8) (upd (s1 (b + 8)) (zhk tw n k) (jI ((zdp tw n v k).2 (zhk tw n k) + (if (zdp tw n v k).1 (ztk tw n k) < (zdp tw n v k).2 (ztk tw n k) then (zdp tw n v k).2 (ztk tw n k) else (zdp tw n v k).1 (ztk tw n k))))) = zdst σ b n tw v (k + 1) := by
      funext c y
      rw [zput_at, hs1, zput_at]
      by_cases c1 : c = b + 8 ∧ y = zhk tw n k
      · rw [if_pos c1]
        unfold zdst
        rw [if_neg (show ¬ (c = b + 7 ∧ y < n) by omega), if_pos (show c = b + 8 ∧ y < n from ⟨c1.1, by omega⟩), c1.2]
        congr 1
        exact (if_pos rfl).symm
      · rw [if_neg c1]
        by_cases c2 : c = b + 7 ∧ y = zhk tw n k
        · rw [if_pos c2]
          unfold zdst
          rw [if_pos ⟨c2.1, by omega⟩, c2.2]
          congr 1
          exact (if_pos rfl).symm
        · rw [if_neg c2]
          unfold zdst
          by_cases c3 : c = b + 7 ∧ y < n
          · rw [if_pos c3, if_pos c3]
            congr 1
            exact (if_neg (fun e => c2 ⟨c3.1, e⟩)).symm
          · rw [if_neg c3, if_neg c3]
            by_cases c4 : c = b + 8 ∧ y < n
            · rw [if_pos c4, if_pos c4]
              congr 1
              exact (if_neg (fun e => c1 ⟨c4.1, e⟩)).symm
            · rw [if_neg c4, if_neg c4]
    have e5 : (if k + 1 = 0 then 0 else zhk tw n (k + 1 - 1)) = zhk tw n k := by
      rw [if_neg (by omega), Nat.add_sub_cancel]
    rw [e5]
    unfold B_X4_bestApart_50
    simp (disch := omega) only [↓reduceIte, ↓znm, ↓zbd_some, ↓zbv_some, ↓zga_in, ↓zgs_in, ↓zgr_in, zga_in, zgs_in, zgr_in, zgz_n0, zgz_n1, zlit, nI_add, pk_mul, pk_sub, znI_or, znI_and, znI_df, zon_ok, zbt_ok, zlt_t, zlt_f, zle_t, zle_f, zeq_f, f0, f5 k k hk, f6 k k hk, f7 k _ hhn, f8 k _ htn, jI_add, ← hs1, g8 _ hhn, g8 _ htn, g7, e3, e4]
  · obtain ⟨a1, a2⟩ := zlast_only hn h2 hT
    have e5 : (if n - 1 = 0 then 0 else zhk tw n (n - 1 - 1)) = zlast tw n := by
      rw [if_neg (by omega)]; rfl
    rw [e5]
    have bt := zdp_b2 (tw := tw) (n := n) hv (k := n - 1) (by omega) (zlast tw n)
    have e3 : (if jI ((zdp tw n v (n - 1)).1 (zlast tw n)) < jI ((zdp tw n v (n - 1)).2 (zlast tw n)) then jI ((zdp tw n v (n - 1)).2 (zlast tw n)) else jI ((zdp tw n v (n - 1)).1 (zlast tw n))) = jI (zbest tw n v) := by
      unfold zbest
      simp only [jI_lt bt.1.1 bt.1.2 bt.2.1 bt.2.2]
      split <;> rfl
    unfold B_X4_bestApart_50
    simp (disch := omega) only [↓reduceIte, ↓znm, ↓zbd_some, ↓zbv_some, ↓zga_in, ↓zgs_in, ↓zgr_in, zga_in, zgs_in, zgr_in, zgz_n0, zgz_n1, zlit, nI_add, pk_mul, pk_sub, znI_or, znI_and, znI_df, zon_ok, zbt_ok, zlt_t, zlt_f, zle_t, zle_f, zeq_f, f0, f7 _ _ a1, f8 _ _ a1, e3]
theorem bestApart_ok {σ : zSt} {b n : Nat} {kd ld tw : Nat → Nat} {d : Nat → Nat → Nat} (hV : zVX σ b n kd ld tw) (hO : zOK n kd ld tw) (hT : zTR (fun p => p < n) tw d) (h2 : 2 ≤ n) : M_X4_bestApart b σ = some (jI (zbest tw n (zvv n kd ld)), zdst (zsp σ b n tw (n - 1)) b n tw (zvv n kd ld) (n - 1)) := by
  have hn := hO.1
  unfold M_X4_bestApart
  simp (disch := omega) only [↓reduceIte, ↓znm, ↓zbd_some, ↓zbv_some, ↓zga_in, ↓zgs_in, ↓zgr_in, zga_in, zgs_in, zgr_in, zgz_n0, zgz_n1, zlit, nI_add, pk_mul, pk_sub, znI_or, znI_and, znI_df, zon_ok, zbt_ok, zlt_t, zlt_f, zle_t, zle_f, zeq_f, ↓zbv_of (strip_ok hV hO h2)]
  have hV1 := hV.sp tw n (n - 1)
  obtain ⟨σ1, hσ1⟩ : ∃ σ1, σ1 = zsp σ b n tw (n - 1) := ⟨_, rfl⟩
  have ht : ∀ k, k < n - 1 → σ1 (b + 5) k = nI (ztk tw n k) ∧ σ1 (b + 6) k = nI (zhk tw n k) := by
    intro k hk
    rw [hσ1]
    unfold zsp
    exact ⟨by rw [if_pos ⟨rfl, hk⟩], by rw [if_neg (by omega), if_pos ⟨rfl, hk⟩]⟩
  rw [← hσ1] at hV1 ⊢
  unfold L_X4_bestApart_6
  refine zloop_for (fun i => (nI i, zdsi σ1 b (zvv n kd ld) i)) n ?_ (by omega) (fun rec i hi => ?_) (fun rec => ?_)
  · have : zdsi σ1 b (zvv n kd ld) 0 = σ1 := by
      funext c y
      unfold zdsi
      rw [if_neg (by omega), if_neg (by omega)]
    rw [this]
  · have hVi := hV1.si (zvv n kd ld) i
    have hw := zwo_le hO hi
    have e1 : nI (256 * zwo kd ld i) - nI (2 ^ i) = jI (zvv n kd ld i) := by
      rw [jI_nat, jI_nat, jI_sub]
      unfold zvv
      rw [if_pos hi]
      congr 1
    have e2 : nI 0 = jI 0 := rfl
    obtain ⟨s1, hs1⟩ : ∃ s1, s1 = zsu (zdsi σ1 b (zvv n kd ld) i) (b + 7) (upd (zdsi σ1 b (zvv n kd ld) i (b + 7)) i (jI (zvv n kd ld i))) := ⟨_, rfl⟩
    have e4 : zsu s1 (b + 8) (upd (s1 (b + 8)) i (nI 0)) = zdsi σ1 b (zvv n kd ld) (i + 1) := by
      funext c y
      rw [zput_at, hs1, zput_at]
      unfold zdsi
      by_cases c1 : c = b + 8 ∧ y = i
      · rw [if_pos c1, if_neg (by omega), if_pos (by omega)]; rfl
      · rw [if_neg c1]
        by_cases c2 : c = b + 7 ∧ y = i
        · rw [if_pos c2, if_pos (by omega), c2.2]
        · rw [if_neg c2]
          by_cases c3 : c = b + 7 ∧ y < i
          · rw [if_pos c3, if_pos (by omega)]
          · rw [if_neg c3, if_neg (show ¬ (c = b + 7 ∧ y < i + 1) by omega)]
            by_cases c4 : c = b + 8 ∧ y < i
            · rw [if_pos c4, if_pos (by omega)]
            · rw [if_neg c4, if_neg (by omega)]
    unfold B_X4_bestApart_6
    simp (disch := omega) only [↓reduceIte, ↓znm, ↓zbd_some, ↓zbv_some, ↓zga_in, ↓zgs_in, ↓zgr_in, zga_in, zgs_in, zgr_in, zgz_n0, zgz_n1, zlit, nI_add, pk_mul, znI_or, znI_and, znI_df, zon_ok, zbt_ok, zlt_t, zlt_f, zle_t, zle_f, zeq_f, hVi.1, ↓zbd_of (worthX_ok hVi hO hi), e1, ← hs1, e4]
  · have hVi := hV1.si (zvv n kd ld) n
    have e0 : zdsi σ1 b (zvv n kd ld) n = zdst σ1 b n tw (zvv n kd ld) 0 := rfl
    unfold B_X4_bestApart_6
    simp (disch := omega) only [↓reduceIte, ↓znm, ↓zbd_some, ↓zbv_some, ↓zga_in, ↓zgs_in, ↓zgr_in, zga_in, zgs_in, zgr_in, zgz_n0, zgz_n1, zlit, nI_add, pk_mul, pk_sub, znI_or, znI_and, znI_df, zon_ok, zbt_ok, zlt_t, zlt_f, zle_t, zle_f, zeq_f, hVi.1]
    rw [e0]
    exact bestApart_loop hn h2 hT hV1.1 ht (zvv_b hO)
/-- all that hang on one of S -/
def znb (tw : Nat → Nat) (S : Nat) : Nat → Nat
  | 0 => 0
  | i + 1 => if S.testBit i = true then znb tw S i ||| tw i else znb tw S i
theorem znb_bit (tw : Nat → Nat) (S q : Nat) : ∀ i, (znb tw S i).testBit q = true ↔ ∃ p, p < i ∧ S.testBit p = true ∧ (tw p).testBit q = true
  | 0 => by
    constructor
    · intro h
      exact absurd h (by unfold znb; simp)
    · rintro ⟨p, h, -⟩
      omega
  | i + 1 => by
    unfold znb
    have ih := znb_bit tw S q i
    by_cases c : S.testBit i = true
    · rw [if_pos c, Nat.testBit_or, Bool.or_eq_true, ih]
      constructor
      · rintro (⟨p, h1, h2⟩ | h)
        · exact ⟨p, by omega, h2⟩
        · exact ⟨i, by omega, c, h⟩
      · rintro ⟨p, h1, h2, h3⟩
        by_cases e : p = i
        · exact Or.inr (e ▸ h3)
        · exact Or.inl ⟨p, by omega, h2, h3⟩
    · rw [if_neg c, ih]
      constructor
      · rintro ⟨p, h1, h2⟩
        exact ⟨p, by omega, h2⟩
      · rintro ⟨p, h1, h2, h3⟩
        by_cases e : p = i
        · exact absurd (e ▸ h2) c
        · exact ⟨p, by omega, h2, h3⟩
theorem znb_lt {n : Nat} {tw : Nat → Nat} (h : ∀ p, p < n → tw p < 256) (S : Nat) : ∀ i, i ≤ n → znb tw S i < 256
  | 0, _ => by unfold znb; decide
  | i + 1, hi => by
    unfold znb
    have ih := znb_lt h S i (by omega)
    split
    · exact Nat.or_lt_two_pow (n := 8) ih (h i (by omega))
    · exact ih
def zW (kd ld : Nat → Nat) (n S : Nat) : Nat := zsum (fun p => if S.testBit p = true then zwo kd ld p else 0) n
theorem zW_0 (kd ld : Nat → Nat) (n : Nat) : zW kd ld n 0 = 0 := by
  unfold zW
  have : ∀ m, zsum (fun p => if (0 : Nat).testBit p = true then zwo kd ld p else 0) m = 0 := by
    intro m
    induction m with
    | zero => rfl
    | succ m ih => unfold zsum; rw [ih]; simp
  exact this n
theorem zW_le {n : Nat} {kd ld tw : Nat → Nat} (hO : zOK n kd ld tw) (S : Nat) : zW kd ld n S ≤ 144 := by
  have h := zsum_le (f := fun p => if S.testBit p = true then zwo kd ld p else 0) (B := 18) (n := n) (fun p hp => by
    show (if S.testBit p = true then zwo kd ld p else 0) ≤ 18
    have := zwo_le hO hp
    split <;> omega)
  have hn := hO.1
  unfold zW
  omega
theorem zmask (M : Nat) : ∀ n, zsum (fun q => if M.testBit q = true then 2 ^ q else 0) n = M % 2 ^ n
  | 0 => by unfold zsum; rw [Nat.pow_zero, Nat.mod_one]
  | n + 1 => by
    unfold zsum
    rw [zmask M n, Nat.mod_pow_succ, Nat.testBit_eq_decide_div_mod_eq]
    rcases Nat.mod_two_eq_zero_or_one (M / 2 ^ n) with e | e <;> simp [e]
theorem zval_0 {n : Nat} {tw kd ld : Nat → Nat} {S : Nat} (hS : S < 2 ^ n) : zval tw n (zvv n kd ld) 0 (fun q => S.testBit q) = 256 * (zW kd ld n S : Int) - (S : Int) := by
  have h : zval tw n (zvv n kd ld) 0 (fun q => S.testBit q) = 256 * (zsum (fun p => if S.testBit p = true then zwo kd ld p else 0) n : Nat) - (zsum (fun q => if S.testBit q = true then 2 ^ q else 0) n : Nat) := by
    unfold zval
    have key : ∀ m, m ≤ n → zsI (fun q => if (zL tw n 0).testBit q = true then (if (fun q => S.testBit q) q = true then (zdp tw n (zvv n kd ld) 0).1 q else (zdp tw n (zvv n kd ld) 0).2 q) else 0) m = 256 * (zsum (fun p => if S.testBit p = true then zwo kd ld p else 0) m : Nat) - (zsum (fun q => if S.testBit q = true then 2 ^ q else 0) m : Nat) := by
      intro m
      induction m with
      | zero => intro _; rfl
      | succ m ih =>
        intro hm
        unfold zsI zsum
        rw [ih (by omega), if_pos (show (zL tw n 0).testBit m = true from (zfull_bit m).mpr (by omega))]
        have e1 : (zdp tw n (zvv n kd ld) 0).1 m = 256 * (zwo kd ld m : Int) - (2 ^ m : Nat) := if_pos (by omega)
        have e2 : (zdp tw n (zvv n kd ld) 0).2 m = 0 := rfl
        rw [e1, e2]
        dsimp only
        generalize 2 ^ m = e
        by_cases c : S.testBit m = true
        · simp only [c, if_true]
          omega
        · simp only [c, if_false, Bool.false_eq_true]
          omega
    exact key n (Nat.le_refl n)
  rw [h, zmask, Nat.mod_eq_of_lt hS]
  rfl
theorem zind_mask {n : Nat} {tw : Nat → Nat} {d : Nat → Nat → Nat} (hT : zTR (fun p => p < n) tw d) (S : Nat) : (znb tw S n &&& S = 0) ↔ zind tw n 0 (fun q => S.testBit q) := by
  have hb : ∀ q, (zL tw n 0).testBit q = true ↔ q < n := fun q => zfull_bit q
  constructor
  · intro h p q hp hq hpq
    rintro ⟨s1, s2⟩
    have : (znb tw S n &&& S).testBit q = true := (zand_iff _ _ _).mpr ⟨(znb_bit tw S q n).mpr ⟨p, (hb p).mp hp, s1, hpq⟩, s2⟩
    rw [h] at this
    simp at this
  · intro h
    apply zfun_ext
    intro q
    constructor
    · intro hq
      exfalso
      obtain ⟨q1, q2⟩ := (zand_iff _ _ _).mp hq
      obtain ⟨p, p1, p2, p3⟩ := (znb_bit tw S q n).mp q1
      exact h p q ((hb p).mpr p1) ((hb q).mpr (hT.2.1 p q p1 p3).1) p3 ⟨p2, q2⟩
    · intro hq
      exact absurd hq (by simp)
/-- the best of the sets below s -/
def zbB (kd ld tw : Nat → Nat) (n : Nat) : Nat → Nat
  | 0 => 0
  | s + 1 => if znb tw s n &&& s = 0 ∧ zW kd ld n (zbB kd ld tw n s) < zW kd ld n s then s else zbB kd ld tw n s
theorem zbB_inv {n : Nat} {kd ld tw : Nat → Nat} : ∀ s, s ≤ 256 → zbB kd ld tw n s ≤ s ∧ (0 < s → zbB kd ld tw n s < s) ∧ znb tw (zbB kd ld tw n s) n &&& zbB kd ld tw n s = 0 ∧ ∀ T, T < s → znb tw T n &&& T = 0 → 256 * zW kd ld n T + zbB kd ld tw n s ≤ 256 * zW kd ld n (zbB kd ld tw n s) + T := by
  intro s
  induction s with
  | zero =>
    intro _
    refine ⟨Nat.le_refl _, fun h => absurd h (Nat.lt_irrefl 0), ?_, fun T h => absurd h (Nat.not_lt_zero _)⟩
    show znb tw 0 n &&& 0 = 0
    exact Nat.and_zero _
  | succ s ih =>
    intro hs
    obtain ⟨i1, i2, i3, i4⟩ := ih (by omega)
    by_cases c : znb tw s n &&& s = 0 ∧ zW kd ld n (zbB kd ld tw n s) < zW kd ld n s
    · have e : zbB kd ld tw n (s + 1) = s := if_pos c
      rw [e]
      refine ⟨by omega, fun _ => by omega, c.1, fun T hT hi => ?_⟩
      by_cases e2 : T = s
      · rw [e2]; exact Nat.le_refl _
      · have := i4 T (by omega) hi
        omega
    · have e : zbB kd ld tw n (s + 1) = zbB kd ld tw n s := if_neg c
      rw [e]
      refine ⟨by omega, fun _ => by omega, i3, fun T hT hi => ?_⟩
      by_cases e2 : T = s
      · subst e2
        have : ¬ zW kd ld n (zbB kd ld tw n T) < zW kd ld n T := fun h => c ⟨hi, h⟩
        omega
      · exact i4 T (by omega) hi
theorem zbest_B {n : Nat} {kd ld tw : Nat → Nat} {d : Nat → Nat → Nat} (hn : n ≤ 8) (h2 : 2 ≤ n) (hT : zTR (fun p => p < n) tw d) : zbest tw n (zvv n kd ld) = 256 * (zW kd ld n (zbB kd ld tw n (2 ^ n)) : Int) - (zbB kd ld tw n (2 ^ n) : Int) := by
  have hp := zp256 hn
  have hp0 := Nat.two_pow_pos n
  obtain ⟨i1, i2, i3, i4⟩ := zbB_inv (kd := kd) (ld := ld) (tw := tw) (n := n) (2 ^ n) hp
  have hB := i2 hp0
  have h1 := zval_le hn h2 hT (zvv n kd ld) (n - 1) 0 (by omega) _ ((zind_mask hT _).mp i3)
  rw [zval_0 hB] at h1
  obtain ⟨S, s1, s2⟩ := zval_ex hn h2 hT (zvv n kd ld) (n - 1) 0 (by omega)
  have hb : ∀ q, (zL tw n 0).testBit q = true ↔ q < n := fun q => zfull_bit q
  have hS : ∀ q, q < n → (zset S n).testBit q = S q := fun q hq => by
    rw [zset_bit]; simp [hq]
  have e1 : zval tw n (zvv n kd ld) 0 (fun q => (zset S n).testBit q) = zval tw n (zvv n kd ld) 0 S := by
    unfold zval
    apply zsI_ext
    intro q hq
    simp only [hS q hq]
  have e2 : zind tw n 0 (fun q => (zset S n).testBit q) := by
    intro p q hp hq hpq
    dsimp only
    rw [hS p ((hb p).mp hp), hS q ((hb q).mp hq)]
    exact s1 p q hp hq hpq
  have h3 := i4 (zset S n) (zset_lt S n) ((zind_mask hT _).mpr e2)
  rw [zval_0 (zset_lt S n)] at e1
  omega
theorem lonersM_ok {τ : zSt} {n : Nat} {kd ld tw : Nat → Nat} (hV : zVM τ n kd ld tw) (hO : zOK n kd ld tw) (p1 : Int32) : L_X6_loners_29 p1 (nI 0) (nI 0) (nI 0) τ = if p1 = nI 0 then some (nI (zW kd ld n (zbB kd ld tw n (2 ^ n))), τ) else some (nI (zbB kd ld tw n (2 ^ n)), τ) := by
  have hn := hO.1
  have h0 := hV.1
  have hp := zp256 hn
  have hp0 := Nat.two_pow_pos n
  unfold L_X6_loners_29
  refine zloop_for (fun s => (nI (zbB kd ld tw n s), nI (zW kd ld n (zbB kd ld tw n s)), nI s, τ)) (2 ^ n) ?_ (by omega) (fun rec s hs => ?_) (fun rec => ?_)
  · have : zW kd ld n (zbB kd ld tw n 0) = 0 := zW_0 kd ld n
    rw [this]; rfl
  · have hws := worthSetM_ok hV hO (S := s) (by omega)
    have hw1 := zW_le hO s
    have hw2 := zW_le hO (zbB kd ld tw n s)
    change M_X6_worthOfSet (nI s) τ = some (nI (zW kd ld n s), τ) at hws
    unfold B_X6_loners_29
    simp (disch := omega) only [↓reduceIte, ↓znm, ↓zbd_some, ↓zbv_some, ↓zga_in, ↓zgs_in, ↓zgr_in, zga_in, zgs_in, zgr_in, zgz_n0, zgz_n1, zlit, nI_add, pk_mul, pk_sub, znI_or, znI_and, znI_df, zon_ok, zbt_ok, zlt_t, zlt_f, zle_t, zle_f, zeq_f, h0]
    unfold L_X6_loners_46
    refine zloop_for (fun i => (nI (zbB kd ld tw n s), nI (zW kd ld n (zbB kd ld tw n s)), nI s, nI (znb tw s i), nI i, τ)) n rfl (by omega) (fun rc i hi => ?_) (fun rc => ?_)
    · obtain ⟨b1, b2, b3⟩ := hV.2 i hi
      unfold B_X6_loners_46 B_X6_loners_78
      by_cases c : s.testBit i = true
      · simp (disch := omega) only [↓reduceIte, ↓znm, ↓zbd_some, ↓zbv_some, ↓zga_in, ↓zgs_in, ↓zgr_in, zga_in, zgs_in, zgr_in, zgz_n0, zgz_n1, zlit, nI_add, pk_mul, pk_sub, znI_or, znI_and, znI_df, zon_ok, zbt_ok, zlt_t, zlt_f, zle_t, zle_f, zeq_f, h0, ↓zbd_of (isOf_ok (m := s) (k := i) (by omega) (by omega) τ), isOf_ok, c, b3, znb]
      · simp (disch := omega) only [↓reduceIte, ↓znm, ↓zbd_some, ↓zbv_some, ↓zga_in, ↓zgs_in, ↓zgr_in, zga_in, zgs_in, zgr_in, zgz_n0, zgz_n1, zlit, nI_add, pk_mul, pk_sub, znI_or, znI_and, znI_df, zon_ok, zbt_ok, zlt_t, zlt_f, zle_t, zle_f, zeq_f, h0, ↓zbd_of (isOf_ok (m := s) (k := i) (by omega) (by omega) τ), isOf_ok, c, znb, Nat.or_zero, Bool.false_eq_true]
    · have hnl := znb_lt (n := n) (fun p hp => (hO.2 p hp).2.2) s n (Nat.le_refl n)
      have hal := zand_lt (a := znb tw s n) (b := s) (by omega)
      unfold B_X6_loners_46 B_X6_loners_115
      by_cases c1 : znb tw s n &&& s = 0
      · by_cases c2 : zW kd ld n (zbB kd ld tw n s) < zW kd ld n s
        · have e : zbB kd ld tw n (s + 1) = s := if_pos ⟨c1, c2⟩
          rw [e]
          simp (disch := omega) only [↓reduceIte, ↓znm, ↓zbd_some, ↓zbv_some, ↓zga_in, ↓zgs_in, ↓zgr_in, zga_in, zgs_in, zgr_in, zgz_n0, zgz_n1, zlit, nI_add, pk_mul, pk_sub, znI_or, znI_and, znI_df, zon_ok, zbt_ok, zlt_t, zlt_f, zle_t, zle_f, zeq_f, h0, c1, ↓zbd_of hws]
        · have e : zbB kd ld tw n (s + 1) = zbB kd ld tw n s := if_neg (fun q => c2 q.2)
          rw [e]
          simp (disch := omega) only [↓reduceIte, ↓znm, ↓zbd_some, ↓zbv_some, ↓zga_in, ↓zgs_in, ↓zgr_in, zga_in, zgs_in, zgr_in, zgz_n0, zgz_n1, zlit, nI_add, pk_mul, pk_sub, znI_or, znI_and, znI_df, zon_ok, zbt_ok, zlt_t, zlt_f, zle_t, zle_f, zeq_f, h0, c1, ↓zbd_of hws]
      · have e : zbB kd ld tw n (s + 1) = zbB kd ld tw n s := if_neg (fun q => c1 q.1)
        rw [e]
        have n1 := zeq_f c1 (by omega) (by omega)
        simp (disch := omega) only [↓reduceIte, ↓znm, ↓zbd_some, ↓zbv_some, ↓zga_in, ↓zgs_in, ↓zgr_in, zga_in, zgs_in, zgr_in, zgz_n0, zgz_n1, zlit, nI_add, pk_mul, pk_sub, znI_or, znI_and, znI_df, zon_ok, zbt_ok, zlt_t, zlt_f, zle_t, zle_f, zeq_f, h0, n1]
  · unfold B_X6_loners_29
    simp (disch := omega) only [↓reduceIte, ↓znm, ↓zbd_some, ↓zbv_some, ↓zga_in, ↓zgs_in, ↓zgr_in, zga_in, zgs_in, zgr_in, zgz_n0, zgz_n1, zlit, nI_add, pk_mul, pk_sub, znI_or, znI_and, znI_df, zon_ok, zbt_ok, zlt_t, zlt_f, zle_t, zle_f, zeq_f, h0]
    rfl
theorem zRel.dst {σ τ : zSt} (h : zRel σ τ) (n : Nat) (tw : Nat → Nat) (v : Nat → Int) (i : Nat) : zRel (zdst σ 10 n tw v i) τ := h.eq ⟨fun c _ _ => zdst_c (by omega) (by omega), fun c _ _ => zdst_c (by omega) (by omega), fun c _ _ => zdst_c (by omega) (by omega)⟩ ⟨by rw [zdst_c (by decide) (by decide)], by rw [zdst_c (by decide) (by decide)], by rw [zdst_c (by decide) (by decide)]⟩ zeqM.rf zeqM0.rf
theorem sim_loners (p1 : Int32) : zSim (M_X5_loners p1) (M_X6_loners p1) := by
  intro σ τ h
  obtain ⟨⟨n, kd, ld, tw, d, hV, hR⟩, hS, hI, hd⟩ := id h
  obtain ⟨h1, h2, h3, h4, h5, h6⟩ := hV
  have hn := h3.1
  unfold M_X5_loners M_X6_loners M_X6_within
  rcases zix p1 (n := 2) (by decide) with c | c | ⟨k, hk, rfl⟩
  · refine ⟨-nI 2, σ, τ, ?_, ?_, h⟩
    · simp (disch := omega) only [↓reduceIte, ↓znm, ↓zbd_some, ↓zbv_some, ↓zga_in, ↓zgs_in, ↓zgr_in, zga_in, zgs_in, zgr_in, zgz_n0, zgz_n1, zlit, nI_add, pk_mul, pk_sub, znI_or, znI_and, znI_df, zon_ok, zbt_ok, zlt_t, zlt_f, zle_t, zle_f, zeq_f, zneg_lt c]
    · simp (disch := omega) only [↓reduceIte, ↓znm, ↓zbd_some, ↓zbv_some, ↓zga_in, ↓zgs_in, ↓zgr_in, zga_in, zgs_in, zgr_in, zgz_n0, zgz_n1, zlit, nI_add, pk_mul, pk_sub, znI_or, znI_and, znI_df, zon_ok, zbt_ok, zlt_t, zlt_f, zle_t, zle_f, zeq_f, zneg_lt c]
  · refine ⟨-nI 2, σ, τ, ?_, ?_, h⟩
    · simp (disch := omega) only [↓reduceIte, ↓znm, ↓zbd_some, ↓zbv_some, ↓zga_in, ↓zgs_in, ↓zgr_in, zga_in, zgs_in, zgr_in, zgz_n0, zgz_n1, zlit, nI_add, pk_mul, pk_sub, znI_or, znI_and, znI_df, zon_ok, zbt_ok, zlt_t, zlt_f, zle_t, zle_f, zeq_f, zbig_lt (by decide) c, zbig_le (by decide) c]
    · simp (disch := omega) only [↓reduceIte, ↓znm, ↓zbd_some, ↓zbv_some, ↓zga_in, ↓zgs_in, ↓zgr_in, zga_in, zgs_in, zgr_in, zgz_n0, zgz_n1, zlit, nI_add, pk_mul, pk_sub, znI_or, znI_and, znI_df, zon_ok, zbt_ok, zlt_t, zlt_f, zle_t, zle_f, zeq_f, zbig_lt (by decide) c, zbig_gt (by decide) c]
  by_cases hz : n = 0
  · subst hz
    refine ⟨-nI 3, σ, τ, ?_, ?_, h⟩
    · simp (disch := omega) only [↓reduceIte, ↓znm, ↓zbd_some, ↓zbv_some, ↓zga_in, ↓zgs_in, ↓zgr_in, zga_in, zgs_in, zgr_in, zgz_n0, zgz_n1, zlit, nI_add, pk_mul, pk_sub, znI_or, znI_and, znI_df, zon_ok, zbt_ok, zlt_t, zlt_f, zle_t, zle_f, zeq_f, h1.1]
    · simp (disch := omega) only [↓reduceIte, ↓znm, ↓zbd_some, ↓zbv_some, ↓zga_in, ↓zgs_in, ↓zgr_in, zga_in, zgs_in, zgr_in, zgz_n0, zgz_n1, zlit, nI_add, pk_mul, pk_sub, znI_or, znI_and, znI_df, zon_ok, zbt_ok, zlt_t, zlt_f, zle_t, zle_f, zeq_f, h2.1]
  have hn2 : 2 ≤ n := h5.resolve_left hz
  have hp0 := Nat.two_pow_pos n
  have hp := zp256 hn
  have hb := bestApart_ok h1 h3 h6 hn2
  rw [zbest_B hn hn2 h6] at hb
  obtain ⟨i1, i2, i3, i4⟩ := zbB_inv (kd := kd) (ld := ld) (tw := tw) (n := n) (2 ^ n) hp
  have hB := i2 hp0
  have hW := zW_le h3 (zbB kd ld tw n (2 ^ n))
  have hm := lonersM_ok h2 h3 (nI k)
  have h0B : zbB kd ld tw n (2 ^ n) ≤ 256 * zW kd ld n (zbB kd ld tw n (2 ^ n)) := by
    have := i4 0 hp0 (Nat.and_zero _)
    rw [zW_0] at this
    omega
  generalize zbB kd ld tw n (2 ^ n) = B at *
  generalize zW kd ld n B = W at *
  have e1 : jI (256 * (W : Int) - (B : Int)) + nI 256 = nI (256 * W - B + 256) := by
    rw [jI_nat, jI_nat, jI_add]
    congr 1
    omega
  have e2 : (256 * W - B + 256 - 1) / 256 = W := by omega
  have e3 : nI (W * 256) - jI (256 * (W : Int) - (B : Int)) = nI B := by
    rw [jI_nat, jI_nat, jI_sub]
    congr 1
    omega
  rcases (by omega : k = 0 ∨ k = 1) with rfl | rfl
  · refine ⟨nI W, _, τ, ?_, ?_, (h.sp n tw (n - 1)).dst n tw (zvv n kd ld) (n - 1)⟩
    · simp (disch := omega) only [↓reduceIte, ↓znm, ↓zbd_some, ↓zbv_some, ↓zga_in, ↓zgs_in, ↓zgr_in, zga_in, zgs_in, zgr_in, zgz_n0, zgz_n1, zlit, nI_add, pk_mul, pk_sub, znI_or, znI_and, znI_df, zon_ok, zbt_ok, zlt_t, zlt_f, zle_t, zle_f, zeq_f, h1.1, ↓zbd_of hb, e1, zdv_n, e2]
    · simp (disch := omega) only [↓reduceIte, ↓znm, ↓zbd_some, ↓zbv_some, ↓zga_in, ↓zgs_in, ↓zgr_in, zga_in, zgs_in, zgr_in, zgz_n0, zgz_n1, zlit, nI_add, pk_mul, pk_sub, znI_or, znI_and, znI_df, zon_ok, zbt_ok, zlt_t, zlt_f, zle_t, zle_f, zeq_f, h2.1, hm]
  · refine ⟨nI B, _, τ, ?_, ?_, (h.sp n tw (n - 1)).dst n tw (zvv n kd ld) (n - 1)⟩
    · simp (disch := omega) only [↓reduceIte, ↓znm, ↓zbd_some, ↓zbv_some, ↓zga_in, ↓zgs_in, ↓zgr_in, zga_in, zgs_in, zgr_in, zgz_n0, zgz_n1, zlit, nI_add, pk_mul, pk_sub, znI_or, znI_and, znI_df, zon_ok, zbt_ok, zlt_t, zlt_f, zle_t, zle_f, zeq_f, h1.1, ↓zbd_of hb, e1, zdv_n, e2, e3]
    · simp (disch := omega) only [↓reduceIte, ↓znm, ↓zbd_some, ↓zbv_some, ↓zga_in, ↓zgs_in, ↓zgr_in, zga_in, zgs_in, zgr_in, zgz_n0, zgz_n1, zlit, nI_add, pk_mul, pk_sub, znI_or, znI_and, znI_df, zon_ok, zbt_ok, zlt_t, zlt_f, zle_t, zle_f, zeq_f, h2.1, hm]
