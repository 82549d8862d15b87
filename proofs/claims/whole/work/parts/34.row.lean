/-! PURE: the order in which leaves come off; row, number -/
theorem zpc_df : ∀ m, m < 256 → ∀ p, p < 8 → m.testBit p = true → zpc (zdf m (2 ^ p)) + 1 = zpc m := by decide +kernel
theorem zpc_full : ∀ n, n ≤ 8 → zpc (2 ^ n - 1) = n := by decide
theorem zpc_two : ∀ m, m < 256 → 2 ≤ zpc m → ∃ a, a < 8 ∧ ∃ b, b < 8 ∧ a ≠ b ∧ m.testBit a = true ∧ m.testBit b = true := by decide +kernel
theorem zpc_2p : ∀ k, k < 8 → zpc (2 ^ k) = 1 ∧ zlo (2 ^ k) = k := by decide
theorem zsingle {m q : Nat} (h : ∀ t, m.testBit t = true ↔ t = q) : m = 2 ^ q := by
  apply zfun_ext
  intro i
  rw [h i, zbit2]
theorem zfull_bit {n : Nat} (q : Nat) : (2 ^ n - 1).testBit q = true ↔ q < n := by
  rw [Nat.testBit_two_pow_sub_one]
  simp
theorem zand_iff (a b i : Nat) : (a &&& b).testBit i = true ↔ a.testBit i = true ∧ b.testBit i = true := by
  rw [Nat.testBit_and, Bool.and_eq_true]
/-- before step k: a tree still, of n - k posts -/
theorem zelim {n : Nat} {tw : Nat → Nat} {d : Nat → Nat → Nat} (hn : n ≤ 8) (hT : zTR (fun p => p < n) tw d) : ∀ k, k ≤ n - 1 → zpc (zL tw n k) = n - k ∧ zTR (fun q => (zL tw n k).testBit q = true) (fun q => tw q &&& zL tw n k) d ∧ (∀ q, (zL tw n k).testBit q = true → q < n) ∧ (k < n - 1 → (zL tw n k).testBit (ztk tw n k) = true ∧ (∀ r, (tw (ztk tw n k) &&& zL tw n k).testBit r = true ↔ r = zhk tw n k)) := by
  -- the leaf, from the tree
  have hleaf : ∀ k, k < n - 1 → zpc (zL tw n k) = n - k → zTR (fun q => (zL tw n k).testBit q = true) (fun q => tw q &&& zL tw n k) d → (∀ q, (zL tw n k).testBit q = true → q < n) → (zL tw n k).testBit (ztk tw n k) = true ∧ (∀ r, (tw (ztk tw n k) &&& zL tw n k).testBit r = true ↔ r = zhk tw n k) := by
    intro k hk hpc hTk hb
    have hL := zL_lt tw hn k
    obtain ⟨a, a1, b, b1, hab, a2, b2⟩ := zpc_two _ hL (by omega)
    obtain ⟨p, q, p1, p2⟩ := hTk.leaf a2 b2 hab
    have hpq : tw p &&& zL tw n k = 2 ^ q := zsingle p2
    have hqL : (zL tw n k).testBit q = true := ((zand_iff _ _ _).mp ((p2 q).mpr rfl)).2
    have hq8 : q < 8 := by have := hb q hqL; omega
    rcases zfirst (fun i => (zL tw n k).testBit i = true ∧ zpc (tw i &&& zL tw n k) = 1) n with ⟨e, e1, e2, e3⟩ | hno
    · have he : ztk tw n k = e := zfl_first tw e1 e2 e3
      have hw := zand_lt (a := tw e) hL
      have h1 := zpc_one _ hw e2.2
      have hh : zhk tw n k = zlo (tw e &&& zL tw n k) := by unfold zhk; rw [he]
      rw [he, hh]
      refine ⟨e2.1, fun r => ?_⟩
      rw [h1, zbit2]
      have : zlo (2 ^ zlo (tw e &&& zL tw n k)) = zlo (tw e &&& zL tw n k) := (zpc_2p _ (zlo_lt _ hw)).2
      rw [this]
    · exact absurd ⟨p1, by rw [hpq]; exact (zpc_2p q hq8).1⟩ (hno p (hb p p1))
  intro k
  induction k with
  | zero =>
    intro hk
    have h0 : zpc (zL tw n 0) = n - 0 := zpc_full n hn
    have h1 : zTR (fun q => (zL tw n 0).testBit q = true) (fun q => tw q &&& zL tw n 0) d := by
      have hb : ∀ q, (zL tw n 0).testBit q = true ↔ q < n := fun q => zfull_bit q
      obtain ⟨t1, t2, t3, t4, t5, t6⟩ := hT
      have ha : ∀ p q, p < n → ((tw p &&& zL tw n 0).testBit q = true ↔ (tw p).testBit q = true) := fun p q hp => by
        rw [zand_iff]
        exact ⟨fun h => h.1, fun h => ⟨h, (hb q).mpr (t2 p q hp h).1⟩⟩
      refine ⟨fun p hp => t1 p ((hb p).mp hp), fun p q hp hq => ?_, fun p hp => t3 p ((hb p).mp hp), fun p q hp hq => t4 p q ((hb p).mp hp) ((hb q).mp hq), fun r p q hr hp hq => t5 r p q ((hb r).mp hr) ((hb p).mp hp) ((ha p q ((hb p).mp hp)).mp hq), fun r p hr hp hne => ?_⟩
      · have hp := (hb p).mp hp
        obtain ⟨c1, c2, c3⟩ := t2 p q hp ((ha p q hp).mp hq)
        exact ⟨(hb q).mpr c1, (ha q p c1).mpr c2, c3⟩
      · have hr := (hb r).mp hr
        have hp := (hb p).mp hp
        obtain ⟨q, q1, q2, q3⟩ := t6 r p hr hp hne
        exact ⟨q, (ha p q hp).mpr q1, q2, fun q' h1 h2 => q3 q' ((ha p q' hp).mp h1) h2⟩
    have h2 : ∀ q, (zL tw n 0).testBit q = true → q < n := fun q hq => (zfull_bit q).mp hq
    exact ⟨h0, h1, h2, fun hk => hleaf 0 hk h0 h1 h2⟩
  | succ k ih =>
    intro hk
    obtain ⟨i1, i2, i3, i4⟩ := ih (by omega)
    obtain ⟨l1, l2⟩ := i4 (by omega)
    have hL := zL_lt tw hn k
    have ht8 : ztk tw n k < 8 := by have := i3 _ l1; omega
    have hb : ∀ q, (zL tw n (k + 1)).testBit q = true ↔ (zL tw n k).testBit q = true ∧ q ≠ ztk tw n k := fun q => by
      rw [zL_s, zdf_iff, zbit2]
    have h0 : zpc (zL tw n (k + 1)) = n - (k + 1) := by
      have := zpc_df _ hL _ ht8 l1
      rw [zL_s]
      omega
    have h1 : zTR (fun q => (zL tw n (k + 1)).testBit q = true) (fun q => tw q &&& zL tw n (k + 1)) d := by
      refine i2.detach (p := ztk tw n k) (w := zhk tw n k) l1 l2 hb (fun q r hq => ?_)
      show (tw q &&& zL tw n (k + 1)).testBit r = true ↔ (tw q &&& zL tw n k).testBit r = true ∧ r ≠ ztk tw n k
      rw [zand_iff, zand_iff, hb r]
      constructor
      · rintro ⟨c1, c2, c3⟩; exact ⟨⟨c1, c2⟩, c3⟩
      · rintro ⟨⟨c1, c2⟩, c3⟩; exact ⟨c1, c2, c3⟩
    have h2 : ∀ q, (zL tw n (k + 1)).testBit q = true → q < n := fun q hq => i3 q ((hb q).mp hq).1
    exact ⟨h0, h1, h2, fun hk => hleaf (k + 1) hk h0 h1 h2⟩
/-- less and rowNow, after k steps -/
def zls (τ : zSt) (n : Nat) (tw : Nat → Nat) (k : Nat) : zSt := fun c y => if c = 12 ∧ y < n then nI (if (zL tw n k).testBit y = true then tw y &&& zL tw n k else 0) else if c = 11 ∧ y < k then nI (zhk tw n y) else τ c y
theorem zls_c {τ : zSt} {n : Nat} {tw : Nat → Nat} {k c : Nat} (h1 : c ≠ 11) (h2 : c ≠ 12) : zls τ n tw k c = τ c := by
  funext y
  unfold zls
  rw [if_neg (by omega), if_neg (by omega)]
theorem findRow_in {τ : zSt} {n : Nat} {kd ld tw : Nat → Nat} {d : Nat → Nat → Nat} (hV : zVM τ n kd ld tw) (hO : zOK n kd ld tw) (hT : zTR (fun p => p < n) tw d) {k : Nat} (hk : k < n - 2) (K30 : Int32 → zSt → Option zSt) : L_X6_findRow_42 K30 (nI k) (nI 0) (zls τ n tw k) = K30 (nI (k + 1)) (zls τ n tw (k + 1)) := by
  have hn := hO.1
  obtain ⟨i1, i2, i3, i4⟩ := zelim hn hT k (by omega)
  obtain ⟨l1, l2⟩ := i4 (by omega)
  have hL := zL_lt tw hn k
  have htn : ztk tw n k < n := i3 _ l1
  have hsing : tw (ztk tw n k) &&& zL tw n k = 2 ^ zhk tw n k := zsingle l2
  have hh : (zL tw n k).testBit (zhk tw n k) = true := ((zand_iff _ _ _).mp ((l2 _).mpr rfl)).2
  have hhn : zhk tw n k < n := i3 _ hh
  have hth : ztk tw n k ≠ zhk tw n k := fun e => (i2.2.1 (ztk tw n k) (zhk tw n k) l1 ((l2 _).mpr rfl)).2.2 e
  have hp1 : zpc (tw (ztk tw n k) &&& zL tw n k) = 1 := by rw [hsing]; exact (zpc_2p _ (by omega)).1
  have hlo : zlo (2 ^ zhk tw n k) = zhk tw n k := (zpc_2p _ (by omega)).2
  have at12 : ∀ q, q < n → zls τ n tw k 12 q = nI (if (zL tw n k).testBit q = true then tw q &&& zL tw n k else 0) := fun q hq => by
    unfold zls
    rw [if_pos ⟨rfl, hq⟩]
  have bnd : ∀ q, (if (zL tw n k).testBit q = true then tw q &&& zL tw n k else 0) < 256 := fun q => by
    split
    · exact zand_lt hL
    · decide
  have hbefore : ∀ i, i < ztk tw n k → ¬ ((zL tw n k).testBit i = true ∧ zpc (tw i &&& zL tw n k) = 1) := by
    intro i hi hc
    rcases zfirst (fun i => (zL tw n k).testBit i = true ∧ zpc (tw i &&& zL tw n k) = 1) n with ⟨e, e1, e2, e3⟩ | hno
    · have he : ztk tw n k = e := zfl_first tw e1 e2 e3
      exact e3 i (by omega) hc
    · exact hno i (by omega) hc
  unfold L_X6_findRow_42
  refine zloop_for (fun p => (nI k, nI p, zls τ n tw k)) (ztk tw n k) rfl (by omega) (fun rec p hp => ?_) (fun rec => ?_)
  · have hne := hbefore p hp
    have hpc : ¬ zpc (if (zL tw n k).testBit p = true then tw p &&& zL tw n k else 0) = 1 := by
      by_cases c : (zL tw n k).testBit p = true
      · rw [if_pos c]; exact fun q => hne ⟨c, q⟩
      · rw [if_neg c, zpc_0]; omega
    have h8 := zpc_le (if (zL tw n k).testBit p = true then tw p &&& zL tw n k else 0)
    have e1 := at12 p (by omega)
    have e2 := size_ok (bnd p) (zls τ n tw k)
    unfold B_X6_findRow_42
    generalize (if (zL tw n k).testBit p = true then tw p &&& zL tw n k else 0) = m at *
    simp (disch := omega) only [↓reduceIte, ↓znm, ↓zbd_some, ↓zbv_some, ↓zga_in, ↓zgs_in, ↓zgr_in, zga_in, zgs_in, zgr_in, zgz_n0, zgz_n1, zlit, nI_add, pk_mul, pk_sub, znI_or, znI_and, znI_df, zon_ok, zbt_ok, zlt_t, zlt_f, zle_t, zle_f, zeq_f, e1, ↓zbd_of e2, e2, hpc]
  · have e1 := at12 _ htn
    rw [if_pos l1, hsing] at e1
    have e2 := size_ok (m := 2 ^ zhk tw n k) (z2p (by omega)) (zls τ n tw k)
    rw [← hsing, hp1, hsing] at e2
    have e3 := leastM_ok (m := 2 ^ zhk tw n k) (z2p (by omega)) (by have := Nat.two_pow_pos (zhk tw n k); omega) (zls τ n tw k)
    rw [hlo] at e3
    obtain ⟨s1, hs1⟩ : ∃ s1, s1 = zsu (zls τ n tw k) 11 (upd (zls τ n tw k 11) k (nI (zhk tw n k))) := ⟨_, rfl⟩
    have f1 : s1 11 k = nI (zhk tw n k) := by rw [hs1, zput_at, if_pos ⟨rfl, rfl⟩]
    have f2 : s1 12 (zhk tw n k) = nI (tw (zhk tw n k) &&& zL tw n k) := by
      rw [hs1, zsu_ne (by decide), at12 _ hhn, if_pos hh]
    obtain ⟨s2, hs2⟩ : ∃ s2, s2 = zsu s1 12 (upd (s1 12) (zhk tw n k) (nI (zdf (tw (zhk tw n k) &&& zL tw n k) (2 ^ ztk tw n k)))) := ⟨_, rfl⟩
    have f3 : zsu s2 12 (upd (s2 12) (ztk tw n k) (nI 0)) = zls τ n tw (k + 1) := by
      funext c y
      rw [zput_at, hs2, zput_at, hs1, zput_at]
      have hbs : ∀ q, (zL tw n (k + 1)).testBit q = true ↔ (zL tw n k).testBit q = true ∧ q ≠ ztk tw n k := fun q => by
        rw [zL_s, zdf_iff, zbit2]
      by_cases c1 : c = 12 ∧ y = ztk tw n k
      · rw [if_pos c1]
        unfold zls
        rw [if_pos ⟨c1.1, by omega⟩, if_neg (fun q => ((hbs y).mp q).2 c1.2)]
      · rw [if_neg c1]
        by_cases c2 : c = 12 ∧ y = zhk tw n k
        · rw [if_pos c2]
          unfold zls
          rw [if_pos ⟨c2.1, by omega⟩, if_pos ((hbs y).mpr ⟨by rw [c2.2]; exact hh, fun e => c1 ⟨c2.1, e⟩⟩), c2.2]
          congr 1
          apply zfun_ext
          intro i
          rw [zdf_iff, zand_iff, zand_iff, hbs i, zbit2]
          constructor
          · rintro ⟨⟨a1, a2⟩, a3⟩; exact ⟨a1, a2, a3⟩
          · rintro ⟨a1, a2, a3⟩; exact ⟨⟨a1, a2⟩, a3⟩
        · rw [if_neg c2]
          by_cases c3 : c = 11 ∧ y = k
          · rw [if_pos c3]
            unfold zls
            rw [if_neg (by omega), if_pos ⟨c3.1, by omega⟩, c3.2]
          · rw [if_neg c3]
            unfold zls
            by_cases c4 : c = 12 ∧ y < n
            · rw [if_pos c4, if_pos c4]
              congr 1
              by_cases b : (zL tw n k).testBit y = true
              · rw [if_pos b, if_pos ((hbs y).mpr ⟨b, fun e => c1 ⟨c4.1, e⟩⟩)]
                apply zfun_ext
                intro i
                rw [zand_iff, zand_iff, hbs i]
                constructor
                · rintro ⟨a1, a2⟩
                  refine ⟨a1, a2, fun e => ?_⟩
                  rw [e] at a1
                  have := (i2.2.1 y (ztk tw n k) b ((zand_iff _ _ _).mpr ⟨a1, l1⟩)).2.1
                  exact c2 ⟨c4.1, (l2 y).mp this⟩
                · rintro ⟨a1, a2, -⟩; exact ⟨a1, a2⟩
              · rw [if_neg b, if_neg (fun q => b ((hbs y).mp q).1)]
            · rw [if_neg c4, if_neg c4]
              by_cases c5 : c = 11 ∧ y < k
              · rw [if_pos c5, if_pos (by omega)]
              · rw [if_neg c5, if_neg (by omega)]
    unfold B_X6_findRow_42
    simp (disch := omega) only [↓reduceIte, ↓znm, ↓zbd_some, ↓zbv_some, ↓zga_in, ↓zgs_in, ↓zgr_in, zga_in, zgs_in, zgr_in, zgz_n0, zgz_n1, zlit, nI_add, pk_mul, pk_sub, znI_or, znI_and, znI_df, zon_ok, zbt_ok, zlt_t, zlt_f, zle_t, zle_f, zeq_f, e1, ↓zbd_of e2, ↓zbd_of e3, ← hs1, f1, f2, ← hs2, f3]
theorem findRow_ok {τ : zSt} {n : Nat} {kd ld tw : Nat → Nat} {d : Nat → Nat → Nat} (hV : zVM τ n kd ld tw) (hO : zOK n kd ld tw) (hT : zTR (fun p => p < n) tw d) (h2 : 2 ≤ n) : M_X6_findRow τ = some (zls τ n tw (n - 2)) := by
  have hn := hO.1
  unfold M_X6_findRow L_X6_findRow_2
  refine zloop_for (fun i => (nI i, fun c y => if c = 12 ∧ y < i then nI (tw y) else τ c y)) n ?_ (by omega) (fun rec i hi => ?_) (fun rec => ?_)
  · have : (fun (c y : Nat) => if c = 12 ∧ y < 0 then nI (tw y) else τ c y) = τ := by
      funext c y
      rw [if_neg (by omega)]
    rw [this]; rfl
  · have e0 : (fun (c y : Nat) => if c = 12 ∧ y < i then nI (tw y) else τ c y) 0 5 = nI n := by
      show (if 0 = 12 ∧ 5 < i then nI (tw 5) else τ 0 5) = _
      rw [if_neg (by omega)]; exact hV.1
    have e1 : (fun (c y : Nat) => if c = 12 ∧ y < i then nI (tw y) else τ c y) 4 i = nI (tw i) := by
      show (if 4 = 12 ∧ i < i then nI (tw i) else τ 4 i) = _
      rw [if_neg (by omega)]; exact (hV.2 i hi).2.2
    obtain ⟨s, hs⟩ : ∃ s : zSt, s = (fun (c y : Nat) => if c = 12 ∧ y < i then nI (tw y) else τ c y) := ⟨_, rfl⟩
    have e2 : zsu s 12 (upd (s 12) i (nI (tw i))) = (fun (c y : Nat) => if c = 12 ∧ y < i + 1 then nI (tw y) else τ c y) := by
      funext c y
      rw [zput_at, hs]
      by_cases c1 : c = 12 ∧ y = i
      · rw [if_pos c1, if_pos (by omega), c1.2]
      · rw [if_neg c1]
        show (if c = 12 ∧ y < i then nI (tw y) else τ c y) = _
        by_cases c2 : c = 12 ∧ y < i
        · rw [if_pos c2, if_pos (by omega)]
        · rw [if_neg c2, if_neg (by omega)]
    rw [← hs] at e0 e1 ⊢
    unfold B_X6_findRow_2
    simp (disch := omega) only [↓reduceIte, ↓znm, ↓zbd_some, ↓zbv_some, ↓zga_in, ↓zgs_in, ↓zgr_in, zga_in, zgs_in, zgr_in, zgz_n0, zgz_n1, zlit, nI_add, pk_mul, pk_sub, znI_or, znI_and, znI_df, zon_ok, zbt_ok, zlt_t, zlt_f, zle_t, zle_f, zeq_f, e0, e1, e2]
  · have e0 : (fun (c y : Nat) => if c = 12 ∧ y < n then nI (tw y) else τ c y) = zls τ n tw 0 := by
      funext c y
      unfold zls
      by_cases c1 : c = 12 ∧ y < n
      · rw [if_pos c1, if_pos c1, if_pos (show (zL tw n 0).testBit y = true from (zfull_bit y).mpr c1.2)]
        congr 1
        apply zfun_ext
        intro i
        rw [zand_iff]
        exact ⟨fun h => ⟨h, show (zL tw n 0).testBit i = true from (zfull_bit i).mpr (hT.2.1 y i c1.2 h).1⟩, fun h => h.1⟩
      · rw [if_neg c1, if_neg c1, if_neg (by omega)]
    rw [e0]
    have f0 : ∀ k, zls τ n tw k 0 5 = nI n := fun k => by rw [zls_c (by decide) (by decide)]; exact hV.1
    unfold B_X6_findRow_2
    simp (disch := omega) only [↓reduceIte, ↓znm, ↓zbd_some, ↓zbv_some, ↓zga_in, ↓zgs_in, ↓zgr_in, zga_in, zgs_in, zgr_in, zgz_n0, zgz_n1, zlit, nI_add, pk_mul, pk_sub, znI_or, znI_and, znI_df, zon_ok, zbt_ok, zlt_t, zlt_f, zle_t, zle_f, zeq_f, f0]
    unfold L_X6_findRow_30
    refine zloop_for (fun k => (nI k, zls τ n tw k)) (n - 2) rfl (by omega) (fun rec k hk => ?_) (fun rec => ?_)
    · have := findRow_in hV hO hT hk (fun v1 σ => rec (v1, σ))
      unfold B_X6_findRow_30
      simp (disch := omega) only [↓reduceIte, ↓znm, ↓zbd_some, ↓zbv_some, ↓zga_in, ↓zgs_in, ↓zgr_in, zga_in, zgs_in, zgr_in, zgz_n0, zgz_n1, zlit, nI_add, pk_mul, pk_sub, znI_or, znI_and, znI_df, zon_ok, zbt_ok, zlt_t, zlt_f, zle_t, zle_f, zeq_f, f0, this]
    · unfold B_X6_findRow_30
      simp (disch := omega) only [↓reduceIte, ↓znm, ↓zbd_some, ↓zbv_some, ↓zga_in, ↓zgs_in, ↓zgr_in, zga_in, zgs_in, zgr_in, zgz_n0, zgz_n1, zlit, nI_add, pk_mul, pk_sub, znI_or, znI_and, znI_df, zon_ok, zbt_ok, zlt_t, zlt_f, zle_t, zle_f, zeq_f, f0]
theorem zRel.sp {σ τ : zSt} (h : zRel σ τ) (n : Nat) (tw : Nat → Nat) (i : Nat) : zRel (zsp σ 10 n tw i) τ := h.eq ⟨fun c _ _ => zsp_c (by omega) (by omega), fun c _ _ => zsp_c (by omega) (by omega), fun c _ _ => zsp_c (by omega) (by omega)⟩ ⟨by rw [zsp_c (by decide) (by decide)], by rw [zsp_c (by decide) (by decide)], by rw [zsp_c (by decide) (by decide)]⟩ zeqM.rf zeqM0.rf
theorem zRel.ls {σ τ : zSt} (h : zRel σ τ) (n : Nat) (tw : Nat → Nat) (i : Nat) : zRel σ (zls τ n tw i) := h.eq zeqX.rf zeqX0.rf ⟨fun c _ _ => zls_c (by omega) (by omega), fun c _ _ => zls_c (by omega) (by omega), by rw [zls_c (by decide) (by decide)], by rw [zls_c (by decide) (by decide)]⟩ ⟨by rw [zls_c (by decide) (by decide)], by rw [zls_c (by decide) (by decide)], by rw [zls_c (by decide) (by decide)]⟩
theorem sim_row (p1 : Int32) : zSim (M_X5_row p1) (M_X6_row p1) := by
  intro σ τ h
  obtain ⟨⟨n, kd, ld, tw, d, hV, hR⟩, hS, hI, hd⟩ := id h
  obtain ⟨h1, h2, h3, h4, h5, h6⟩ := hV
  have hn := h3.1
  unfold M_X5_row M_X6_row M_X6_within
  rcases zix p1 (n := 6) (by decide) with c | c | ⟨k, hk, rfl⟩
  · refine ⟨-nI 2, σ, τ, ?_, ?_, h⟩
    · simp (disch := omega) only [↓reduceIte, ↓znm, ↓zbd_some, ↓zbv_some, ↓zga_in, ↓zgs_in, ↓zgr_in, zga_in, zgs_in, zgr_in, zgz_n0, zgz_n1, zlit, nI_add, pk_mul, pk_sub, znI_or, znI_and, znI_df, zon_ok, zbt_ok, zlt_t, zlt_f, zle_t, zle_f, zeq_f, zneg_lt c]
    · simp (disch := omega) only [↓reduceIte, ↓znm, ↓zbd_some, ↓zbv_some, ↓zga_in, ↓zgs_in, ↓zgr_in, zga_in, zgs_in, zgr_in, zgz_n0, zgz_n1, zlit, nI_add, pk_mul, pk_sub, znI_or, znI_and, znI_df, zon_ok, zbt_ok, zlt_t, zlt_f, zle_t, zle_f, zeq_f, zneg_lt c]
  · refine ⟨-nI 2, σ, τ, ?_, ?_, h⟩
    · simp (disch := omega) only [↓reduceIte, ↓znm, ↓zbd_some, ↓zbv_some, ↓zga_in, ↓zgs_in, ↓zgr_in, zga_in, zgs_in, zgr_in, zgz_n0, zgz_n1, zlit, nI_add, pk_mul, pk_sub, znI_or, znI_and, znI_df, zon_ok, zbt_ok, zlt_t, zlt_f, zle_t, zle_f, zeq_f, zbig_lt (by decide) c, zbig_le (by decide) c]
    · simp (disch := omega) only [↓reduceIte, ↓znm, ↓zbd_some, ↓zbv_some, ↓zga_in, ↓zgs_in, ↓zgr_in, zga_in, zgs_in, zgr_in, zgz_n0, zgz_n1, zlit, nI_add, pk_mul, pk_sub, znI_or, znI_and, znI_df, zon_ok, zbt_ok, zlt_t, zlt_f, zle_t, zle_f, zeq_f, zbig_lt (by decide) c, zbig_gt (by decide) c]
  by_cases hz : n = 0
  · subst hz
    refine ⟨-nI 3, σ, τ, ?_, ?_, h⟩
    · simp (disch := omega) only [↓reduceIte, ↓znm, ↓zbd_some, ↓zbv_some, ↓zga_in, ↓zgs_in, ↓zgr_in, zga_in, zgs_in, zgr_in, zgz_n0, zgz_n1, zlit, nI_add, pk_mul, pk_sub, znI_or, znI_and, znI_df, zon_ok, zbt_ok, zlt_t, zlt_f, zle_t, zle_f, zeq_f, h1.1]
    · simp (disch := omega) only [↓reduceIte, ↓znm, ↓zbd_some, ↓zbv_some, ↓zga_in, ↓zgs_in, ↓zgr_in, zga_in, zgs_in, zgr_in, zgz_n0, zgz_n1, zlit, nI_add, pk_mul, pk_sub, znI_or, znI_and, znI_df, zon_ok, zbt_ok, zlt_t, zlt_f, zle_t, zle_f, zeq_f, h2.1]
  have hn2 : 2 ≤ n := h5.resolve_left hz
  have fr := findRow_ok h2 h3 h6 hn2
  have f0 : zls τ n tw (n - 2) 0 5 = nI n := by rw [zls_c (by decide) (by decide)]; exact h2.1
  by_cases hc : k < n - 2
  · have e1 : zls τ n tw (n - 2) 11 k = nI (zhk tw n k) := by
      unfold zls
      rw [if_neg (by omega), if_pos (by omega)]
    have e2 : zsp σ 10 n tw (n - 1) (10 + 6) k = nI (zhk tw n k) := by
      unfold zsp
      rw [if_neg (by omega), if_pos (by omega)]
    refine ⟨nI (zhk tw n k), zsp σ 10 n tw (n - 1), zls τ n tw (n - 2), ?_, ?_, (h.sp n tw _).ls n tw _⟩
    · simp (disch := omega) only [↓reduceIte, ↓znm, ↓zbd_some, ↓zbv_some, ↓zga_in, ↓zgs_in, ↓zgr_in, zga_in, zgs_in, zgr_in, zgz_n0, zgz_n1, zlit, nI_add, pk_mul, pk_sub, znI_or, znI_and, znI_df, zon_ok, zbt_ok, zlt_t, zlt_f, zle_t, zle_f, zeq_f, h1.1, ↓zbv_of (strip_ok h1 h3 hn2), e2]
    · simp (disch := omega) only [↓reduceIte, ↓znm, ↓zbd_some, ↓zbv_some, ↓zga_in, ↓zgs_in, ↓zgr_in, zga_in, zgs_in, zgr_in, zgz_n0, zgz_n1, zlit, nI_add, pk_mul, pk_sub, znI_or, znI_and, znI_df, zon_ok, zbt_ok, zlt_t, zlt_f, zle_t, zle_f, zeq_f, h2.1, ↓zbv_of fr, f0, e1]
  · refine ⟨-nI 9, σ, zls τ n tw (n - 2), ?_, ?_, h.ls n tw _⟩
    · simp (disch := omega) only [↓reduceIte, ↓znm, ↓zbd_some, ↓zbv_some, ↓zga_in, ↓zgs_in, ↓zgr_in, zga_in, zgs_in, zgr_in, zgz_n0, zgz_n1, zlit, nI_add, pk_mul, pk_sub, znI_or, znI_and, znI_df, zon_ok, zbt_ok, zlt_t, zlt_f, zle_t, zle_f, zeq_f, h1.1]
    · simp (disch := omega) only [↓reduceIte, ↓znm, ↓zbd_some, ↓zbv_some, ↓zga_in, ↓zgs_in, ↓zgr_in, zga_in, zgs_in, zgr_in, zgz_n0, zgz_n1, zlit, nI_add, pk_mul, pk_sub, znI_or, znI_and, znI_df, zon_ok, zbt_ok, zlt_t, zlt_f, zle_t, zle_f, zeq_f, h2.1, ↓zbv_of fr, f0]
def znum (tw : Nat → Nat) (n : Nat) : Nat → Nat
  | 0 => 0
  | k + 1 => znum tw n k * n + zhk tw n k
theorem numberX_ok {σ : zSt} {b n : Nat} {kd ld tw : Nat → Nat} (hV : zVX σ b n kd ld tw) (hO : zOK n kd ld tw) (h2 : 2 ≤ n) : M_X4_numberOfRow b σ = some (nI (znum tw n (n - 2)), zsp σ b n tw (n - 1)) := by
  have hn := hO.1
  have hV' := hV.sp tw n (n - 1)
  unfold M_X4_numberOfRow
  simp (disch := omega) only [↓reduceIte, ↓znm, ↓zbd_some, ↓zbv_some, ↓zga_in, ↓zgs_in, ↓zgr_in, zga_in, zgs_in, zgr_in, zgz_n0, zgz_n1, zlit, nI_add, pk_mul, pk_sub, znI_or, znI_and, znI_df, zon_ok, zbt_ok, zlt_t, zlt_f, zle_t, zle_f, zeq_f, ↓zbv_of (strip_ok hV hO h2)]
  unfold L_X4_numberOfRow_8
  refine zloop_for (fun i => (nI (znum tw n i), nI i, zsp σ b n tw (n - 1))) (n - 2) rfl (by omega) (fun rec i hi => ?_) (fun rec => ?_)
  · have e2 : zsp σ b n tw (n - 1) (b + 6) i = nI (zhk tw n i) := by
      unfold zsp
      rw [if_neg (by omega), if_pos (by omega)]
    unfold B_X4_numberOfRow_8
    simp (disch := omega) only [↓reduceIte, ↓znm, ↓zbd_some, ↓zbv_some, ↓zga_in, ↓zgs_in, ↓zgr_in, zga_in, zgs_in, zgr_in, zgz_n0, zgz_n1, zlit, nI_add, pk_mul, pk_sub, znI_or, znI_and, znI_df, zon_ok, zbt_ok, zlt_t, zlt_f, zle_t, zle_f, zeq_f, hV'.1, e2, znum]
  · unfold B_X4_numberOfRow_8
    simp (disch := omega) only [↓reduceIte, ↓znm, ↓zbd_some, ↓zbv_some, ↓zga_in, ↓zgs_in, ↓zgr_in, zga_in, zgs_in, zgr_in, zgz_n0, zgz_n1, zlit, nI_add, pk_mul, pk_sub, znI_or, znI_and, znI_df, zon_ok, zbt_ok, zlt_t, zlt_f, zle_t, zle_f, zeq_f, hV'.1]
theorem numberM_ok {τ : zSt} {n : Nat} {kd ld tw : Nat → Nat} {d : Nat → Nat → Nat} (hV : zVM τ n kd ld tw) (hO : zOK n kd ld tw) (hT : zTR (fun p => p < n) tw d) (h2 : 2 ≤ n) : M_X6_numberOf τ = some (nI (znum tw n (n - 2)), zls τ n tw (n - 2)) := by
  have hn := hO.1
  have f0 : zls τ n tw (n - 2) 0 5 = nI n := by rw [zls_c (by decide) (by decide)]; exact hV.1
  unfold M_X6_numberOf
  simp (disch := omega) only [↓reduceIte, ↓znm, ↓zbd_some, ↓zbv_some, ↓zga_in, ↓zgs_in, ↓zgr_in, zga_in, zgs_in, zgr_in, zgz_n0, zgz_n1, zlit, nI_add, pk_mul, pk_sub, znI_or, znI_and, znI_df, zon_ok, zbt_ok, zlt_t, zlt_f, zle_t, zle_f, zeq_f, ↓zbv_of (findRow_ok hV hO hT h2)]
  unfold L_X6_numberOf_8
  refine zloop_for (fun i => (nI (znum tw n i), nI i, zls τ n tw (n - 2))) (n - 2) rfl (by omega) (fun rec i hi => ?_) (fun rec => ?_)
  · have e1 : zls τ n tw (n - 2) 11 i = nI (zhk tw n i) := by
      unfold zls
      rw [if_neg (by omega), if_pos (by omega)]
    unfold B_X6_numberOf_8
    simp (disch := omega) only [↓reduceIte, ↓znm, ↓zbd_some, ↓zbv_some, ↓zga_in, ↓zgs_in, ↓zgr_in, zga_in, zgs_in, zgr_in, zgz_n0, zgz_n1, zlit, nI_add, pk_mul, pk_sub, znI_or, znI_and, znI_df, zon_ok, zbt_ok, zlt_t, zlt_f, zle_t, zle_f, zeq_f, f0, e1, znum]
  · unfold B_X6_numberOf_8
    simp (disch := omega) only [↓reduceIte, ↓znm, ↓zbd_some, ↓zbv_some, ↓zga_in, ↓zgs_in, ↓zgr_in, zga_in, zgs_in, zgr_in, zgz_n0, zgz_n1, zlit, nI_add, pk_mul, pk_sub, znI_or, znI_and, znI_df, zon_ok, zbt_ok, zlt_t, zlt_f, zle_t, zle_f, zeq_f, f0]
theorem sim_number : zSim M_X5_number M_X6_number := by
  intro σ τ h
  obtain ⟨⟨n, kd, ld, tw, d, hV, hR⟩, hS, hI, hd⟩ := id h
  obtain ⟨h1, h2, h3, h4, h5, h6⟩ := hV
  have hn := h3.1
  unfold M_X5_number M_X6_number
  by_cases hz : n = 0
  · subst hz
    refine ⟨-nI 3, σ, τ, ?_, ?_, h⟩
    · simp (disch := omega) only [↓reduceIte, ↓znm, ↓zbd_some, ↓zbv_some, ↓zga_in, ↓zgs_in, ↓zgr_in, zga_in, zgs_in, zgr_in, zgz_n0, zgz_n1, zlit, nI_add, pk_mul, pk_sub, znI_or, znI_and, znI_df, zon_ok, zbt_ok, zlt_t, zlt_f, zle_t, zle_f, zeq_f, h1.1]
    · simp (disch := omega) only [↓reduceIte, ↓znm, ↓zbd_some, ↓zbv_some, ↓zga_in, ↓zgs_in, ↓zgr_in, zga_in, zgs_in, zgr_in, zgz_n0, zgz_n1, zlit, nI_add, pk_mul, pk_sub, znI_or, znI_and, znI_df, zon_ok, zbt_ok, zlt_t, zlt_f, zle_t, zle_f, zeq_f, h2.1]
  have hn2 : 2 ≤ n := h5.resolve_left hz
  refine ⟨nI (znum tw n (n - 2)), zsp σ 10 n tw (n - 1), zls τ n tw (n - 2), ?_, ?_, (h.sp n tw _).ls n tw _⟩
  · simp (disch := omega) only [↓reduceIte, ↓znm, ↓zbd_some, ↓zbv_some, ↓zga_in, ↓zgs_in, ↓zgr_in, zga_in, zgs_in, zgr_in, zgz_n0, zgz_n1, zlit, nI_add, pk_mul, pk_sub, znI_or, znI_and, znI_df, zon_ok, zbt_ok, zlt_t, zlt_f, zle_t, zle_f, zeq_f, h1.1, ↓zbd_of (numberX_ok h1 h3 hn2)]
  · simp (disch := omega) only [↓reduceIte, ↓znm, ↓zbd_some, ↓zbv_some, ↓zga_in, ↓zgs_in, ↓zgr_in, zga_in, zgs_in, zgr_in, zgz_n0, zgz_n1, zlit, nI_add, pk_mul, pk_sub, znI_or, znI_and, znI_df, zon_ok, zbt_ok, zlt_t, zlt_f, zle_t, zle_f, zeq_f, h2.1, ↓zbd_of (numberM_ok h2 h3 h6 hn2)]
