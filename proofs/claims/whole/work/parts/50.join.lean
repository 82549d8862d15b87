/-! PURE: alike: signs from a root -/
theorem znI_shl' (a : Nat) {k : Nat} (h : k < 31) : nI a <<< nI k = nI (2 ^ k * a) := by
  have key : ∀ k, k < 31 → nI k &&& 31 = nI k := by decide +kernel
  have := znI_shl a h
  rw [key k h] at this
  exact this
theorem zand31 : ∀ x, x < 32 → x &&& 31 = x := by decide
theorem zupd_self {f : Nat → Int32} {k : Nat} {x : Int32} (h : f k = x) : upd f k x = f := by
  funext j
  unfold upd
  by_cases e : j = k
  · rw [if_pos e, e, h]
  · rw [if_neg e]
def zEc (L : List Nat) (k : Nat) : Nat := if k = 0 then 0 else (L.take k).count (zgi L (k - 1))
theorem ztake_s {L : List Nat} {k : Nat} (h : k < L.length) : L.take (k + 1) = L.take k ++ [zgi L k] := by
  rw [List.take_succ, zgi_at h]
  rfl
theorem joinX_ok {σ : zSt} {L : List Nat} {T p : Nat} (hL : L.length ≤ 8) (hs : L.Pairwise (fun a b => a ≤ b)) (hv : ∀ y, y ∈ L → zvd y (2 * zpk y) ∧ y < 16384 ∧ zpk y ≤ 8) (hh : zhd σ L) (hT : σ 44 2 = nI T) (hp : p < 8) : ∃ σ', M_X1_join (nI L.length) (nI p) σ = some σ' ∧ σ' 45 p = nI (2 * zar L.reverse) ∧ (∀ q, q ≠ p → σ' 45 q = σ 45 q) ∧ σ' 44 2 = nI (T * zfp L) ∧ ∀ c, c ≠ 44 → c ≠ 45 → σ' c = σ c := by
  obtain ⟨S, hS⟩ : ∃ S : Nat → zSt, ∀ k, S k = zsu σ 44 (upd (σ 44) 2 (nI (T * zfp (L.take k).reverse))) := ⟨_, fun _ => rfl⟩
  have s44 : ∀ k, S k 44 2 = nI (T * zfp (L.take k).reverse) := fun k => by rw [hS, zsu_eq, upd_eq]
  have s46 : ∀ k i, i < L.length → S k 46 i = nI (zgi L i) := fun k i hi => by rw [hS, zsu_ne (by decide)]; exact hh i hi
  refine ⟨zsu (S L.length) 45 (upd (S L.length 45) p (nI (2 * zar L.reverse))), ?_, by rw [zsu_eq, upd_eq], fun q hq => by rw [zsu_eq, upd_ne hq, hS, zsu_ne (by decide)], ?_, fun c h1 h2 => by rw [zsu_ne h2, hS, zsu_ne h1]⟩
  · unfold M_X1_join L_X1_join_8
    refine zloop_for (fun k => (nI (zar (L.take k).reverse), nI (zEc L k), nI k, S k)) L.length ?_ (by omega) (fun rec k hk => ?_) (fun rec => ?_)
    · have : S 0 = σ := by
        rw [hS]
        show zsu σ 44 (upd (σ 44) 2 (nI (T * 1))) = σ
        rw [Nat.mul_one, zupd_self hT, zsu_self]
      rw [this]
      rfl
    · obtain ⟨v1, v2, v3⟩ := hv _ (zgi_mem hk)
      have tk := ztake_s hk
      have trev : (L.take (k + 1)).reverse = zgi L k :: (L.take k).reverse := by rw [tk, List.reverse_append]; rfl
      have e1 := s46 k k hk
      have e2 := bitCount_16 v2 (S (k + 1))
      have e2' := s46 (k + 1) k hk
      have hz : 2 * zpk (zgi L k) < 31 := by omega
      have sh := znI_shl' (zar (L.take k).reverse) hz
      have a31 := zand31 (2 * zpk (zgi L k)) (by omega)
      have hor : 2 ^ (2 * zpk (zgi L k)) * zar (L.take k).reverse ||| zgi L k = zar (L.take (k + 1)).reverse := by
        rw [trev, ← Nat.two_pow_add_eq_or_of_lt v1.2.1]
        rfl
      have hcnt : (L.take k).reverse.count (zgi L k) = (L.take k).count (zgi L k) := (List.reverse_perm _).count_eq _
      have hf : T * zfp (L.take k).reverse * (1 + (L.take k).count (zgi L k)) = T * zfp (L.take (k + 1)).reverse := by
        rw [trev]
        show _ = T * ((1 + (L.take k).reverse.count (zgi L k)) * zfp (L.take k).reverse)
        rw [hcnt, Nat.mul_assoc, Nat.mul_comm (zfp _)]
      have e4 : zsu (S k) 44 (upd (S k 44) 2 (nI (T * zfp (L.take (k + 1)).reverse))) = S (k + 1) := by
        rw [hS, hS, zsu_eq, zsu_su]
        congr 1
        funext j
        unfold upd
        by_cases e : j = 2
        · rw [if_pos e, if_pos e]
        · rw [if_neg e, if_neg e, if_neg e]
      have hE : zEc L (k + 1) = 1 + (L.take k).count (zgi L k) := by
        unfold zEc
        rw [if_neg (by omega), Nat.add_sub_cancel, tk, List.count_append, List.count_singleton_self]
        omega
      have go : ∀ w, w = 1 + (L.take k).count (zgi L k) → B_X1_join_46 (nI L.length) (nI p) (fun v3 v4 v5 σ => rec (v3, v4, v5, σ)) (nI (zar (L.take k).reverse)) (nI k) (nI w) (S k) = rec (nI (zar (L.take (k + 1)).reverse), nI (zEc L (k + 1)), nI (k + 1), S (k + 1)) := by
        intro w hw
        subst hw
        rw [hE]
        unfold B_X1_join_46
        simp (disch := omega) only [↓reduceIte, ↓znm, ↓zbd_some, ↓zbv_some, ↓zga_in, ↓zgs_in, ↓zgr_in, zga_in, zgs_in, zgr_in, zgz_n0, zgz_n1, zlit, nI_add, pk_mul, pk_sub, znI_or, znI_and, znI_df, zon_ok, zbt_ok, zlt_t, zlt_f, zle_t, zle_f, zeq_f, s44, hf, e4, e2', ↓zbd_of e2, a31, sh, hor]
      have hle : (L.take k).count (zgi L k) ≤ 8 := by
        have := List.count_le_length (a := zgi L k) (l := L.take k)
        rw [List.length_take] at this
        omega
      unfold B_X1_join_8 B_X1_join_45
      by_cases c0 : k = 0
      · subst c0
        have := go 1 rfl
        simp (disch := omega) only [↓reduceIte, ↓znm, ↓zbd_some, ↓zbv_some, ↓zga_in, ↓zgs_in, ↓zgr_in, zga_in, zgs_in, zgr_in, zgz_n0, zgz_n1, zlit, nI_add, pk_mul, pk_sub, znI_or, znI_and, znI_df, zon_ok, zbt_ok, zlt_t, zlt_f, zle_t, zle_f, zeq_f, this]
      · have e5 := s46 k (k - 1) (by omega)
        have b1 := (hv _ (zgi_mem (show k - 1 < L.length by omega))).2.1
        by_cases c1 : zgi L k = zgi L (k - 1)
        · have hEk : zEc L k = (L.take k).count (zgi L k) := by
            unfold zEc
            rw [if_neg c0, c1]
          have := go (zEc L k + 1) (by rw [hEk]; omega)
          simp (disch := omega) only [↓reduceIte, ↓znm, ↓zbd_some, ↓zbv_some, ↓zga_in, ↓zgs_in, ↓zgr_in, zga_in, zgs_in, zgr_in, zgz_n0, zgz_n1, zlit, nI_add, pk_mul, pk_sub, znI_or, znI_and, znI_df, zon_ok, zbt_ok, zlt_t, zlt_f, zle_t, zle_f, zeq_f, e1, e5, c1, this]
        · have hz0 : (L.take k).count (zgi L k) = 0 := by
            rw [List.count_eq_zero]
            intro hm
            obtain ⟨i, i1, i2⟩ := zgi_of hm
            rw [List.length_take] at i1
            have e : zgi (L.take k) i = zgi L i := by
              unfold zgi
              rw [List.getElem?_take_of_lt (by omega)]
            rw [e] at i2
            have h1 : zgi L i ≤ zgi L (k - 1) := by
              by_cases c : i = k - 1
              · rw [c]; exact Nat.le_refl _
              · exact zgi_sorted hs (by omega) (by omega)
            have h2 := zgi_sorted hs (show k - 1 < k by omega) hk
            omega
          have := go 1 (by rw [hz0])
          have n1 := zeq_f c1 (by omega) (by omega)
          simp (disch := omega) only [↓reduceIte, ↓znm, ↓zbd_some, ↓zbv_some, ↓zga_in, ↓zgs_in, ↓zgr_in, zga_in, zgs_in, zgr_in, zgz_n0, zgz_n1, zlit, nI_add, pk_mul, pk_sub, znI_or, znI_and, znI_df, zon_ok, zbt_ok, zlt_t, zlt_f, zle_t, zle_f, zeq_f, e1, e5, n1, this]
    · have tl : L.take L.length = L := List.take_length
      rw [tl]
      have sh := znI_shl' (zar L.reverse) (k := 1) (by decide)
      rw [Nat.pow_one] at sh
      unfold B_X1_join_8
      simp (disch := omega) only [↓reduceIte, ↓znm, ↓zbd_some, ↓zbv_some, ↓zga_in, ↓zgs_in, ↓zgr_in, zga_in, zgs_in, zgr_in, zgz_n0, zgz_n1, zlit, nI_add, pk_mul, pk_sub, znI_or, znI_and, znI_df, zon_ok, zbt_ok, zlt_t, zlt_f, zle_t, zle_f, zeq_f, show (1 &&& 31 : Nat) = 1 from rfl, sh]
  · rw [zsu_ne (by decide), s44, List.take_length, zfp_perm (List.reverse_perm L)]
def zprd (f : Nat → Nat) : Nat → Nat
  | 0 => 1
  | i + 1 => zprd f i * f i
theorem zprd_ext {f g : Nat → Nat} : ∀ {n : Nat}, (∀ i, i < n → f i = g i) → zprd f n = zprd g n
  | 0, _ => rfl
  | n + 1, h => by
    unfold zprd
    rw [zprd_ext (fun i hi => h i (by omega)), h n (by omega)]
theorem zprd_upd {f g : Nat → Nat} {p x : Nat} : ∀ {n : Nat}, p < n → (∀ i, i < n → i ≠ p → g i = f i) → g p = f p * x → zprd g n = zprd f n * x
  | 0, h, _, _ => absurd h (Nat.not_lt_zero _)
  | n + 1, h, h1, h2 => by
    unfold zprd
    by_cases e : p = n
    · subst e
      rw [zprd_ext (fun i hi => h1 i (by omega) (by omega)), h2, Nat.mul_assoc]
    · rw [zprd_upd (n := n) (by omega) (fun i hi hne => h1 i (by omega) hne) h2, h1 n (by omega) (fun q => e q.symm), Nat.mul_assoc, Nat.mul_assoc, Nat.mul_comm x]
/-- signs and turns, for the posts of which P holds -/
def zSg (σ s : zSt) (tw : Nat → Nat) (d : Nat → Nat → Nat) (n r : Nat) (P : Nat → Bool) : Prop := (∀ c, c ≠ 44 → c ≠ 45 → c ≠ 46 → s c = σ c) ∧ (∀ q, q < n → P q = true → s 45 q = nI (zKc tw d n r q)) ∧ s 44 2 = nI (zprd (fun q => if P q = true then zfp (zkl tw d n r q) else 1) n)
theorem zSg.ext {σ s : zSt} {tw : Nat → Nat} {d : Nat → Nat → Nat} {n r : Nat} {P Q : Nat → Bool} (h : zSg σ s tw d n r P) (e : ∀ q, q < n → P q = Q q) : zSg σ s tw d n r Q := by
  obtain ⟨h1, h2, h3⟩ := h
  refine ⟨h1, fun q hq hQ => h2 q hq (by rw [e q hq]; exact hQ), ?_⟩
  rw [h3]
  congr 1
  apply zprd_ext
  intro q hq
  rw [e q hq]
theorem signsIn_ok {σ : zSt} {n : Nat} {kd ld tw : Nat → Nat} {d : Nat → Nat → Nat} (hV : zVX σ 10 n kd ld tw) (hO : zOK n kd ld tw) (hA : zAX σ 10 n d) (hT : zTR (fun p => p < n) tw d) {r : Nat} (hr : r < n) {D : Nat} (hD : D < n) (K12 : Int32 → zSt → Option (Int32 × zSt)) (Po : Int32 × zSt → Prop) (hK : ∀ s, zSg σ s tw d n r (fun q => decide (D ≤ d r q)) → ∃ o, K12 (nI D - nI 1) s = some o ∧ Po o) (s : zSt) (hs : zSg σ s tw d n r (fun q => decide (D + 1 ≤ d r q))) : ∃ o, L_X1_signsFrom_19 10 (nI r) K12 (nI D) (nI 0) s = some o ∧ Po o := by
  have hn := hO.1
  have h8 := hT.lt8 hn
  unfold L_X1_signsFrom_19
  refine zloop_ex (I := fun x => ∃ i, i ≤ n ∧ x.1 = nI D ∧ x.2.1 = nI i ∧ zSg σ x.2.2 tw d n r (fun q => decide (D < d r q ∨ (d r q = D ∧ q < i)))) (μ := fun x => n - x.2.1.toNatClampNeg) ?_ zFU _ ⟨0, by omega, rfl, rfl, hs.ext (fun q hq => by rw [decide_eq_decide]; omega)⟩ (by have := zFU_ge; show n - _ < _; omega)
  rintro rec ⟨v3, v4, s⟩ ⟨i, hi, c1, c2, hQ⟩ ih
  dsimp only at c1 c2 hQ ih ⊢
  subst c1 c2
  obtain ⟨q1, q2, q3⟩ := id hQ
  have f0 : s 10 0 = nI n := by rw [q1 10 (by decide) (by decide) (by decide)]; exact hV.1
  by_cases hin : i = n
  · subst hin
    have e5 : nI D + -nI 1 = nI D - nI 1 := (Int32.sub_eq_add_neg _ _).symm
    have e : B_X1_signsFrom_19 10 (nI r) K12 (fun v3 v4 σ => rec (v3, v4, σ)) (nI D) (nI i) s = K12 (nI D - nI 1) s := by
      unfold B_X1_signsFrom_19
      simp (disch := omega) only [↓reduceIte, ↓znm, ↓zbd_some, ↓zbv_some, ↓zga_in, ↓zgs_in, ↓zgr_in, zga_in, zgs_in, zgr_in, zgz_n0, zgz_n1, zlit, nI_add, pk_mul, znI_or, znI_and, znI_df, zon_ok, zbt_ok, zlt_t, zlt_f, zle_t, zle_f, zeq_f, f0, e5]
    rw [e]
    exact hK s (hQ.ext (fun q hq => by rw [decide_eq_decide]; omega))
  have fi : i < n := by omega
  have fa : s (10 + 9 + r) i = nI (d r i) := by rw [q1 _ (by omega) (by omega) (by omega)]; exact hA r hr i fi
  have b1 := h8 r i hr fi
  by_cases hd : d r i = D
  · have hVs : zVX s 10 n kd ld tw := by
      refine ⟨f0, fun p hp => ?_⟩
      rw [q1 (10 + 1) (by decide) (by decide) (by decide), q1 (10 + 2) (by decide) (by decide) (by decide), q1 (10 + 3) (by decide) (by decide) (by decide)]
      exact hV.2 p hp
    have hAs : zAX s 10 n d := fun p hp q hq => by
      rw [q1 _ (by omega) (by omega) (by omega)]; exact hA p hp q hq
    obtain ⟨s1, L, g1, g2, g3, g4, g5⟩ := gather_ok hVs hO hAs hT hr fi (fun q hq hcd => q2 q hq (by
      have := (zcd_n hT hr fi hcd).2.2.2
      rw [decide_eq_true_iff]; omega))
    have hLv : ∀ y, y ∈ L → zvd y (2 * zpk y) ∧ y < 16384 ∧ zpk y ≤ 8 := by
      intro y hy
      have hm := g3.mem_iff.mp hy
      unfold zkl at hm
      obtain ⟨q, m1, rfl⟩ := List.mem_map.mp hm
      obtain ⟨m2, m3⟩ := zcls_mem.mp m1
      have := (zcd_n hT hr fi m3).2.2.2
      obtain ⟨w1, w2⟩ := zKc_vd hn hT hr m2
      exact ⟨w1, zKc_14 hn hT hr m2 (by omega), w2⟩
    have hlen : L.length ≤ 8 := by
      rw [g3.length_eq]
      unfold zkl zcls
      rw [List.length_map]
      have := List.length_filter_le (zcd tw d r i) (List.range n)
      rw [List.length_range] at this
      omega
    obtain ⟨s2, j1, j2, j3, j4, j5⟩ := joinX_ok hlen g2 hLv g4 (by rw [g5 44 (by decide)]; exact q3) (show i < 8 by omega)
    have hKi : 2 * zar L.reverse = zKc tw d n r i := by
      rw [zKc_eq hT hr fi]
      rw [zsorted_eq (g3.trans (List.mergeSort_perm _ _).symm) g2 (zle_sorted _)]
    rw [hKi] at j2
    have e : B_X1_signsFrom_19 10 (nI r) K12 (fun v3 v4 σ => rec (v3, v4, σ)) (nI D) (nI i) s = rec (nI D, nI (i + 1), s2) := by
      unfold B_X1_signsFrom_19 B_X1_signsFrom_55
      simp (disch := omega) only [↓reduceIte, ↓znm, ↓zbd_some, ↓zbv_some, ↓zga_in, ↓zgs_in, ↓zgr_in, zga_in, zgs_in, zgr_in, zgz_n0, zgz_n1, zlit, nI_add, pk_mul, znI_or, znI_and, znI_df, zon_ok, zbt_ok, zlt_t, zlt_f, zle_t, zle_f, zeq_f, f0, fa, hd, ↓zbd_of g1, ↓zbv_of j1]
    rw [e]
    refine ih _ ⟨i + 1, by omega, rfl, rfl, fun c h1 h2 h3 => ?_, fun q hq hP => ?_, ?_⟩ ?_
    · exact (j5 c h1 h2).trans ((g5 c h3).trans (q1 c h1 h2 h3))
    · show s2 45 q = _
      by_cases eq : q = i
      · rw [eq]; exact j2
      · rw [j3 q eq, g5 45 (by decide)]
        refine q2 q hq ?_
        rw [decide_eq_true_iff] at hP ⊢
        omega
    · show s2 44 2 = _
      rw [j4, zfp_perm g3]
      congr 1
      refine (zprd_upd fi (fun q hq hne => ?_) ?_).symm
      · dsimp only
        have : (decide (D < d r q ∨ (d r q = D ∧ q < i + 1)) = true) ↔ (decide (D < d r q ∨ (d r q = D ∧ q < i)) = true) := by
          rw [decide_eq_true_iff, decide_eq_true_iff]
          omega
        by_cases c : decide (D < d r q ∨ (d r q = D ∧ q < i)) = true
        · rw [if_pos c, if_pos (this.mpr c)]
        · rw [if_neg c, if_neg (fun t => c (this.mp t))]
      · dsimp only
        rw [if_pos (by rw [decide_eq_true_iff]; omega), if_neg (by rw [decide_eq_true_iff]; omega), Nat.one_mul]
    · show n - (nI (i + 1)).toNatClampNeg < n - (nI i).toNatClampNeg
      rw [nI_clamp (by omega), nI_clamp (by omega)]
      omega
  · have n1 := zeq_f hd (by omega) (by omega)
    have e : B_X1_signsFrom_19 10 (nI r) K12 (fun v3 v4 σ => rec (v3, v4, σ)) (nI D) (nI i) s = rec (nI D, nI (i + 1), s) := by
      unfold B_X1_signsFrom_19 B_X1_signsFrom_55
      simp (disch := omega) only [↓reduceIte, ↓znm, ↓zbd_some, ↓zbv_some, ↓zga_in, ↓zgs_in, ↓zgr_in, zga_in, zgs_in, zgr_in, zgz_n0, zgz_n1, zlit, nI_add, pk_mul, znI_or, znI_and, znI_df, zon_ok, zbt_ok, zlt_t, zlt_f, zle_t, zle_f, zeq_f, f0, fa, n1]
    rw [e]
    refine ih _ ⟨i + 1, by omega, rfl, rfl, hQ.ext (fun q hq => by
      rw [decide_eq_decide]
      by_cases eq : q = i
      · rw [eq]; omega
      · omega)⟩ ?_
    show n - (nI (i + 1)).toNatClampNeg < n - (nI i).toNatClampNeg
    rw [nI_clamp (by omega), nI_clamp (by omega)]
    omega
def zTu (tw : Nat → Nat) (d : Nat → Nat → Nat) (n r : Nat) : Nat := zprd (fun q => zfp (zkl tw d n r q)) n
theorem signsFrom_ok {σ : zSt} {n : Nat} {kd ld tw : Nat → Nat} {d : Nat → Nat → Nat} (hV : zVX σ 10 n kd ld tw) (hO : zOK n kd ld tw) (hA : zAX σ 10 n d) (hT : zTR (fun p => p < n) tw d) {r : Nat} (hr : r < n) : ∃ σ', M_X1_signsFrom 10 (nI r) σ = some (nI (zKc tw d n r r), σ') ∧ σ' 44 2 = nI (zTu tw d n r) ∧ ∀ c, c ≠ 44 → c ≠ 45 → c ≠ 46 → σ' c = σ c := by
  have hn := hO.1
  obtain ⟨s1, hs1⟩ : ∃ s1, s1 = zsu σ 44 (upd (σ 44) 2 (nI 1)) := ⟨_, rfl⟩
  have f1 : s1 10 0 = nI n := by rw [hs1, zsu_ne (by decide)]; exact hV.1
  have hone : ∀ m, zprd (fun _ => 1) m = 1 := by
    intro m
    induction m with
    | zero => rfl
    | succ m ih => show zprd (fun _ => 1) m * 1 = 1; rw [ih]
  have g0 : zSg σ s1 tw d n r (fun q => decide (n ≤ d r q)) := by
    refine ⟨fun c h1 _ _ => by rw [hs1, zsu_ne h1], fun q hq hP => ?_, ?_⟩
    · rw [decide_eq_true_iff] at hP
      have := hT.lt hr hq
      omega
    · have e : zprd (fun q => if decide (n ≤ d r q) = true then zfp (zkl tw d n r q) else 1) n = zprd (fun _ => 1) n := by
        apply zprd_ext
        intro q hq
        have := hT.lt hr hq
        rw [if_neg (by rw [decide_eq_true_iff]; omega)]
      rw [hs1, zsu_eq, upd_eq, e, hone]
  have hL : ∃ o, L_X1_signsFrom_12 10 (nI r) (nI n - nI 1) s1 = some o ∧ (o.1 = nI (zKc tw d n r r) ∧ zSg σ o.2 tw d n r (fun q => decide (0 ≤ d r q))) := by
    unfold L_X1_signsFrom_12
    refine zloop_ex (I := fun x => ∃ k, k ≤ n ∧ x.1 = nI k - nI 1 ∧ zSg σ x.2 tw d n r (fun q => decide (k ≤ d r q))) (μ := fun x => (x.1 + nI 1).toNatClampNeg) ?_ zFU _ ⟨n, Nat.le_refl _, rfl, g0⟩ ?_
    · rintro rec ⟨x, s⟩ ⟨k, hk, e1, hQ⟩ ih
      dsimp only at e1 hQ ih ⊢
      subst e1
      by_cases e : k = 0
      · subst e
        have f45 : s 45 r = nI (zKc tw d n r r) := hQ.2.1 r hr (by rw [decide_eq_true_iff]; omega)
        refine ⟨(nI (zKc tw d n r r), s), ?_, rfl, hQ⟩
        unfold B_X1_signsFrom_12
        have : (nI 0 - nI 1 < nI 0) = True := eq_true (by decide)
        simp (disch := omega) only [↓reduceIte, ↓znm, ↓zbd_some, ↓zbv_some, ↓zga_in, ↓zgs_in, ↓zgr_in, zga_in, zgs_in, zgr_in, zgz_n0, zgz_n1, zlit, nI_add, pk_mul, znI_or, znI_and, znI_df, zon_ok, zbt_ok, zlt_t, zlt_f, zle_t, zle_f, zeq_f, this, f45]
      · obtain ⟨D, rfl⟩ : ∃ D, k = D + 1 := ⟨k - 1, by omega⟩
        have e2 : nI (D + 1) - nI 1 = nI D := by
          rw [← nI_add]
          exact Int32.add_sub_cancel _ _
        have e : B_X1_signsFrom_12 10 (nI r) (fun v3 σ => rec (v3, σ)) (nI D) s = L_X1_signsFrom_19 10 (nI r) (fun v3 σ => rec (v3, σ)) (nI D) (nI 0) s := by
          unfold B_X1_signsFrom_12
          simp (disch := omega) only [↓reduceIte, ↓znm, ↓zbd_some, ↓zbv_some, ↓zga_in, ↓zgs_in, ↓zgr_in, zga_in, zgs_in, zgr_in, zgz_n0, zgz_n1, zlit, nI_add, pk_mul, znI_or, znI_and, znI_df, zon_ok, zbt_ok, zlt_t, zlt_f, zle_t, zle_f, zeq_f, e2]
        rw [e2, e]
        refine signsIn_ok hV hO hA hT hr (by omega) _ _ (fun s' hs' => ih _ ⟨D, by omega, rfl, hs'⟩ ?_) s hQ
        show (nI D - nI 1 + nI 1).toNatClampNeg < (nI (D + 1) - nI 1 + nI 1).toNatClampNeg
        rw [Int32.sub_add_cancel, Int32.sub_add_cancel, nI_clamp (by omega), nI_clamp (by omega)]
        omega
    · show (nI n - nI 1 + nI 1).toNatClampNeg < zFU
      rw [Int32.sub_add_cancel, nI_clamp (by omega)]
      have := zFU_ge
      omega
  obtain ⟨⟨v, σ'⟩, o1, o2, o3⟩ := hL
  dsimp only at o2 o3
  subst o2
  refine ⟨σ', ?_, ?_, o3.1⟩
  · unfold M_X1_signsFrom
    simp (disch := omega) only [↓reduceIte, ↓znm, ↓zbd_some, ↓zbv_some, ↓zga_in, ↓zgs_in, ↓zgr_in, zga_in, zgs_in, zgr_in, zgz_n0, zgz_n1, zlit, nI_add, pk_mul, znI_or, znI_and, znI_df, zon_ok, zbt_ok, zlt_t, zlt_f, zle_t, zle_f, zeq_f, ← hs1, f1, o1]
  · have e : zprd (fun q => if decide (0 ≤ d r q) = true then zfp (zkl tw d n r q) else 1) n = zTu tw d n r := by
      apply zprd_ext
      intro q hq
      rw [if_pos (by rw [decide_eq_true_iff]; omega)]
    rw [o3.2.2, e]
