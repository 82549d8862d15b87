/-! PURE: alike: the class puts signs together -/
theorem zSz_le7 {n : Nat} {tw : Nat → Nat} {d : Nat → Nat → Nat} (hn : n ≤ 8) (hT : zTR (fun p => p < n) tw d) {r p : Nat} (hr : r < n) (hp : p < n) (h1 : 1 ≤ d r p) : zSz tw d n r p ≤ 7 := by
  have hlt := hT.lt hr hp
  have h2 := zSz_sum hT hr (n - d r p) (d r p) (by omega)
  rw [zsum_split hp, if_pos rfl] at h2
  have h3 : zsum (fun q => if d r p ≤ d r q then 1 else 0) n = zsum (fun q => if q = r then 0 else if d r p ≤ d r q then 1 else 0) n := by
    apply zsum_ext
    intro q hq
    by_cases e : q = r
    · rw [if_pos e, if_neg]
      rw [e, hT.2.2.1 r hr]
      omega
    · rw [if_neg e]
  have h4 := zsum_split (f := fun _ => 1) hr
  have h5 : zsum (fun q => if q = r then 0 else if d r p ≤ d r q then 1 else 0) n ≤ zsum (fun q => if q = r then 0 else 1) n := by
    apply zsum_mono
    intro q hq
    split
    · exact Nat.le_refl _
    · split <;> omega
  have h6 := zsum_le (f := fun _ => 1) (B := 1) (n := n) (fun _ _ => Nat.le_refl 1)
  omega
theorem zKc_14 {n : Nat} {tw : Nat → Nat} {d : Nat → Nat → Nat} (hn : n ≤ 8) (hT : zTR (fun p => p < n) tw d) {r p : Nat} (hr : r < n) (hp : p < n) (h1 : 1 ≤ d r p) : zKc tw d n r p < 16384 := by
  have hlt := hT.lt hr hp
  obtain ⟨v, e⟩ := zKc_ok hn hT hr (n - d r p) p hp (by omega)
  have h7 := zSz_le7 hn hT hr hp h1
  have h2 := v.2.1
  have : 2 ^ (2 * zpk (zKc tw d n r p)) ≤ 2 ^ 14 := Nat.pow_le_pow_right (by decide) (by omega)
  have e14 : 2 ^ 14 = 16384 := rfl
  omega
theorem zKc_16 {n : Nat} {tw : Nat → Nat} {d : Nat → Nat → Nat} (hn : n ≤ 8) (hT : zTR (fun p => p < n) tw d) {r p : Nat} (hr : r < n) (hp : p < n) : zKc tw d n r p < 65536 := by
  obtain ⟨v, e⟩ := zKc_vd hn hT hr hp
  have h2 := v.2.1
  have : 2 ^ (2 * zpk (zKc tw d n r p)) ≤ 2 ^ 16 := Nat.pow_le_pow_right (by decide) (by omega)
  have e16 : 2 ^ 16 = 65536 := rfl
  omega
/-- the i-th of a list -/
def zgi (L : List Nat) (i : Nat) : Nat := (L[i]?).getD 0
theorem zgi_at {L : List Nat} {i : Nat} (h : i < L.length) : L[i]? = some (zgi L i) := by
  unfold zgi
  rw [List.getElem?_eq_getElem h]
  rfl
theorem zgi_mem {L : List Nat} {i : Nat} (h : i < L.length) : zgi L i ∈ L := by
  have := zgi_at h
  exact List.mem_of_getElem? this
theorem zgi_of {L : List Nat} {x : Nat} (h : x ∈ L) : ∃ i, i < L.length ∧ zgi L i = x := by
  obtain ⟨i, hi, e⟩ := List.mem_iff_getElem.mp h
  refine ⟨i, hi, ?_⟩
  unfold zgi
  rw [List.getElem?_eq_getElem hi, e]
  rfl
theorem zgi_sorted {L : List Nat} (h : L.Pairwise (fun a b => a ≤ b)) {i j : Nat} (hij : i < j) (hj : j < L.length) : zgi L i ≤ zgi L j := by
  have := List.pairwise_iff_getElem.mp h i j (by omega) hj hij
  unfold zgi
  rw [List.getElem?_eq_getElem hj, List.getElem?_eq_getElem (by omega)]
  exact this
def zgput (L : List Nat) (k x : Nat) : List Nat := L.take k ++ x :: L.drop k
theorem zgput_at {L : List Nat} {k x : Nat} (hk : k ≤ L.length) (i : Nat) : zgi (zgput L k x) i = if i < k then zgi L i else if i = k then x else zgi L (i - 1) := by
  unfold zgi zgput
  have hl : (L.take k).length = k := by rw [List.length_take]; omega
  by_cases c : i < k
  · rw [if_pos c, List.getElem?_append_left (by omega), List.getElem?_take_of_lt c]
  · rw [if_neg c, List.getElem?_append_right (by omega), hl]
    by_cases e : i = k
    · rw [if_pos e, e, Nat.sub_self]
      rfl
    · rw [if_neg e]
      obtain ⟨j, hj⟩ : ∃ j, i - k = j + 1 := ⟨i - k - 1, by omega⟩
      rw [hj, List.getElem?_cons_succ, List.getElem?_drop, show k + j = i - 1 by omega]
theorem zgput_perm (L : List Nat) (k x : Nat) : (zgput L k x).Perm (x :: L) := by
  unfold zgput
  have := List.perm_middle (a := x) (l₁ := L.take k) (l₂ := L.drop k)
  rw [List.take_append_drop] at this
  exact this
theorem zgput_len (L : List Nat) (k x : Nat) : (zgput L k x).length = L.length + 1 := by
  rw [(zgput_perm L k x).length_eq]
  rfl
theorem zgput_sorted {L : List Nat} {k x : Nat} (hk : k ≤ L.length) (hs : L.Pairwise (fun a b => a ≤ b)) (h1 : ∀ i, i < k → zgi L i ≤ x) (h2 : ∀ i, k ≤ i → i < L.length → x ≤ zgi L i) : (zgput L k x).Pairwise (fun a b => a ≤ b) := by
  rw [List.pairwise_iff_getElem]
  intro i j hi hj hij
  have hl := zgput_len L k x
  have e1 : (zgput L k x)[i] = zgi (zgput L k x) i := by unfold zgi; rw [List.getElem?_eq_getElem hi]; rfl
  have e2 : (zgput L k x)[j] = zgi (zgput L k x) j := by unfold zgi; rw [List.getElem?_eq_getElem hj]; rfl
  rw [e1, e2, zgput_at hk, zgput_at hk]
  by_cases c1 : j < k
  · rw [if_pos (by omega), if_pos c1]
    exact zgi_sorted hs hij (by omega)
  · rw [if_neg c1]
    by_cases c2 : j = k
    · rw [if_pos c2, if_pos (by omega)]
      exact h1 i (by omega)
    · rw [if_neg c2]
      by_cases c3 : i < k
      · rw [if_pos c3]
        by_cases c4 : i = j - 1
        · rw [c4]; exact Nat.le_refl _
        · exact zgi_sorted hs (by omega) (by omega)
      · rw [if_neg c3]
        by_cases c4 : i = k
        · rw [if_pos c4]; exact h2 _ (by omega) (by omega)
        · rw [if_neg c4]; exact zgi_sorted hs (by omega) (by omega)
theorem zdec {j : Nat} : nI (j + 1) + -nI 1 = nI j := by
  rw [← nI_add, ← Int32.sub_eq_add_neg]
  exact Int32.add_sub_cancel _ _
/-- the array holds a list -/
def zhd (σ : zSt) (L : List Nat) : Prop := ∀ i, i < L.length → σ 46 i = nI (zgi L i)
theorem insert_ok {σ : zSt} {L : List Nat} {x : Nat} (hL : L.length < 8) (hs : L.Pairwise (fun a b => a ≤ b)) (hb : ∀ y, y ∈ L → y < 65536) (hx : x < 65536) (hh : zhd σ L) : ∃ σ' L', M_X1_insert (nI x) (nI L.length) σ = some σ' ∧ L'.Pairwise (fun a b => a ≤ b) ∧ L'.Perm (x :: L) ∧ zhd σ' L' ∧ ∀ c, c ≠ 46 → σ' c = σ c := by
  obtain ⟨k, k1, k2, k3⟩ : ∃ k, k ≤ L.length ∧ (∀ i, i < k → zgi L i ≤ x) ∧ ∀ i, k ≤ i → i < L.length → x < zgi L i := by
    rcases zfirst (fun i => x < zgi L i) L.length with ⟨e, e1, e2, e3⟩ | hno
    · refine ⟨e, by omega, fun i hi => Nat.le_of_not_lt (e3 i hi), fun i h1 h2 => ?_⟩
      by_cases c : i = e
      · rw [c]; exact e2
      · exact Nat.lt_of_lt_of_le e2 (zgi_sorted hs (by omega) h2)
    · exact ⟨L.length, Nat.le_refl _, fun i hi => Nat.le_of_not_lt (hno i hi), fun i h1 h2 => by omega⟩
  obtain ⟨m, hm⟩ : ∃ m, m = L.length := ⟨_, rfl⟩
  rw [← hm] at hL k1 k3 ⊢
  have gb : ∀ i, i < m → zgi L i < 65536 := fun i hi => hb _ (zgi_mem (by omega))
  obtain ⟨S, hS⟩ : ∃ S : Nat → zSt, ∀ t c i, S t c i = if c = 46 ∧ m - t < i ∧ i ≤ m then nI (zgi L (i - 1)) else σ c i := ⟨fun t c i => if c = 46 ∧ m - t < i ∧ i ≤ m then nI (zgi L (i - 1)) else σ c i, fun _ _ _ => rfl⟩
  have at1 : ∀ t i, i ≤ m - t → i < m → S t 46 i = nI (zgi L i) := by
    intro t i h1 h2
    rw [hS, if_neg (by omega)]
    exact hh i (by omega)
  refine ⟨zsu (S (m - k)) 46 (upd (S (m - k) 46) k (nI x)), zgput L k x, ?_, zgput_sorted (by omega) hs k2 (fun i h1 h2 => Nat.le_of_lt (k3 i h1 (by omega))), zgput_perm L k x, fun i hi => ?_, fun c hc => ?_⟩
  · unfold M_X1_insert L_X1_insert_2
    refine zloop_for (fun t => (nI (m - t), S t)) (m - k) ?_ (by omega) (fun rec t ht => ?_) (fun rec => ?_)
    · have : S 0 = σ := by
        funext c i
        rw [hS, if_neg (by omega)]
      rw [this]
      rfl
    · obtain ⟨j, hj⟩ : ∃ j, m - t = j + 1 := ⟨m - t - 1, by omega⟩
      have e1 : S t 46 j = nI (zgi L j) := at1 t j (by omega) (by omega)
      have g1 := k3 j (by omega) (by omega)
      have g2 := gb j (by omega)
      have e2 : zsu (S t) 46 (upd (S t 46) (j + 1) (nI (zgi L j))) = S (t + 1) := by
        funext c i
        rw [zput_at, hS t c i, hS (t + 1) c i]
        by_cases c1 : c = 46 ∧ i = j + 1
        · rw [if_pos c1, if_pos (by omega), c1.2, Nat.add_sub_cancel]
        · rw [if_neg c1]
          by_cases c2 : c = 46 ∧ m - t < i ∧ i ≤ m
          · rw [if_pos c2, if_pos (by omega)]
          · rw [if_neg c2, if_neg (by omega)]
      have e3 : m - (t + 1) = j := by omega
      rw [hj, e3]
      unfold B_X1_insert_2
      simp (disch := omega) only [↓reduceIte, ↓znm, ↓zbd_some, ↓zbv_some, ↓zga_in, ↓zgs_in, ↓zgr_in, zga_in, zgs_in, zgr_in, zgz_n0, zgz_n1, zlit, nI_add, pk_mul, pk_sub, znI_or, znI_and, znI_df, zon_ok, zbt_ok, zlt_t, zlt_f, zle_t, zle_f, zeq_f, show j + 1 - 1 = j by omega, e1, e2, zdec]
    · have e0 : m - (m - k) = k := by omega
      rw [e0]
      unfold B_X1_insert_2 B_X1_insert_38
      by_cases c : k = 0
      · subst c
        simp (disch := omega) only [↓reduceIte, ↓znm, ↓zbd_some, ↓zbv_some, ↓zga_in, ↓zgs_in, ↓zgr_in, zga_in, zgs_in, zgr_in, zgz_n0, zgz_n1, zlit, nI_add, pk_mul, pk_sub, znI_or, znI_and, znI_df, zon_ok, zbt_ok, zlt_t, zlt_f, zle_t, zle_f, zeq_f]
      · have e1 : S (m - k) 46 (k - 1) = nI (zgi L (k - 1)) := at1 _ _ (by omega) (by omega)
        have g1 := k2 (k - 1) (by omega)
        simp (disch := omega) only [↓reduceIte, ↓znm, ↓zbd_some, ↓zbv_some, ↓zga_in, ↓zgs_in, ↓zgr_in, zga_in, zgs_in, zgr_in, zgz_n0, zgz_n1, zlit, nI_add, pk_mul, pk_sub, znI_or, znI_and, znI_df, zon_ok, zbt_ok, zlt_t, zlt_f, zle_t, zle_f, zeq_f, e1]
  · rw [zgput_len] at hi
    rw [zgput_at (by omega), zput_at]
    by_cases c1 : i = k
    · rw [if_pos ⟨rfl, c1⟩, if_neg (by omega), if_pos c1]
    · rw [if_neg (fun e => c1 e.2)]
      by_cases c2 : i < k
      · rw [if_pos c2]
        exact at1 _ _ (by omega) (by omega)
      · rw [if_neg c2, if_neg c1, hS, if_pos (by omega)]
  · rw [zsu_ne hc]
    funext i
    rw [hS, if_neg (fun e => hc e.1)]
theorem gather_ok {σ : zSt} {n : Nat} {kd ld tw : Nat → Nat} {d : Nat → Nat → Nat} (hV : zVX σ 10 n kd ld tw) (hO : zOK n kd ld tw) (hA : zAX σ 10 n d) (hT : zTR (fun p => p < n) tw d) {r p : Nat} (hr : r < n) (hp : p < n) (hc : ∀ q, q < n → zcd tw d r p q = true → σ 45 q = nI (zKc tw d n r q)) : ∃ σ' L, M_X1_gather 10 (nI r) (nI p) σ = some (nI L.length, σ') ∧ L.Pairwise (fun a b => a ≤ b) ∧ L.Perm (zkl tw d n r p) ∧ zhd σ' L ∧ ∀ c, c ≠ 46 → σ' c = σ c := by
  have hn := hO.1
  have h8 := hT.lt8 hn
  unfold M_X1_gather L_X1_gather_6
  have := zloop_ex (F := (fun (rec : Int32 × Int32 × zSt → Option (Int32 × zSt)) x => B_X1_gather_6 10 (nI r) (nI p)  (fun v4 v5 σ => rec (v4, v5, σ)) x.1 x.2.1 x.2.2)) (I := fun x => ∃ i L, i ≤ n ∧ x.1 = nI L.length ∧ x.2.1 = nI i ∧ L.Pairwise (fun a b => a ≤ b) ∧ L.Perm (((List.range i).filter (zcd tw d r p)).map (zKc tw d n r)) ∧ zhd x.2.2 L ∧ ∀ c, c ≠ 46 → x.2.2 c = σ c) (μ := fun x => n - x.2.1.toNatClampNeg) (Po := fun o => ∃ L, o.1 = nI L.length ∧ L.Pairwise (fun a b => a ≤ b) ∧ L.Perm (zkl tw d n r p) ∧ zhd o.2 L ∧ ∀ c, c ≠ 46 → o.2 c = σ c) ?_ zFU (nI 0, nI 0, σ) ⟨0, [], by omega, rfl, rfl, List.Pairwise.nil, List.Perm.refl _, fun i hi => absurd hi (Nat.not_lt_zero _), fun _ _ => rfl⟩ (by have := zFU_ge; show n - _ < _; omega)
  · obtain ⟨⟨v, σ'⟩, o1, L, o2, o3⟩ := this
    dsimp only at o2 o3
    subst o2
    exact ⟨σ', L, o1, o3⟩
  rintro rec ⟨v4, v5, s⟩ ⟨i, L, hi, c1, c2, hs, hperm, hh, hf⟩ ih
  dsimp only at c1 c2 hh hf ih ⊢
  subst c1 c2
  have hlen : L.length ≤ i := by
    rw [hperm.length_eq, List.length_map]
    have := List.length_filter_le (zcd tw d r p) (List.range i)
    rw [List.length_range] at this
    exact this
  have f0 : s 10 0 = nI n := by rw [hf 10 (by decide)]; exact hV.1
  by_cases hin : i = n
  · subst hin
    refine ⟨(nI L.length, s), ?_, L, rfl, hs, hperm, hh, hf⟩
    unfold B_X1_gather_6
    simp (disch := omega) only [↓reduceIte, ↓znm, ↓zbd_some, ↓zbv_some, ↓zga_in, ↓zgs_in, ↓zgr_in, zga_in, zgs_in, zgr_in, zgz_n0, zgz_n1, zlit, nI_add, pk_mul, pk_sub, znI_or, znI_and, znI_df, zon_ok, zbt_ok, zlt_t, zlt_f, zle_t, zle_f, zeq_f, f0]
  have f3 : s (10 + 3) p = nI (tw p) := by rw [hf 13 (by decide)]; exact (hV.2 p hp).2.2
  have ftl := (hO.2 p hp).2.2
  have fa : ∀ q, q < n → s (10 + 9 + r) q = nI (d r q) := fun q hq => by rw [hf _ (by omega)]; exact hA r hr q hq
  have b1 := h8 r i hr (by omega)
  have b2 := h8 r p hr hp
  have fi : i < n := by omega
  by_cases hcd : zcd tw d r p i = true
  · have hcd' := hcd
    unfold zcd at hcd'
    rw [Bool.and_eq_true, decide_eq_true_iff] at hcd'
    have hk := hc i fi hcd
    have f45 : s 45 i = nI (zKc tw d n r i) := by rw [hf 45 (by decide)]; exact hk
    have hb : ∀ y, y ∈ L → y < 65536 := by
      intro y hy
      obtain ⟨q, q1, rfl⟩ := List.mem_map.mp (hperm.mem_iff.mp hy)
      have := (List.mem_filter.mp q1).1
      rw [List.mem_range] at this
      exact zKc_16 hn hT hr (by omega)
    obtain ⟨s', L', r1, r2, r3, r4, r5⟩ := insert_ok (by omega) hs hb (zKc_16 hn hT hr fi) hh
    have e : B_X1_gather_6 10 (nI r) (nI p) (fun v4 v5 σ => rec (v4, v5, σ)) (nI L.length) (nI i) s = rec (nI (L.length + 1), nI (i + 1), s') := by
      unfold B_X1_gather_6 B_X1_gather_65
      simp (disch := omega) only [↓reduceIte, ↓znm, ↓zbd_some, ↓zbv_some, ↓zga_in, ↓zgs_in, ↓zgr_in, zga_in, zgs_in, zgr_in, zgz_n0, zgz_n1, zlit, nI_add, pk_mul, pk_sub, znI_or, znI_and, znI_df, zon_ok, zbt_ok, zlt_t, zlt_f, zle_t, zle_f, zeq_f, f0, f3, hcd'.1, fa i fi, fa p hp, f45, ↓zbv_of r1]
    rw [e]
    refine ih _ ⟨i + 1, L', by omega, ?_, rfl, r2, ?_, r4, fun c hc => (r5 c hc).trans (hf c hc)⟩ ?_
    · show nI (L.length + 1) = nI L'.length
      rw [r3.length_eq]
      rfl
    · rw [List.range_succ, List.filter_append, List.map_append]
      have e1 : [i].filter (zcd tw d r p) = [i] := by simp [hcd]
      rw [e1]
      refine r3.trans ?_
      refine (List.Perm.cons _ hperm).trans ?_
      exact (List.perm_append_singleton _ _).symm
    · show n - (nI (i + 1)).toNatClampNeg < n - (nI i).toNatClampNeg
      rw [nI_clamp (by omega), nI_clamp (by omega)]
      omega
  · have e : B_X1_gather_6 10 (nI r) (nI p) (fun v4 v5 σ => rec (v4, v5, σ)) (nI L.length) (nI i) s = rec (nI L.length, nI (i + 1), s) := by
      unfold B_X1_gather_6 B_X1_gather_65
      by_cases hb : (tw p).testBit i = true
      · have hle : d r i ≤ d r p := by
          apply Nat.le_of_not_lt
          intro q
          exact hcd (by unfold zcd; rw [Bool.and_eq_true, decide_eq_true_iff]; exact ⟨hb, q⟩)
        simp (disch := omega) only [↓reduceIte, ↓znm, ↓zbd_some, ↓zbv_some, ↓zga_in, ↓zgs_in, ↓zgr_in, zga_in, zgs_in, zgr_in, zgz_n0, zgz_n1, zlit, nI_add, pk_mul, pk_sub, znI_or, znI_and, znI_df, zon_ok, zbt_ok, zlt_t, zlt_f, zle_t, zle_f, zeq_f, f0, f3, hb, fa i fi, fa p hp]
      · simp (disch := omega) only [↓reduceIte, ↓znm, ↓zbd_some, ↓zbv_some, ↓zga_in, ↓zgs_in, ↓zgr_in, zga_in, zgs_in, zgr_in, zgz_n0, zgz_n1, zlit, nI_add, pk_mul, pk_sub, znI_or, znI_and, znI_df, zon_ok, zbt_ok, zlt_t, zlt_f, zle_t, zle_f, zeq_f, f0, f3, hb, Bool.false_eq_true]
    rw [e]
    refine ih _ ⟨i + 1, L, by omega, rfl, rfl, hs, ?_, hh, hf⟩ ?_
    · rw [List.range_succ, List.filter_append, List.map_append]
      have e1 : [i].filter (zcd tw d r p) = [] := by simp [hcd]
      rw [e1, List.map_nil, List.append_nil]
      exact hperm
    · show n - (nI (i + 1)).toNatClampNeg < n - (nI i).toNatClampNeg
      rw [nI_clamp (by omega), nI_clamp (by omega)]
      omega
