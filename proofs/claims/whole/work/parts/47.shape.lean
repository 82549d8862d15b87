/-! PURE: alike: what hangs below a post, seen from a root -/
def zcd (tw : Nat → Nat) (d : Nat → Nat → Nat) (r p q : Nat) : Bool := (tw p).testBit q && decide (d r p < d r q)
def zcls (tw : Nat → Nat) (d : Nat → Nat → Nat) (n r p : Nat) : List Nat := (List.range n).filter (zcd tw d r p)
def zkf (tw : Nat → Nat) (d : Nat → Nat → Nat) (n r : Nat) : Nat → Nat → Nat
  | 0, _ => 0
  | k + 1, p => 2 * zar (((zcls tw d n r p).map (zkf tw d n r k)).mergeSort).reverse
def zKc (tw : Nat → Nat) (d : Nat → Nat → Nat) (n r p : Nat) : Nat := zkf tw d n r (n - d r p) p
def zkl (tw : Nat → Nat) (d : Nat → Nat → Nat) (n r p : Nat) : List Nat := (zcls tw d n r p).map (zKc tw d n r)
def zsf (tw : Nat → Nat) (d : Nat → Nat → Nat) (n r : Nat) : Nat → Nat → Nat
  | 0, _ => 0
  | k + 1, p => 1 + zsum (fun q => if zcd tw d r p q = true then zsf tw d n r k q else 0) n
def zSz (tw : Nat → Nat) (d : Nat → Nat → Nat) (n r p : Nat) : Nat := zsf tw d n r (n - d r p) p
theorem zcd_iff {n : Nat} {tw : Nat → Nat} {d : Nat → Nat → Nat} (hT : zTR (fun p => p < n) tw d) {r p q : Nat} (hr : r < n) (hp : p < n) : zcd tw d r p q = true ↔ (tw p).testBit q = true ∧ d r q = d r p + 1 := by
  unfold zcd
  rw [Bool.and_eq_true, decide_eq_true_iff]
  constructor
  · rintro ⟨h1, h2⟩
    have := hT.2.2.2.2.1 r p q hr hp h1
    exact ⟨h1, by omega⟩
  · rintro ⟨h1, h2⟩
    exact ⟨h1, by omega⟩
theorem zcd_n {n : Nat} {tw : Nat → Nat} {d : Nat → Nat → Nat} (hT : zTR (fun p => p < n) tw d) {r p q : Nat} (hr : r < n) (hp : p < n) (h : zcd tw d r p q = true) : q < n ∧ q ≠ r ∧ (tw q).testBit p = true ∧ d r p + 1 = d r q := by
  obtain ⟨h1, h2⟩ := (zcd_iff hT hr hp).mp h
  obtain ⟨a1, a2, a3⟩ := hT.2.1 p q hp h1
  refine ⟨a1, fun e => ?_, a2, by omega⟩
  rw [e, hT.2.2.1 r hr] at h2
  omega
/-- each but the root hangs on just one -/
theorem zcd_par {n : Nat} {tw : Nat → Nat} {d : Nat → Nat → Nat} (hT : zTR (fun p => p < n) tw d) {r q : Nat} (hr : r < n) (hq : q < n) (hqr : q ≠ r) : ∃ p, p < n ∧ zcd tw d r p q = true ∧ ∀ p', p' < n → zcd tw d r p' q = true → p' = p := by
  obtain ⟨p, p1, p2, p3⟩ := hT.2.2.2.2.2 r q hr hq hqr
  obtain ⟨a1, a2, a3⟩ := hT.2.1 q p hq p1
  refine ⟨p, a1, (zcd_iff hT hr a1).mpr ⟨a2, p2.symm⟩, fun p' hp' h => ?_⟩
  obtain ⟨b1, b2, b3, b4⟩ := zcd_n hT hr hp' h
  exact p3 p' b3 b4
theorem zcls_mem {n : Nat} {tw : Nat → Nat} {d : Nat → Nat → Nat} {r p q : Nat} : q ∈ zcls tw d n r p ↔ q < n ∧ zcd tw d r p q = true := by
  unfold zcls
  rw [List.mem_filter, List.mem_range]
theorem zKc_eq {n : Nat} {tw : Nat → Nat} {d : Nat → Nat → Nat} (hT : zTR (fun p => p < n) tw d) {r p : Nat} (hr : r < n) (hp : p < n) : zKc tw d n r p = 2 * zar ((zkl tw d n r p).mergeSort).reverse := by
  have hlt := hT.lt hr hp
  have e : n - d r p = (n - d r p - 1) + 1 := by omega
  unfold zKc
  rw [e]
  show 2 * zar (((zcls tw d n r p).map (zkf tw d n r (n - d r p - 1))).mergeSort).reverse = _
  have : (zcls tw d n r p).map (zkf tw d n r (n - d r p - 1)) = zkl tw d n r p := by
    unfold zkl
    apply List.map_congr_left
    intro q hq
    obtain ⟨q1, q2⟩ := zcls_mem.mp hq
    obtain ⟨-, q3⟩ := (zcd_iff hT hr hp).mp q2
    unfold zKc
    rw [q3, show n - d r p - 1 = n - (d r p + 1) by omega]
  rw [this]
theorem zSz_eq {n : Nat} {tw : Nat → Nat} {d : Nat → Nat → Nat} (hT : zTR (fun p => p < n) tw d) {r p : Nat} (hr : r < n) (hp : p < n) : zSz tw d n r p = 1 + zsum (fun q => if zcd tw d r p q = true then zSz tw d n r q else 0) n := by
  have hlt := hT.lt hr hp
  have e : n - d r p = (n - d r p - 1) + 1 := by omega
  unfold zSz
  rw [e]
  show 1 + zsum (fun q => if zcd tw d r p q = true then zsf tw d n r (n - d r p - 1) q else 0) n = _
  congr 1
  apply zsum_ext
  intro q hq
  by_cases c : zcd tw d r p q = true
  · obtain ⟨-, q3⟩ := (zcd_iff hT hr hp).mp c
    rw [if_pos c, if_pos c, q3, show n - d r p - 1 = n - (d r p + 1) by omega]
  · rw [if_neg c, if_neg c]
theorem zsum_swap (F : Nat → Nat → Nat) (m : Nat) : ∀ n, zsum (fun p => zsum (fun q => F p q) m) n = zsum (fun q => zsum (fun p => F p q) n) m
  | 0 => by
    show 0 = zsum (fun q => 0) m
    have : ∀ m, zsum (fun _ => 0) m = 0 := by
      intro m
      induction m with
      | zero => rfl
      | succ m ih => show zsum (fun _ => 0) m + 0 = 0; rw [ih]
    rw [this]
  | n + 1 => by
    show zsum (fun p => zsum (fun q => F p q) m) n + zsum (fun q => F n q) m = zsum (fun q => zsum (fun p => F p q) n + F n q) m
    rw [zsum_swap F m n, zsum_ad2]
theorem zsum_none {f : Nat → Nat} {n : Nat} (h : ∀ p, p < n → f p = 0) : zsum f n = 0 := by
  have : zsum f n = zsum (fun _ => 0) n := zsum_ext h
  rw [this]
  induction n with
  | zero => rfl
  | succ m ih =>
    show zsum (fun _ => 0) m + 0 = 0
    rw [ih (fun p hp => h p (by omega)) (zsum_ext (fun p hp => h p (by omega)))]
theorem zsum_one {f : Nat → Nat} {n p0 : Nat} (h0 : p0 < n) (h : ∀ p, p < n → p ≠ p0 → f p = 0) : zsum f n = f p0 := by
  rw [zsum_split h0, zsum_none, Nat.zero_add]
  intro p hp
  by_cases e : p = p0
  · rw [if_pos e]
  · rw [if_neg e]; exact h p hp e
/-- all at one distance: as many as there are from there on -/
theorem zSz_sum {n : Nat} {tw : Nat → Nat} {d : Nat → Nat → Nat} (hT : zTR (fun p => p < n) tw d) {r : Nat} (hr : r < n) : ∀ j D, D + j = n → zsum (fun p => if d r p = D then zSz tw d n r p else 0) n = zsum (fun p => if D ≤ d r p then 1 else 0) n := by
  intro j
  induction j with
  | zero =>
    intro D hD
    rw [zsum_none, zsum_none]
    · intro p hp
      have := hT.lt hr hp
      rw [if_neg (by omega)]
    · intro p hp
      have := hT.lt hr hp
      rw [if_neg (by omega)]
  | succ j ih =>
    intro D hD
    have e1 : zsum (fun p => if d r p = D then zSz tw d n r p else 0) n = zsum (fun p => (if d r p = D then 1 else 0) + zsum (fun q => if d r p = D ∧ zcd tw d r p q = true then zSz tw d n r q else 0) n) n := by
      apply zsum_ext
      intro p hp
      by_cases c : d r p = D
      · rw [if_pos c, if_pos c, zSz_eq hT hr hp]
        congr 1
        apply zsum_ext
        intro q hq
        by_cases c2 : zcd tw d r p q = true
        · rw [if_pos c2, if_pos ⟨c, c2⟩]
        · rw [if_neg c2, if_neg (fun h => c2 h.2)]
      · rw [if_neg c, if_neg c, zsum_none]
        intro q hq
        rw [if_neg (fun h => c h.1)]
    rw [e1, zsum_ad2, zsum_swap (fun p q => if d r p = D ∧ zcd tw d r p q = true then zSz tw d n r q else 0)]
    have e2 : zsum (fun q => zsum (fun p => if d r p = D ∧ zcd tw d r p q = true then zSz tw d n r q else 0) n) n = zsum (fun q => if d r q = D + 1 then zSz tw d n r q else 0) n := by
      apply zsum_ext
      intro q hq
      by_cases c : d r q = D + 1
      · rw [if_pos c]
        obtain ⟨p, p1, p2, p3⟩ := zcd_par hT hr hq (fun e => by rw [e, hT.2.2.1 r hr] at c; omega)
        have p4 := (zcd_n hT hr p1 p2).2.2.2
        rw [zsum_one (p0 := p) p1, if_pos ⟨by omega, p2⟩]
        intro p' hp' hne
        rw [if_neg (fun h => hne (p3 p' hp' h.2))]
      · rw [if_neg c, zsum_none]
        intro p hp
        rw [if_neg]
        rintro ⟨h1, h2⟩
        have := (zcd_n hT hr hp h2).2.2.2
        omega
    rw [e2, ih (D + 1) (by omega), ← zsum_ad2]
    apply zsum_ext
    intro p hp
    by_cases c : d r p = D
    · rw [if_pos c, if_neg (by omega), if_pos (by omega)]
    · by_cases c2 : D + 1 ≤ d r p
      · rw [if_neg c, if_pos c2, if_pos (by omega)]
      · rw [if_neg c, if_neg c2, if_neg (by omega)]
theorem zSz_le {n : Nat} {tw : Nat → Nat} {d : Nat → Nat → Nat} (hn : n ≤ 8) (hT : zTR (fun p => p < n) tw d) {r p : Nat} (hr : r < n) (hp : p < n) : zSz tw d n r p ≤ 8 := by
  have hlt := hT.lt hr hp
  have h1 := zSz_sum hT hr (n - d r p) (d r p) (by omega)
  rw [zsum_split hp] at h1
  rw [if_pos rfl] at h1
  have h2 := zsum_le (f := fun q => if d r p ≤ d r q then 1 else 0) (B := 1) (n := n) (fun q _ => by
    show (if d r p ≤ d r q then 1 else 0) ≤ 1
    split <;> omega)
  omega
theorem zks_app : ∀ (A B : List Nat), zks (A ++ B) = zks A + zks B
  | [], B => by show zks B = 0 + zks B; omega
  | a :: A, B => by
    show 2 * zpk a + zks (A ++ B) = 2 * zpk a + zks A + zks B
    rw [zks_app A B]
    omega
theorem zks_filter (P : Nat → Bool) (g : Nat → Nat) : ∀ n, zks (((List.range n).filter P).map g) = zsum (fun q => if P q = true then 2 * zpk (g q) else 0) n
  | 0 => rfl
  | n + 1 => by
    rw [List.range_succ, List.filter_append, List.map_append, zks_app, zks_filter P g n]
    show _ = zsum (fun q => if P q = true then 2 * zpk (g q) else 0) n + (if P n = true then 2 * zpk (g n) else 0)
    congr 1
    by_cases c : P n = true
    · rw [if_pos c]
      simp [c, zks]
    · rw [if_neg c]
      simp [c, zks]
theorem zKc_ok {n : Nat} {tw : Nat → Nat} {d : Nat → Nat → Nat} (hn : n ≤ 8) (hT : zTR (fun p => p < n) tw d) {r : Nat} (hr : r < n) : ∀ j p, p < n → d r p + j = n → zvd (zKc tw d n r p) (2 * zpk (zKc tw d n r p)) ∧ zpk (zKc tw d n r p) = zSz tw d n r p := by
  intro j
  induction j with
  | zero =>
    intro p hp hj
    have := hT.lt hr hp
    omega
  | succ j ih =>
    intro p hp hj
    have hch : ∀ q, q ∈ zcls tw d n r p → zvd (zKc tw d n r q) (2 * zpk (zKc tw d n r q)) ∧ zpk (zKc tw d n r q) = zSz tw d n r q := by
      intro q hq
      obtain ⟨q1, q2⟩ := zcls_mem.mp hq
      obtain ⟨-, q3⟩ := (zcd_iff hT hr hp).mp q2
      exact ih q q1 (by omega)
    have hg : zgo ((zkl tw d n r p).mergeSort).reverse := by
      intro c hc
      rw [List.mem_reverse, List.mem_mergeSort] at hc
      unfold zkl at hc
      obtain ⟨q, q1, rfl⟩ := List.mem_map.mp hc
      exact (hch q q1).1
    have hk : zks ((zkl tw d n r p).mergeSort).reverse + 2 = 2 * zSz tw d n r p := by
      rw [zks_perm ((List.reverse_perm _).trans (List.mergeSort_perm _ _))]
      unfold zkl zcls
      rw [zks_filter, zSz_eq hT hr hp]
      have : zsum (fun q => if zcd tw d r p q = true then 2 * zpk (zKc tw d n r q) else 0) n = zsum (fun q => (if zcd tw d r p q = true then zSz tw d n r q else 0) + (if zcd tw d r p q = true then zSz tw d n r q else 0)) n := by
        apply zsum_ext
        intro q hq
        by_cases c : zcd tw d r p q = true
        · rw [if_pos c, if_pos c, (hch q (zcls_mem.mpr ⟨hq, c⟩)).2]
          omega
        · rw [if_neg c, if_neg c]
      rw [this, zsum_ad2]
      omega
    have hv := zcode_vd hg
    rw [hk, ← zKc_eq hT hr hp] at hv
    have h8 := zSz_le hn hT hr hp
    have hz := zpk_vd hv (by omega)
    rw [hz]
    exact ⟨hv, by omega⟩
theorem zKc_vd {n : Nat} {tw : Nat → Nat} {d : Nat → Nat → Nat} (hn : n ≤ 8) (hT : zTR (fun p => p < n) tw d) {r p : Nat} (hr : r < n) (hp : p < n) : zvd (zKc tw d n r p) (2 * zpk (zKc tw d n r p)) ∧ zpk (zKc tw d n r p) ≤ 8 := by
  have hlt := hT.lt hr hp
  obtain ⟨h1, h2⟩ := zKc_ok hn hT hr (n - d r p) p hp (by omega)
  exact ⟨h1, by rw [h2]; exact zSz_le hn hT hr hp⟩
theorem zle_sorted (L : List Nat) : (L.mergeSort).Pairwise (fun a b => a ≤ b) := by
  have := List.pairwise_mergeSort (le := fun a b => decide (a ≤ b)) (fun a b c h1 h2 => by simp at *; omega) (fun a b => by simp; omega) L
  exact this.imp (fun h => by simpa using h)
theorem zsorted_eq {L L' : List Nat} (h : L.Perm L') (h1 : L.Pairwise (fun a b => a ≤ b)) (h2 : L'.Pairwise (fun a b => a ≤ b)) : L = L' := List.Perm.eq_of_pairwise (le := fun a b => a ≤ b) (fun a b _ _ x y => Nat.le_antisymm x y) h1 h2 h
/-- equal signs: equal parts below -/
theorem zKc_iff {n : Nat} {tw : Nat → Nat} {d : Nat → Nat → Nat} (hn : n ≤ 8) (hT : zTR (fun p => p < n) tw d) {r p r' p' : Nat} (hr : r < n) (hp : p < n) (hr' : r' < n) (hp' : p' < n) : zKc tw d n r p = zKc tw d n r' p' ↔ (zkl tw d n r p).Perm (zkl tw d n r' p') := by
  have hg : ∀ r p, r < n → p < n → zgo ((zkl tw d n r p).mergeSort).reverse := by
    intro r p hr hp c hc
    rw [List.mem_reverse, List.mem_mergeSort] at hc
    unfold zkl at hc
    obtain ⟨q, q1, rfl⟩ := List.mem_map.mp hc
    exact (zKc_vd hn hT hr (zcls_mem.mp q1).1).1
  rw [zKc_eq hT hr hp, zKc_eq hT hr' hp']
  constructor
  · intro h
    have e := zar_inj _ _ (hg r p hr hp) (hg r' p' hr' hp') (by omega)
    have e2 := List.reverse_inj.mp e
    exact ((List.mergeSort_perm _ _).symm.trans (List.Perm.of_eq e2)).trans (List.mergeSort_perm _ _)
  · intro h
    have e : (zkl tw d n r p).mergeSort = (zkl tw d n r' p').mergeSort := zsorted_eq (((List.mergeSort_perm _ _).trans h).trans (List.mergeSort_perm _ _).symm) (zle_sorted _) (zle_sorted _)
    rw [e]
