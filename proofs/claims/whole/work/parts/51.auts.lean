/-! PURE: alike: other names by which twigs go to the same posts -/
def zau (n : Nat) (tw : Nat → Nat) (l : List Nat) : Prop := l.length = n ∧ (∀ p, p < n → zgi l p < n) ∧ (∀ p q, p < n → q < n → zgi l p = zgi l q → p = q) ∧ ∀ p q, p < n → q < n → ((tw (zgi l p)).testBit (zgi l q) = true ↔ (tw p).testBit q = true)
theorem zsurj {n : Nat} {f : Nat → Nat} (h1 : ∀ p, p < n → f p < n) (h2 : ∀ p q, p < n → q < n → f p = f q → p = q) {x : Nat} (hx : x < n) : ∃ p, p < n ∧ f p = x := by
  by_cases c : ∃ p, p < n ∧ f p = x
  · exact c
  · exfalso
    have hnd : ((List.range n).map f).Nodup := by
      unfold List.Nodup
      rw [List.pairwise_map]
      have := List.nodup_range (n := n)
      refine List.Pairwise.imp_of_mem ?_ this
      intro a b ha hb hab e
      exact hab (h2 a b (List.mem_range.mp ha) (List.mem_range.mp hb) e)
    have hnd2 : (x :: (List.range n).map f).Nodup := by
      rw [List.nodup_cons]
      refine ⟨fun hm => ?_, hnd⟩
      obtain ⟨p, p1, p2⟩ := List.mem_map.mp hm
      exact c ⟨p, List.mem_range.mp p1, p2⟩
    have hsub : (x :: (List.range n).map f) ⊆ List.range n := by
      intro y hy
      rw [List.mem_range]
      rcases List.mem_cons.mp hy with e | e
      · rw [e]; exact hx
      · obtain ⟨p, p1, p2⟩ := List.mem_map.mp e
        rw [← p2]; exact h1 p (List.mem_range.mp p1)
    have := hnd2.length_le_of_subset hsub
    rw [List.length_cons, List.length_map, List.length_range] at this
    omega
theorem zau_d {n : Nat} {tw : Nat → Nat} {d : Nat → Nat → Nat} (hT : zTR (fun p => p < n) tw d) (h0 : 0 < n) {l : List Nat} (ha : zau n tw l) : ∀ k p, p < n → d 0 p = k → d (zgi l 0) (zgi l p) = k := by
  obtain ⟨a0, a1, a2, a3⟩ := ha
  have hr := a1 0 h0
  intro k
  induction k using Nat.strongRecOn with
  | ind k ih =>
    intro p hp hk
    by_cases e : p = 0
    · subst e
      rw [hT.2.2.1 _ hr]
      rw [hT.2.2.1 0 h0] at hk
      exact hk
    · obtain ⟨u, u1, u2, u3⟩ := zcd_par hT h0 hp e
      obtain ⟨v1, v2, v3, v4⟩ := zcd_n hT h0 u1 u2
      have hu := ih (d 0 u) (by omega) u u1 rfl
      have hadj := (a3 p u hp u1).mpr v3
      rcases hT.2.2.2.2.1 (zgi l 0) (zgi l p) (zgi l u) hr (a1 p hp) hadj with c | c
      · omega
      · exfalso
        have hu0 : u ≠ 0 := by
          intro e0
          rw [e0, hT.2.2.1 0 h0] at hu
          rw [e0] at c
          omega
        obtain ⟨w, w1, w2, w3⟩ := zcd_par hT h0 u1 hu0
        obtain ⟨x1, x2, x3, x4⟩ := zcd_n hT h0 w1 w2
        have hw := ih (d 0 w) (by omega) w w1 rfl
        have hune : zgi l u ≠ zgi l 0 := fun e => hu0 (a2 u 0 u1 h0 e)
        obtain ⟨y, y1, y2, y3⟩ := hT.2.2.2.2.2 (zgi l 0) (zgi l u) hr (a1 u u1) hune
        have e1 := y3 (zgi l w) ((a3 u w u1 w1).mpr x3) (by omega)
        have e2 := y3 (zgi l p) ((a3 u p u1 hp).mpr ((hT.2.1 p u hp v3).2.1)) (by omega)
        have := a2 p w hp w1 (e2.trans e1.symm)
        rw [this] at hk v4
        omega
theorem zau_cd {n : Nat} {tw : Nat → Nat} {d : Nat → Nat → Nat} (hT : zTR (fun p => p < n) tw d) (h0 : 0 < n) {l : List Nat} (ha : zau n tw l) {p q : Nat} (hp : p < n) (hq : q < n) : zcd tw d (zgi l 0) (zgi l p) (zgi l q) = true ↔ zcd tw d 0 p q = true := by
  obtain ⟨a0, a1, a2, a3⟩ := id ha
  rw [zcd_iff hT (a1 0 h0) (a1 p hp), zcd_iff hT h0 hp, a3 p q hp hq, zau_d hT h0 ha _ p hp rfl, zau_d hT h0 ha _ q hq rfl]
theorem zcls_nodup {tw : Nat → Nat} {d : Nat → Nat → Nat} {n r p : Nat} : (zcls tw d n r p).Nodup := List.Pairwise.filter _ List.nodup_range
theorem zau_K {n : Nat} {tw : Nat → Nat} {d : Nat → Nat → Nat} (hn : n ≤ 8) (hT : zTR (fun p => p < n) tw d) (h0 : 0 < n) {l : List Nat} (ha : zau n tw l) : ∀ j p, p < n → d 0 p + j = n → zKc tw d n (zgi l 0) (zgi l p) = zKc tw d n 0 p := by
  obtain ⟨a0, a1, a2, a3⟩ := id ha
  intro j
  induction j with
  | zero =>
    intro p hp hj
    have := hT.lt h0 hp
    omega
  | succ j ih =>
    intro p hp hj
    rw [zKc_iff hn hT (a1 0 h0) (a1 p hp) h0 hp]
    have e1 : (zcls tw d n (zgi l 0) (zgi l p)).Perm ((zcls tw d n 0 p).map (zgi l)) := by
      rw [List.perm_ext_iff_of_nodup zcls_nodup]
      · intro x
        rw [zcls_mem, List.mem_map]
        constructor
        · rintro ⟨x1, x2⟩
          obtain ⟨q, q1, q2⟩ := zsurj a1 a2 x1
          refine ⟨q, zcls_mem.mpr ⟨q1, ?_⟩, q2⟩
          rw [← q2, zau_cd hT h0 ha hp q1] at x2
          exact x2
        · rintro ⟨q, q1, rfl⟩
          obtain ⟨m1, m2⟩ := zcls_mem.mp q1
          exact ⟨a1 q m1, (zau_cd hT h0 ha hp m1).mpr m2⟩
      · unfold List.Nodup
        rw [List.pairwise_map]
        refine List.Pairwise.imp_of_mem ?_ (zcls_nodup (tw := tw) (d := d) (n := n) (r := 0) (p := p))
        intro a b ha hb hab e
        exact hab (a2 a b (zcls_mem.mp ha).1 (zcls_mem.mp hb).1 e)
    have e2 := e1.map (zKc tw d n (zgi l 0))
    rw [List.map_map] at e2
    have e3 : (zcls tw d n 0 p).map (zKc tw d n (zgi l 0) ∘ zgi l) = zkl tw d n 0 p := by
      unfold zkl
      apply List.map_congr_left
      intro q hq
      obtain ⟨m1, m2⟩ := zcls_mem.mp hq
      have := (zcd_n hT h0 hp m2).2.2.2
      exact ih q m1 (by omega)
    rw [e3] at e2
    exact e2
/-! sums and products -/
theorem zpc_set (P : Nat → Bool) {n : Nat} (hn : n ≤ 8) : zpc (zset P n) = zsum (fun i => if P i = true then 1 else 0) n := by
  rw [zpc_m hn (zset_lt P n)]
  apply zsum_ext
  intro i hi
  unfold zbi
  have := zset_iff P n i
  by_cases c : P i = true
  · rw [if_pos c, if_pos (this.mpr ⟨hi, c⟩)]
  · rw [if_neg c, if_neg (fun t => c (this.mp t).2)]
theorem zcount (P : Nat → Bool) (g : Nat → Nat) (c : Nat) : ∀ n, (((List.range n).filter P).map g).count c = zsum (fun q => if P q = true ∧ g q = c then 1 else 0) n
  | 0 => rfl
  | n + 1 => by
    rw [List.range_succ, List.filter_append, List.map_append, List.count_append, zcount P g c n]
    show _ = zsum (fun q => if P q = true ∧ g q = c then 1 else 0) n + (if P n = true ∧ g n = c then 1 else 0)
    congr 1
    by_cases c1 : P n = true
    · by_cases c2 : g n = c
      · rw [if_pos ⟨c1, c2⟩]
        simp [c1, c2]
      · rw [if_neg (fun h => c2 h.2)]
        simp [c1, c2]
    · rw [if_neg (fun h => c1 h.1)]
      simp [c1]
theorem zfp_filter (P : Nat → Bool) (g : Nat → Nat) : ∀ n, zfp (((List.range n).filter P).map g) = zprd (fun v => if P v = true then 1 + zsum (fun x => if P x = true ∧ g x = g v then 1 else 0) v else 1) n
  | 0 => rfl
  | n + 1 => by
    rw [List.range_succ, List.filter_append, List.map_append]
    show _ = zprd (fun v => if P v = true then 1 + zsum (fun x => if P x = true ∧ g x = g v then 1 else 0) v else 1) n * (if P n = true then 1 + zsum (fun x => if P x = true ∧ g x = g n then 1 else 0) n else 1)
    rw [← zfp_filter P g n]
    by_cases c1 : P n = true
    · have e : ([n].filter P).map g = [g n] := by simp [c1]
      rw [e, if_pos c1, zfp_perm (List.perm_append_singleton _ _)]
      show (1 + (((List.range n).filter P).map g).count (g n)) * _ = _
      rw [zcount, Nat.mul_comm]
    · have e : ([n].filter P).map g = [] := by simp [c1]
      rw [e, if_neg c1, List.append_nil, Nat.mul_one]
theorem zprd_one {n : Nat} {f : Nat → Nat} (h : ∀ p, p < n → f p = 1) : zprd f n = 1 := by
  induction n with
  | zero => rfl
  | succ n ih =>
    show zprd f n * f n = 1
    rw [ih (fun p hp => h p (by omega)), h n (by omega)]
theorem zprd_mul (f g : Nat → Nat) : ∀ n, zprd (fun i => f i * g i) n = zprd f n * zprd g n
  | 0 => rfl
  | n + 1 => by
    show zprd (fun i => f i * g i) n * (f n * g n) = (zprd f n * f n) * (zprd g n * g n)
    rw [zprd_mul f g n]
    simp only [Nat.mul_assoc, Nat.mul_left_comm, Nat.mul_comm]
theorem zprd_swap (F : Nat → Nat → Nat) (m : Nat) : ∀ n, zprd (fun p => zprd (fun q => F p q) m) n = zprd (fun q => zprd (fun p => F p q) n) m
  | 0 => by
    show 1 = zprd (fun q => 1) m
    rw [zprd_one (fun _ _ => rfl)]
  | n + 1 => by
    show zprd (fun p => zprd (fun q => F p q) m) n * zprd (fun q => F n q) m = zprd (fun q => zprd (fun p => F p q) n * F n q) m
    rw [zprd_swap F m n, zprd_mul]
theorem zprd_at {n : Nat} {f : Nat → Nat} {p0 : Nat} (h0 : p0 < n) (h : ∀ p, p < n → p ≠ p0 → f p = 1) : zprd f n = f p0 := by
  have := zprd_upd (f := fun _ => 1) (g := f) (p := p0) (x := f p0) h0 (fun i hi hne => h i hi hne) (by rw [Nat.one_mul])
  rw [this, zprd_one (fun _ _ => rfl), Nat.one_mul]
/-! lists of names -/
theorem zgi_ext {l l' : List Nat} (h : l.length = l'.length) (h2 : ∀ i, i < l.length → zgi l i = zgi l' i) : l = l' := by
  apply List.ext_getElem? 
  intro i
  by_cases c : i < l.length
  · rw [zgi_at c, zgi_at (by omega), h2 i c]
  · rw [List.getElem?_eq_none (by omega), List.getElem?_eq_none (by omega)]
theorem zgi_set {l : List Nat} {v : Nat} (hv : v < l.length) (w x : Nat) : zgi (l.set v w) x = if x = v then w else zgi l x := by
  unfold zgi
  by_cases e : x = v
  · rw [if_pos e, e, List.getElem?_set_self hv]
    rfl
  · rw [if_neg e, List.getElem?_set_ne (fun q => e q.symm)]
theorem zgi_map {n : Nat} {f : Nat → Nat} {x : Nat} (hx : x < n) : zgi ((List.range n).map f) x = f x := by
  unfold zgi
  rw [List.getElem?_map, List.getElem?_range hx]
  rfl
def zbl (m : Nat) : List Nat := (List.range 8).filter (fun i => m.testBit i)
theorem zbl_len (m : Nat) : (zbl m).length = zpc m := by
  unfold zbl zpc
  rw [List.countP_eq_length_filter]
theorem zbl_mem {m x : Nat} : x ∈ zbl m ↔ x < 8 ∧ m.testBit x = true := by
  unfold zbl
  rw [List.mem_filter, List.mem_range]
theorem zflat_len {B : List (List Nat)} {f : List Nat → List (List Nat)} {c : Nat} (h : ∀ l, l ∈ B → (f l).length = c) : (B.flatMap f).length = B.length * c := by
  induction B with
  | nil => simp
  | cons b B ih =>
    rw [List.flatMap_cons, List.length_append, h b (by simp), ih (fun l hl => h l (by simp [hl])), List.length_cons, Nat.add_mul, Nat.one_mul, Nat.add_comm]
