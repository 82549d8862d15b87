/-! PURE: alike: how many there are -/
theorem zJ_0 {n : Nat} {tw : Nat → Nat} {d : Nat → Nat → Nat} (hT : zTR (fun p => p < n) tw d) (h0 : 0 < n) (r : Nat) (pa : Nat → Nat) : zJ tw d n r pa 0 ((List.range n).map (fun x => if x = 0 then r else 0)) := by
  refine ⟨by rw [List.length_map, List.length_range], by rw [zgi_map h0, if_pos rfl], fun x hx h => ?_, fun x hx hne h => ?_, fun x y hx hy h1 h2 _ => ?_⟩
  · rw [zgi_map hx, if_neg]
    intro e
    have := (zky_0 hT h0 hx).mpr e
    omega
  · exact absurd ((zky_0 hT h0 hx).mp h) hne
  · rw [(zky_0 hT h0 hx).mp h1, (zky_0 hT h0 hy).mp h2]
theorem zJ_s {n : Nat} {tw : Nat → Nat} {d : Nat → Nat → Nat} (hT : zTR (fun p => p < n) tw d) (h0 : 0 < n) {r : Nat} (hr : r < n) {pa : Nat → Nat} (hpa : zpa tw d n pa) {s : Nat} {l : List Nat} (hJ : zJ tw d n r pa s l) {v : Nat} (hv : v < n) (hk : zky d n v = n + s) {w : Nat} (hw : (zcm tw d n r (pa v) v l).testBit w = true) : zJ tw d n r pa (s + 1) (l.set v w) := by
  obtain ⟨j1, j2, j3, j4, j5⟩ := hJ
  obtain ⟨w1, w2, w3, w4⟩ := zcm_bit.mp hw
  have hv0 : v ≠ 0 := by
    intro e
    have := (zky_0 hT h0 hv).mpr e
    omega
  obtain ⟨u1, u2, u3⟩ := hpa v hv hv0
  have hku := zky_par hT h0 u1 hv u2
  have hun : pa v ≠ v := fun e => by rw [e] at hku; omega
  have gs : ∀ x, zgi (l.set v w) x = if x = v then w else zgi l x := fun x => zgi_set (by omega) w x
  have hgu : zgi l (pa v) < n := by
    by_cases e : pa v = 0
    · rw [e, j2]; exact hr
    · exact (j4 (pa v) u1 e (by omega)).1
  -- w is no one's name yet
  have hfree : ∀ x, x < n → zky d n x < n + s → zgi l x ≠ w := by
    intro x hx hkx e
    have hwr : w ≠ r := (zcd_n hT hr hgu w2).2.1
    by_cases e0 : x = 0
    · rw [e0, j2] at e
      exact hwr e.symm
    · obtain ⟨q1, q2, q3⟩ := j4 x hx e0 hkx
      obtain ⟨x1, x2, x3⟩ := hpa x hx e0
      have hkp := zky_par hT h0 x1 hx x2
      have hgx : zgi l (pa x) < n := by
        by_cases e1 : pa x = 0
        · rw [e1, j2]; exact hr
        · exact (j4 (pa x) x1 e1 (by omega)).1
      rw [e] at q2
      obtain ⟨p, p1, p2, p3⟩ := zcd_par hT hr w1 hwr
      have e2 : zgi l (pa x) = zgi l (pa v) := (p3 _ hgx q2).trans (p3 _ hgu w2).symm
      have e3 := j5 (pa x) (pa v) x1 u1 (by omega) (by omega) e2
      rw [e3] at x2
      have hvx : v < x := by
        have a1 := (zcd_n hT h0 u1 x2).2.2.2
        have a2 := (zcd_n hT h0 u1 u2).2.2.2
        rw [← hk] at hkx
        unfold zky at hkx
        rw [← a1, ← a2] at hkx
        omega
      exact w4 x hvx hx x2 e
  refine ⟨by rw [List.length_set]; exact j1, by rw [gs, if_neg (fun e => hv0 e.symm)]; exact j2, fun x hx h => ?_, fun x hx hne h => ?_, fun x y hx hy h1 h2 e => ?_⟩
  · rw [gs, if_neg (fun e => by rw [e] at h; omega)]
    exact j3 x hx (by omega)
  · by_cases e : x = v
    · rw [e, gs, gs, if_pos rfl, if_neg hun]
      exact ⟨w1, w2, w3⟩
    · have hkx : zky d n x < n + s := by
        have : zky d n x ≠ zky d n v := fun q => e (zky_inj hx hv q)
        omega
      obtain ⟨q1, q2, q3⟩ := j4 x hx hne hkx
      have hpx : pa x ≠ v := by
        intro q
        obtain ⟨x1, x2, x3⟩ := hpa x hx hne
        have := zky_par hT h0 x1 hx x2
        rw [q] at this
        omega
      rw [gs, gs, if_neg e, if_neg hpx]
      exact ⟨q1, q2, q3⟩
  · have lt : ∀ z, z < n → z ≠ v → zky d n z < n + (s + 1) → zky d n z < n + s := by
      intro z hz hne h
      have : zky d n z ≠ zky d n v := fun q => hne (zky_inj hz hv q)
      omega
    rw [gs, gs] at e
    by_cases e1 : x = v
    · by_cases e2 : y = v
      · rw [e1, e2]
      · rw [if_pos e1, if_neg e2] at e
        exact absurd e.symm (hfree y hy (lt y hy e2 h2))
    · by_cases e2 : y = v
      · rw [if_neg e1, if_pos e2] at e
        exact absurd e (hfree x hx (lt x hx e1 h1))
      · rw [if_neg e1, if_neg e2] at e
        exact j5 x y hx hy (lt x hx e1 h1) (lt y hy e2 h2) e
theorem zJ_n {n : Nat} {tw : Nat → Nat} {d : Nat → Nat → Nat} {r : Nat} {pa : Nat → Nat} {s : Nat} {l : List Nat} (hJ : zJ tw d n r pa s l) (hno : ∀ v, v < n → zky d n v ≠ n + s) : zJ tw d n r pa (s + 1) l := by
  obtain ⟨j1, j2, j3, j4, j5⟩ := hJ
  have lt : ∀ z, z < n → zky d n z < n + (s + 1) → zky d n z < n + s := fun z hz h => by
    have := hno z hz
    omega
  exact ⟨j1, j2, fun x hx h => j3 x hx (by omega), fun x hx hne h => j4 x hx hne (lt x hx h), fun x y hx hy h1 h2 e => j5 x y hx hy (lt x hx h1) (lt y hy h2) e⟩
theorem zBs_ok {n : Nat} {tw : Nat → Nat} {d : Nat → Nat → Nat} (hn : n ≤ 8) (hT : zTR (fun p => p < n) tw d) (h0 : 0 < n) {r : Nat} (hr : r < n) (hrr : zKc tw d n r r = zKc tw d n 0 0) {pa : Nat → Nat} (hpa : zpa tw d n pa) : ∀ s, (∀ l, l ∈ zBs tw d n r pa s → zJ tw d n r pa s l) ∧ (zBs tw d n r pa s).Nodup ∧ (zBs tw d n r pa s).length = zprd (fun v => if v ≠ 0 ∧ zky d n v < n + s then zfv tw d n pa v else 1) n := by
  intro s
  induction s with
  | zero =>
    refine ⟨fun l hl => ?_, ?_, ?_⟩
    · have : l = (List.range n).map (fun x => if x = 0 then r else 0) := by
        simpa [zBs] using hl
      rw [this]
      exact zJ_0 hT h0 r pa
    · show [(List.range n).map (fun x => if x = 0 then r else 0)].Nodup
      simp
    · show 1 = _
      rw [zprd_one]
      intro v hv
      rw [if_neg]
      rintro ⟨h1, h2⟩
      exact h1 ((zky_0 hT h0 hv).mp h2)
  | succ s ih =>
    obtain ⟨i1, i2, i3⟩ := ih
    obtain ⟨v, hv⟩ : ∃ v, v = n - 1 - s % n := ⟨_, rfl⟩
    have hvn : v < n := by omega
    unfold zBs
    rw [← hv]
    by_cases c : zky d n v = n + s
    · rw [if_pos c]
      have hv0 : v ≠ 0 := by
        intro e
        have := (zky_0 hT h0 hvn).mpr e
        omega
      refine ⟨fun l hl => ?_, ?_, ?_⟩
      · obtain ⟨b, b1, b2⟩ := List.mem_flatMap.mp hl
        obtain ⟨w, w1, rfl⟩ := List.mem_map.mp b2
        exact zJ_s hT h0 hr hpa (i1 b b1) hvn c (zbl_mem.mp w1).2
      · unfold List.Nodup
        rw [List.pairwise_flatMap]
        refine ⟨fun b hb => ?_, ?_⟩
        · rw [List.pairwise_map]
          have hnd : (zbl (zcm tw d n r (pa v) v b)).Nodup := List.Pairwise.filter _ List.nodup_range
          refine List.Pairwise.imp ?_ hnd
          intro x y hxy e
          have hl := (i1 b hb).1
          have e1 := congrArg (fun z => zgi z v) e
          rw [zgi_set (by omega), zgi_set (by omega), if_pos rfl, if_pos rfl] at e1
          exact hxy e1
        · refine List.Pairwise.imp_of_mem ?_ i2
          intro a b ha hb hab x hx y hy e
          obtain ⟨w, w1, rfl⟩ := List.mem_map.mp hx
          obtain ⟨w', w1', rfl⟩ := List.mem_map.mp hy
          obtain ⟨a1, a2, a3, -, -⟩ := i1 a ha
          obtain ⟨b1, b2, b3, -, -⟩ := i1 b hb
          apply hab
          apply zgi_ext (by omega)
          intro i hi
          by_cases ei : i = v
          · rw [ei, a3 v hvn (by omega), b3 v hvn (by omega)]
          · have e1 := congrArg (fun z => zgi z i) e
            rw [zgi_set (by omega), zgi_set (by omega), if_neg ei, if_neg ei] at e1
            exact e1
      · rw [zflat_len (c := zfv tw d n pa v), i3]
        · refine (zprd_upd hvn (fun x hx hne => ?_) ?_).symm
          · have : zky d n x ≠ zky d n v := fun q => hne (zky_inj hx hvn q)
            by_cases c1 : x ≠ 0 ∧ zky d n x < n + s
            · rw [if_pos c1, if_pos ⟨c1.1, by omega⟩]
            · rw [if_neg c1, if_neg (fun h => c1 ⟨h.1, by omega⟩)]
          · rw [if_pos ⟨hv0, by omega⟩, if_neg (by omega), Nat.one_mul]
        · intro l hl
          rw [List.length_map, zbl_len]
          exact zcm_pc hn hT h0 hr hrr hpa (i1 l hl) hvn c
    · rw [if_neg c]
      have hno : ∀ x, x < n → zky d n x ≠ n + s := fun x hx e => by
        have := zky_v hx e
        rw [← hv] at this
        rw [this] at e
        exact c e
      refine ⟨fun l hl => zJ_n (i1 l hl) hno, i2, ?_⟩
      rw [i3]
      apply zprd_ext
      intro x hx
      have := hno x hx
      by_cases c1 : x ≠ 0 ∧ zky d n x < n + s
      · rw [if_pos c1, if_pos ⟨c1.1, by omega⟩]
      · rw [if_neg c1, if_neg (fun h => c1 ⟨h.1, by omega⟩)]
theorem zky_lt {n : Nat} {tw : Nat → Nat} {d : Nat → Nat → Nat} (hT : zTR (fun p => p < n) tw d) (h0 : 0 < n) {x : Nat} (hx : x < n) : zky d n x < n + n * n := by
  have := hT.lt h0 hx
  unfold zky
  have : d 0 x * n ≤ n * n := Nat.mul_le_mul (by omega) (Nat.le_refl n)
  omega
/-- all names that are given so are such names, and all such are given -/
theorem zBs_iff {n : Nat} {tw : Nat → Nat} {d : Nat → Nat → Nat} (hn : n ≤ 8) (hT : zTR (fun p => p < n) tw d) (h0 : 0 < n) {r : Nat} (hr : r < n) (hrr : zKc tw d n r r = zKc tw d n 0 0) {pa : Nat → Nat} (hpa : zpa tw d n pa) (l : List Nat) : l ∈ zBs tw d n r pa (n * n) ↔ zau n tw l ∧ zgi l 0 = r := by
  constructor
  · intro hl
    obtain ⟨j1, j2, j3, j4, j5⟩ := (zBs_ok hn hT h0 hr hrr hpa (n * n)).1 l hl
    have kl : ∀ x, x < n → zky d n x < n + n * n := fun x hx => zky_lt hT h0 hx
    have hlt : ∀ p, p < n → zgi l p < n := by
      intro p hp
      by_cases e : p = 0
      · rw [e, j2]; exact hr
      · exact (j4 p hp e (kl p hp)).1
    have fw : ∀ p q, p < n → q < n → zcd tw d 0 p q = true → (tw (zgi l p)).testBit (zgi l q) = true := by
      intro p q hp hq h
      have hq0 := (zcd_n hT h0 hp h).2.1
      have hpq := (hpa q hq hq0).2.2 p hp h
      have := (j4 q hq hq0 (kl q hq)).2.1
      rw [← hpq] at this
      exact ((zcd_iff hT hr (hlt p hp)).mp this).1
    have bw : ∀ p q, p < n → q < n → zcd tw d r (zgi l p) (zgi l q) = true → (tw p).testBit q = true := by
      intro p q hp hq h
      have hqr := (zcd_n hT hr (hlt p hp) h).2.1
      have hq0 : q ≠ 0 := fun e => hqr (by rw [e, j2])
      obtain ⟨x1, x2, x3⟩ := hpa q hq hq0
      have h2 := (j4 q hq hq0 (kl q hq)).2.1
      obtain ⟨y, y1, y2, y3⟩ := zcd_par hT hr (hlt q hq) hqr
      have e := (y3 _ (hlt p hp) h).trans (y3 _ (hlt _ x1) h2).symm
      have e2 := j5 p (pa q) hp x1 (kl p hp) (kl _ x1) e
      rw [e2]
      exact ((zcd_iff hT h0 x1).mp x2).1
    refine ⟨⟨j1, hlt, fun p q hp hq e => j5 p q hp hq (kl p hp) (kl q hq) e, fun p q hp hq => ⟨fun h => ?_, fun h => ?_⟩⟩, j2⟩
    · rcases hT.2.2.2.2.1 r (zgi l p) (zgi l q) hr (hlt p hp) h with c | c
      · have hs := (hT.2.1 _ _ (hlt p hp) h).2.1
        have := bw q p hq hp ((zcd_iff hT hr (hlt q hq)).mpr ⟨hs, c.symm⟩)
        exact (hT.2.1 q p hq this).2.1
      · exact bw p q hp hq ((zcd_iff hT hr (hlt p hp)).mpr ⟨h, c.symm⟩)
    · rcases hT.2.2.2.2.1 0 p q h0 hp h with c | c
      · have hs := (hT.2.1 _ _ hp h).2.1
        have := fw q p hq hp ((zcd_iff hT h0 hq).mpr ⟨hs, c.symm⟩)
        exact (hT.2.1 _ _ (hlt q hq) this).2.1
      · exact fw p q hp hq ((zcd_iff hT h0 hp).mpr ⟨h, c.symm⟩)
  · rintro ⟨ha, hl0⟩
    obtain ⟨a0, a1, a2, a3⟩ := id ha
    have key : ∀ s, (List.range n).map (fun x => if zky d n x < n + s then zgi l x else 0) ∈ zBs tw d n r pa s := by
      intro s
      induction s with
      | zero =>
        have : (List.range n).map (fun x => if zky d n x < n + 0 then zgi l x else 0) = (List.range n).map (fun x => if x = 0 then r else 0) := by
          apply List.map_congr_left
          intro x hx
          rw [List.mem_range] at hx
          rw [Nat.add_zero]
          by_cases e : x = 0
          · rw [if_pos e, if_pos ((zky_0 hT h0 hx).mpr e), e, hl0]
          · rw [if_neg e, if_neg (fun h => e ((zky_0 hT h0 hx).mp h))]
        rw [this]
        simp [zBs]
      | succ s ih =>
        obtain ⟨v, hv⟩ : ∃ v, v = n - 1 - s % n := ⟨_, rfl⟩
        have hvn : v < n := by omega
        unfold zBs
        rw [← hv]
        by_cases c : zky d n v = n + s
        · rw [if_pos c]
          have hv0 : v ≠ 0 := by
            intro e
            have := (zky_0 hT h0 hvn).mpr e
            omega
          obtain ⟨u1, u2, u3⟩ := hpa v hvn hv0
          have hku := zky_par hT h0 u1 hvn u2
          rw [List.mem_flatMap]
          refine ⟨_, ih, ?_⟩
          rw [List.mem_map]
          refine ⟨zgi l v, zbl_mem.mpr ⟨by have := a1 v hvn; omega, ?_⟩, ?_⟩
          · rw [zcm_bit]
            refine ⟨a1 v hvn, ?_, ?_, fun x x1 x2 x3 => ?_⟩
            · rw [zgi_map u1, if_pos (by omega), ← hl0]
              exact (zau_cd hT h0 ha u1 hvn).mpr u2
            · rw [← hl0]
              have := hT.lt h0 hvn
              exact zau_K hn hT h0 ha (n - d 0 v) v hvn (by omega)
            · have hkx : zky d n x < n + s := by
                have a1 := (zcd_n hT h0 u1 x3).2.2.2
                have a2 := (zcd_n hT h0 u1 u2).2.2.2
                rw [← c]
                unfold zky
                rw [← a1, ← a2]
                omega
              rw [zgi_map x2, if_pos hkx]
              intro e
              have := a2 x v x2 hvn e
              omega
          · apply zgi_ext
            · rw [List.length_set, List.length_map, List.length_map]
            · intro i hi
              rw [List.length_set, List.length_map, List.length_range] at hi
              rw [zgi_set (by rw [List.length_map, List.length_range]; exact hvn), zgi_map hi]
              by_cases e : i = v
              · rw [if_pos e, e, zgi_map hvn, if_pos (by omega)]
              · rw [if_neg e, zgi_map hi]
                have : zky d n i ≠ zky d n v := fun q => e (zky_inj hi hvn q)
                by_cases c1 : zky d n i < n + s
                · rw [if_pos c1, if_pos (by omega)]
                · rw [if_neg c1, if_neg (by omega)]
        · rw [if_neg c]
          have hno : ∀ x, x < n → zky d n x ≠ n + s := fun x hx e => by
            have := zky_v hx e
            rw [← hv] at this
            rw [this] at e
            exact c e
          have : (List.range n).map (fun x => if zky d n x < n + (s + 1) then zgi l x else 0) = (List.range n).map (fun x => if zky d n x < n + s then zgi l x else 0) := by
            apply List.map_congr_left
            intro x hx
            rw [List.mem_range] at hx
            have := hno x hx
            by_cases c1 : zky d n x < n + s
            · rw [if_pos c1, if_pos (by omega)]
            · rw [if_neg c1, if_neg (by omega)]
          rw [this]
          exact ih
    have e : (List.range n).map (fun x => if zky d n x < n + n * n then zgi l x else 0) = l := by
      apply zgi_ext
      · rw [List.length_map, List.length_range, a0]
      · intro i hi
        rw [List.length_map, List.length_range] at hi
        rw [zgi_map hi, if_pos (zky_lt hT h0 hi)]
    have hk := key (n * n)
    rw [e] at hk
    exact hk
theorem zBs_len {n : Nat} {tw : Nat → Nat} {d : Nat → Nat → Nat} (hn : n ≤ 8) (hT : zTR (fun p => p < n) tw d) (h0 : 0 < n) {r : Nat} (hr : r < n) (hrr : zKc tw d n r r = zKc tw d n 0 0) {pa : Nat → Nat} (hpa : zpa tw d n pa) : (zBs tw d n r pa (n * n)).length = zTu tw d n 0 := by
  rw [(zBs_ok hn hT h0 hr hrr hpa (n * n)).2.2]
  unfold zTu
  have e1 : zprd (fun q => zfp (zkl tw d n 0 q)) n = zprd (fun u => zprd (fun v => if zcd tw d 0 u v = true then 1 + zsum (fun x => if zcd tw d 0 u x = true ∧ zKc tw d n 0 x = zKc tw d n 0 v then 1 else 0) v else 1) n) n := by
    apply zprd_ext
    intro u hu
    unfold zkl zcls
    rw [zfp_filter]
  rw [e1, zprd_swap (fun u v => if zcd tw d 0 u v = true then 1 + zsum (fun x => if zcd tw d 0 u x = true ∧ zKc tw d n 0 x = zKc tw d n 0 v then 1 else 0) v else 1)]
  apply zprd_ext
  intro v hv
  by_cases e : v = 0
  · rw [if_neg (fun h => h.1 e), zprd_one]
    intro u hu
    rw [if_neg]
    intro h
    exact (zcd_n hT h0 hu h).2.1 e
  · obtain ⟨u1, u2, u3⟩ := hpa v hv e
    rw [if_pos ⟨e, zky_lt hT h0 hv⟩, zprd_at (p0 := pa v) u1, if_pos u2]
    · rfl
    · intro p hp hne
      rw [if_neg (fun h => hne (u3 p hp h))]
/-- of a list of all such names: as many as turns times places -/
theorem zau_count {n : Nat} {tw : Nat → Nat} {d : Nat → Nat → Nat} (hn : n ≤ 8) (hT : zTR (fun p => p < n) tw d) (h0 : 0 < n) {A : List (List Nat)} (hA : A.Nodup) (hm : ∀ l, l ∈ A ↔ zau n tw l) : A.length = zTu tw d n 0 * zsum (fun r => if zKc tw d n r r = zKc tw d n 0 0 then 1 else 0) n := by
  obtain ⟨pa, hpa⟩ := zpa_ex hT h0
  have part : ∀ r, r < n → (A.filter (fun l => decide (zgi l 0 = r))).length = zTu tw d n 0 * (if zKc tw d n r r = zKc tw d n 0 0 then 1 else 0) := by
    intro r hr
    by_cases c : zKc tw d n r r = zKc tw d n 0 0
    · rw [if_pos c, Nat.mul_one, ← zBs_len hn hT h0 hr c hpa]
      apply List.Perm.length_eq
      rw [List.perm_ext_iff_of_nodup (List.Pairwise.filter _ hA) (zBs_ok hn hT h0 hr c hpa (n * n)).2.1]
      intro l
      rw [List.mem_filter, zBs_iff hn hT h0 hr c hpa l, hm, decide_eq_true_iff]
    · rw [if_neg c, Nat.mul_zero]
      rw [List.length_eq_zero_iff, List.filter_eq_nil_iff]
      intro l hl hd
      rw [decide_eq_true_iff] at hd
      apply c
      have ha := (hm l).mp hl
      have := hT.lt h0 h0
      have := zau_K hn hT h0 ha (n - d 0 0) 0 h0 (by omega)
      rw [hd] at this
      exact this
  have sum : ∀ m, (A.filter (fun l => decide (zgi l 0 < m))).length = zsum (fun r => (A.filter (fun l => decide (zgi l 0 = r))).length) m := by
    intro m
    induction m with
    | zero =>
      show _ = 0
      rw [List.length_eq_zero_iff, List.filter_eq_nil_iff]
      intro l _ h
      rw [decide_eq_true_iff] at h
      omega
    | succ m ih =>
      show _ = zsum (fun r => (A.filter (fun l => decide (zgi l 0 = r))).length) m + (A.filter (fun l => decide (zgi l 0 = m))).length
      rw [← ih, ← List.countP_eq_length_filter, ← List.countP_eq_length_filter, ← List.countP_eq_length_filter]
      clear ih part hm hA
      induction A with
      | nil => rfl
      | cons a A ihA =>
        rw [List.countP_cons, List.countP_cons, List.countP_cons, ihA]
        by_cases c1 : zgi a 0 < m
        · have c2 : zgi a 0 < m + 1 := by omega
          have c3 : ¬ zgi a 0 = m := by omega
          simp only [c1, c2, c3, decide_true, decide_false, if_true, if_false, Bool.false_eq_true]
          omega
        · by_cases c3 : zgi a 0 = m
          · have c2 : zgi a 0 < m + 1 := by omega
            have c1' : ¬ zgi a 0 < m := c1
            simp only [c1', c2, decide_true, decide_false, if_true, if_false, Bool.false_eq_true, decide_eq_true c3]
            omega
          · have c2 : ¬ zgi a 0 < m + 1 := by omega
            simp only [c1, c2, c3, decide_false, if_false, Bool.false_eq_true]
            omega
  have all : A.filter (fun l => decide (zgi l 0 < n)) = A := by
    rw [List.filter_eq_self]
    intro l hl
    rw [decide_eq_true_iff]
    exact ((hm l).mp hl).2.1 0 h0
  have hs := sum n
  rw [all] at hs
  rw [hs]
  have mulsum : ∀ m, m ≤ n → zsum (fun r => (A.filter (fun l => decide (zgi l 0 = r))).length) m = zTu tw d n 0 * zsum (fun r => if zKc tw d n r r = zKc tw d n 0 0 then 1 else 0) m := by
    intro m
    induction m with
    | zero => intro _; rfl
    | succ m ih =>
      intro h
      show zsum (fun r => (A.filter (fun l => decide (zgi l 0 = r))).length) m + (A.filter (fun l => decide (zgi l 0 = m))).length = zTu tw d n 0 * (zsum (fun r => if zKc tw d n r r = zKc tw d n 0 0 then 1 else 0) m + (if zKc tw d n m m = zKc tw d n 0 0 then 1 else 0))
      rw [ih (by omega), part m (by omega), Nat.mul_add]
  exact mulsum n (Nat.le_refl n)
