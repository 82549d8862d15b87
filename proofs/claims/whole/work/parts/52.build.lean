/-! PURE: alike: names are given post by post -/
def zky (d : Nat → Nat → Nat) (n x : Nat) : Nat := d 0 x * n + (n - 1 - x)
/-- for v, that hangs on u: who may have its name -/
def zcm (tw : Nat → Nat) (d : Nat → Nat → Nat) (n r u v : Nat) (l : List Nat) : Nat := zset (fun w => zcd tw d r (zgi l u) w && decide (zKc tw d n r w = zKc tw d n 0 v) && (List.range n).all (fun x => !(decide (v < x) && zcd tw d 0 u x && decide (zgi l x = w)))) n
theorem zcm_bit {tw : Nat → Nat} {d : Nat → Nat → Nat} {n r u v w : Nat} {l : List Nat} : (zcm tw d n r u v l).testBit w = true ↔ w < n ∧ zcd tw d r (zgi l u) w = true ∧ zKc tw d n r w = zKc tw d n 0 v ∧ ∀ x, v < x → x < n → zcd tw d 0 u x = true → zgi l x ≠ w := by
  unfold zcm
  rw [zset_iff]
  simp only [Bool.and_eq_true, decide_eq_true_iff, List.all_eq_true, List.mem_range, Bool.not_eq_true', Bool.and_eq_false_imp, decide_eq_false_iff_not]
  constructor
  · rintro ⟨h1, ⟨h2, h3⟩, h4⟩
    exact ⟨h1, h2, h3, fun x x1 x2 x3 => h4 x x2 ⟨x1, x3⟩⟩
  · rintro ⟨h1, h2, h3, h4⟩
    exact ⟨h1, ⟨h2, h3⟩, fun x x2 x1 => h4 x x1.1 x2 x1.2⟩
def zBs (tw : Nat → Nat) (d : Nat → Nat → Nat) (n r : Nat) (pa : Nat → Nat) : Nat → List (List Nat)
  | 0 => [(List.range n).map (fun x => if x = 0 then r else 0)]
  | s + 1 => if zky d n (n - 1 - s % n) = n + s then (zBs tw d n r pa s).flatMap (fun l => (zbl (zcm tw d n r (pa (n - 1 - s % n)) (n - 1 - s % n) l)).map (fun w => l.set (n - 1 - s % n) w)) else zBs tw d n r pa s
/-- what holds of names given so far -/
def zJ (tw : Nat → Nat) (d : Nat → Nat → Nat) (n r : Nat) (pa : Nat → Nat) (s : Nat) (l : List Nat) : Prop := l.length = n ∧ zgi l 0 = r ∧ (∀ x, x < n → n + s ≤ zky d n x → zgi l x = 0) ∧ (∀ x, x < n → x ≠ 0 → zky d n x < n + s → zgi l x < n ∧ zcd tw d r (zgi l (pa x)) (zgi l x) = true ∧ zKc tw d n r (zgi l x) = zKc tw d n 0 x) ∧ ∀ x y, x < n → y < n → zky d n x < n + s → zky d n y < n + s → zgi l x = zgi l y → x = y
def zpa (tw : Nat → Nat) (d : Nat → Nat → Nat) (n : Nat) (pa : Nat → Nat) : Prop := ∀ v, v < n → v ≠ 0 → pa v < n ∧ zcd tw d 0 (pa v) v = true ∧ ∀ p', p' < n → zcd tw d 0 p' v = true → p' = pa v
theorem zpa_ex {n : Nat} {tw : Nat → Nat} {d : Nat → Nat → Nat} (hT : zTR (fun p => p < n) tw d) (h0 : 0 < n) : ∃ pa, zpa tw d n pa := by
  have hq : ∀ v, ∃ p, v < n → v ≠ 0 → p < n ∧ zcd tw d 0 p v = true ∧ ∀ p', p' < n → zcd tw d 0 p' v = true → p' = p := by
    intro v
    by_cases c : v < n ∧ v ≠ 0
    · obtain ⟨p, h⟩ := zcd_par hT h0 c.1 c.2
      exact ⟨p, fun _ _ => h⟩
    · exact ⟨0, fun a b => absurd ⟨a, b⟩ c⟩
  obtain ⟨pa, hpa⟩ := Classical.axiomOfChoice hq
  exact ⟨pa, hpa⟩
theorem zky_0 {n : Nat} {tw : Nat → Nat} {d : Nat → Nat → Nat} (hT : zTR (fun p => p < n) tw d) (h0 : 0 < n) {x : Nat} (hx : x < n) : zky d n x < n ↔ x = 0 := by
  unfold zky
  constructor
  · intro h
    by_cases e : x = 0
    · exact e
    · obtain ⟨u, u1, u2, u3⟩ := zcd_par hT h0 hx e
      have := (zcd_n hT h0 u1 u2).2.2.2
      rw [← this, Nat.add_mul, Nat.one_mul] at h
      omega
  · intro e
    rw [e, hT.2.2.1 0 h0, Nat.zero_mul]
    omega
theorem zky_par {n : Nat} {tw : Nat → Nat} {d : Nat → Nat → Nat} (hT : zTR (fun p => p < n) tw d) (h0 : 0 < n) {u v : Nat} (hu : u < n) (hv : v < n) (h : zcd tw d 0 u v = true) : zky d n u < zky d n v := by
  have := (zcd_n hT h0 hu h).2.2.2
  unfold zky
  rw [← this, Nat.add_mul, Nat.one_mul]
  omega
theorem zky_v {n s v : Nat} {d : Nat → Nat → Nat} (hv : v < n) (h : zky d n v = n + s) : v = n - 1 - s % n := by
  unfold zky at h
  have e1 : (n + s) % n = s % n := Nat.add_mod_left n s
  have e2 : (d 0 v * n + (n - 1 - v)) % n = n - 1 - v := by
    rw [Nat.mul_add_mod_self_right, Nat.mod_eq_of_lt (by omega)]
  rw [h, e1] at e2
  have := Nat.mod_lt s (show 0 < n by omega)
  omega
theorem zky_inj {n : Nat} {d : Nat → Nat → Nat} {x y : Nat} (hx : x < n) (hy : y < n) (h : zky d n x = zky d n y) : x = y := by
  unfold zky at h
  have e1 : (d 0 x * n + (n - 1 - x)) % n = n - 1 - x := by rw [Nat.mul_add_mod_self_right, Nat.mod_eq_of_lt (by omega)]
  have e2 : (d 0 y * n + (n - 1 - y)) % n = n - 1 - y := by rw [Nat.mul_add_mod_self_right, Nat.mod_eq_of_lt (by omega)]
  rw [h, e2] at e1
  omega
/-- as many may have v's name as are told -/
def zfv (tw : Nat → Nat) (d : Nat → Nat → Nat) (n : Nat) (pa : Nat → Nat) (v : Nat) : Nat := 1 + zsum (fun x => if zcd tw d 0 (pa v) x = true ∧ zKc tw d n 0 x = zKc tw d n 0 v then 1 else 0) v
theorem zcm_pc {n : Nat} {tw : Nat → Nat} {d : Nat → Nat → Nat} (hn : n ≤ 8) (hT : zTR (fun p => p < n) tw d) (h0 : 0 < n) {r : Nat} (hr : r < n) (hrr : zKc tw d n r r = zKc tw d n 0 0) {pa : Nat → Nat} (hpa : zpa tw d n pa) {s : Nat} {l : List Nat} (hJ : zJ tw d n r pa s l) {v : Nat} (hv : v < n) (hk : zky d n v = n + s) : zpc (zcm tw d n r (pa v) v l) = zfv tw d n pa v := by
  obtain ⟨j1, j2, j3, j4, j5⟩ := hJ
  have hv0 : v ≠ 0 := by
    intro e
    have := (zky_0 hT h0 hv).mpr e
    omega
  obtain ⟨u1, u2, u3⟩ := hpa v hv hv0
  have hku := zky_par hT h0 u1 hv u2
  -- whose name u has
  have hu : zgi l (pa v) < n ∧ zKc tw d n r (zgi l (pa v)) = zKc tw d n 0 (pa v) := by
    by_cases e : pa v = 0
    · rw [e, j2]; exact ⟨hr, hrr⟩
    · obtain ⟨q1, q2, q3⟩ := j4 (pa v) u1 e (by omega)
      exact ⟨q1, q3⟩
  generalize hc : zKc tw d n 0 v = c
  -- those that are left when all names from j on are given
  have main : ∀ i, i ≤ n - 1 - v → zpc (zset (fun w => decide (zcd tw d r (zgi l (pa v)) w = true ∧ zKc tw d n r w = c) && (List.range n).all (fun x => !(decide (n - 1 - i < x) && zcd tw d 0 (pa v) x && decide (zgi l x = w)))) n) + zsum (fun x => if n - 1 - i < x ∧ zcd tw d 0 (pa v) x = true ∧ zKc tw d n 0 x = c then 1 else 0) n = zsum (fun w => if zcd tw d r (zgi l (pa v)) w = true ∧ zKc tw d n r w = c then 1 else 0) n := by
    intro i
    induction i with
    | zero =>
      intro _
      rw [zpc_set _ hn, zsum_none (f := fun x => if n - 1 - 0 < x ∧ zcd tw d 0 (pa v) x = true ∧ zKc tw d n 0 x = c then 1 else 0)]
      · rw [Nat.add_zero]
        apply zsum_ext
        intro w hw
        have hall : (List.range n).all (fun x => !(decide (n - 1 - 0 < x) && zcd tw d 0 (pa v) x && decide (zgi l x = w))) = true := by
          rw [List.all_eq_true]
          intro x hx
          rw [List.mem_range] at hx
          have : decide (n - 1 - 0 < x) = false := by rw [decide_eq_false_iff_not]; omega
          rw [this]
          rfl
        rw [hall, Bool.and_true]
        by_cases c1 : zcd tw d r (zgi l (pa v)) w = true ∧ zKc tw d n r w = c
        · rw [if_pos c1, if_pos (decide_eq_true c1)]
        · rw [if_neg c1, if_neg (by rw [decide_eq_true_iff]; exact c1)]
      · intro x hx
        rw [if_neg (by omega)]
    | succ i ih =>
      intro hi
      have ih' := ih (by omega)
      obtain ⟨y, hy⟩ : ∃ y, y = n - 1 - i := ⟨_, rfl⟩
      have hy2 : n - 1 - (i + 1) = y - 1 := by omega
      rw [← hy] at ih'
      rw [hy2]
      have hyv : v < y := by omega
      have hyn : y < n := by omega
      obtain ⟨M, hM⟩ : ∃ M : Nat → Nat, ∀ z, M z = zset (fun w => decide (zcd tw d r (zgi l (pa v)) w = true ∧ zKc tw d n r w = c) && (List.range n).all (fun x => !(decide (z < x) && zcd tw d 0 (pa v) x && decide (zgi l x = w)))) n := ⟨_, fun _ => rfl⟩
      have hb : ∀ z w, (M z).testBit w = true ↔ w < n ∧ (zcd tw d r (zgi l (pa v)) w = true ∧ zKc tw d n r w = c) ∧ ∀ x, z < x → x < n → zcd tw d 0 (pa v) x = true → zgi l x ≠ w := by
        intro z w
        rw [hM, zset_iff]
        simp only [Bool.and_eq_true, decide_eq_true_iff, List.all_eq_true, List.mem_range, Bool.not_eq_true', Bool.and_eq_false_imp, decide_eq_false_iff_not]
        constructor
        · rintro ⟨h1, h2, h4⟩
          exact ⟨h1, h2, fun x x1 x2 x3 => h4 x x2 ⟨x1, x3⟩⟩
        · rintro ⟨h1, h2, h4⟩
          exact ⟨h1, h2, fun x x2 x1 => h4 x x1.1 x2 x1.2⟩
      rw [← hM] at ih' ⊢
      have hMl : ∀ z, M z < 256 := fun z => by rw [hM]; exact zset_256 hn
      have hcnt : zsum (fun x => if y - 1 < x ∧ zcd tw d 0 (pa v) x = true ∧ zKc tw d n 0 x = c then 1 else 0) n = zsum (fun x => if y < x ∧ zcd tw d 0 (pa v) x = true ∧ zKc tw d n 0 x = c then 1 else 0) n + (if zcd tw d 0 (pa v) y = true ∧ zKc tw d n 0 y = c then 1 else 0) := by
        rw [zsum_split hyn]
        congr 1
        · apply zsum_ext
          intro x hx
          by_cases e : x = y
          · rw [if_pos e, if_neg (by omega)]
          · rw [if_neg e]
            by_cases c1 : y < x ∧ zcd tw d 0 (pa v) x = true ∧ zKc tw d n 0 x = c
            · rw [if_pos c1, if_pos ⟨by omega, c1.2⟩]
            · rw [if_neg c1, if_neg (fun h => c1 ⟨by omega, h.2⟩)]
        · by_cases c1 : zcd tw d 0 (pa v) y = true ∧ zKc tw d n 0 y = c
          · rw [if_pos c1, if_pos ⟨by omega, c1⟩]
          · rw [if_neg c1, if_neg (fun h => c1 h.2)]
      rw [hcnt]
      by_cases cy : zcd tw d 0 (pa v) y = true
      · have hky : zky d n y < n + s := by
          have a1 := (zcd_n hT h0 u1 cy).2.2.2
          have a2 := (zcd_n hT h0 u1 u2).2.2.2
          rw [← hk]
          unfold zky
          rw [← a1, ← a2]
          omega
        have hy0 : y ≠ 0 := (zcd_n hT h0 u1 cy).2.1
        obtain ⟨q1, q2, q3⟩ := j4 y hyn hy0 hky
        have hpy : pa y = pa v := ((hpa y hyn hy0).2.2 (pa v) u1 cy).symm
        rw [hpy] at q2
        by_cases cK : zKc tw d n 0 y = c
        · rw [if_pos ⟨cy, cK⟩]
          have hin : (M y).testBit (zgi l y) = true := by
            rw [hb]
            refine ⟨q1, ⟨q2, q3.trans cK⟩, fun x x1 x2 x3 e => ?_⟩
            have hkx : zky d n x < n + s := by
              have a1 := (zcd_n hT h0 u1 x3).2.2.2
              have a2 := (zcd_n hT h0 u1 u2).2.2.2
              rw [← hk]
              unfold zky
              rw [← a1, ← a2]
              omega
            have := j5 x y x2 hyn hkx hky e
            omega
          have hdf : M (y - 1) = zdf (M y) (2 ^ zgi l y) := by
            apply zfun_ext
            intro w
            rw [zdf_iff, zbit2, hb, hb]
            constructor
            · rintro ⟨h1, h2, h3⟩
              refine ⟨⟨h1, h2, fun x x1 x2 x3 => h3 x (by omega) x2 x3⟩, fun e => h3 y (by omega) hyn cy e.symm⟩
            · rintro ⟨⟨h1, h2, h3⟩, h4⟩
              refine ⟨h1, h2, fun x x1 x2 x3 => ?_⟩
              by_cases e : x = y
              · rw [e]; exact fun q => h4 q.symm
              · exact h3 x (by omega) x2 x3
          have := zpc_df _ (hMl y) _ (show zgi l y < 8 by omega) hin
          rw [hdf]
          omega
        · rw [if_neg (fun h => cK h.2)]
          have hsame : M (y - 1) = M y := by
            apply zfun_ext
            intro w
            rw [hb, hb]
            constructor
            · rintro ⟨h1, h2, h3⟩
              exact ⟨h1, h2, fun x x1 x2 x3 => h3 x (by omega) x2 x3⟩
            · rintro ⟨h1, h2, h3⟩
              refine ⟨h1, h2, fun x x1 x2 x3 => ?_⟩
              by_cases e : x = y
              · rw [e]
                intro q
                rw [← q, q3] at h2
                exact cK h2.2
              · exact h3 x (by omega) x2 x3
          rw [hsame]
          omega
      · rw [if_neg (fun h => cy h.1)]
        have hsame : M (y - 1) = M y := by
          apply zfun_ext
          intro w
          rw [hb, hb]
          constructor
          · rintro ⟨h1, h2, h3⟩
            exact ⟨h1, h2, fun x x1 x2 x3 => h3 x (by omega) x2 x3⟩
          · rintro ⟨h1, h2, h3⟩
            refine ⟨h1, h2, fun x x1 x2 x3 => ?_⟩
            by_cases e : x = y
            · rw [e] at x3
              exact absurd x3 cy
            · exact h3 x (by omega) x2 x3
        rw [hsame]
        omega
  have hm := main (n - 1 - v) (Nat.le_refl _)
  rw [show n - 1 - (n - 1 - v) = v by omega] at hm
  have e1 : zset (fun w => decide (zcd tw d r (zgi l (pa v)) w = true ∧ zKc tw d n r w = c) && (List.range n).all (fun x => !(decide (v < x) && zcd tw d 0 (pa v) x && decide (zgi l x = w)))) n = zcm tw d n r (pa v) v l := by
    unfold zcm
    congr 1
    funext w
    rw [hc]
    congr 1
    rw [Bool.decide_and]
    congr 1
    cases zcd tw d r (zgi l (pa v)) w <;> rfl
  rw [e1] at hm
  -- the same signs hang on both
  have hperm := (zKc_iff hn hT hr hu.1 h0 u1).mp hu.2
  have hcount := hperm.count_eq c
  unfold zkl zcls at hcount
  rw [zcount, zcount] at hcount
  rw [hcount] at hm
  -- those before v, v, those behind
  have hsplit : zsum (fun q => if zcd tw d 0 (pa v) q = true ∧ zKc tw d n 0 q = c then 1 else 0) n = zsum (fun q => if zcd tw d 0 (pa v) q = true ∧ zKc tw d n 0 q = c then 1 else 0) v + 1 + zsum (fun x => if v < x ∧ zcd tw d 0 (pa v) x = true ∧ zKc tw d n 0 x = c then 1 else 0) n := by
    have key : ∀ m, v < m → zsum (fun q => if zcd tw d 0 (pa v) q = true ∧ zKc tw d n 0 q = c then 1 else 0) m = zsum (fun q => if zcd tw d 0 (pa v) q = true ∧ zKc tw d n 0 q = c then 1 else 0) v + 1 + zsum (fun x => if v < x ∧ zcd tw d 0 (pa v) x = true ∧ zKc tw d n 0 x = c then 1 else 0) m := by
      intro m
      induction m with
      | zero => intro h; omega
      | succ m ih =>
        intro h
        show zsum _ m + (if zcd tw d 0 (pa v) m = true ∧ zKc tw d n 0 m = c then 1 else 0) = _ + (zsum _ m + (if v < m ∧ zcd tw d 0 (pa v) m = true ∧ zKc tw d n 0 m = c then 1 else 0))
        by_cases e : v = m
        · subst e
          rw [if_pos ⟨u2, hc⟩, if_neg (by omega), zsum_none (f := fun x => if v < x ∧ zcd tw d 0 (pa v) x = true ∧ zKc tw d n 0 x = c then 1 else 0)]
          intro x hx
          rw [if_neg (by omega)]
        · rw [ih (by omega)]
          by_cases c1 : zcd tw d 0 (pa v) m = true ∧ zKc tw d n 0 m = c
          · rw [if_pos c1, if_pos ⟨by omega, c1⟩]
            omega
          · rw [if_neg c1, if_neg (fun h => c1 h.2)]
            omega
    exact key n hv
  unfold zfv
  rw [hc]
  omega
