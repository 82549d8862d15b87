/-! PURE: loners: the best of all sets of posts that do not touch -/
def jI (z : Int) : Int32 := Int32.ofInt z
theorem jI_add (a b : Int) : jI a + jI b = jI (a + b) := (Int32.ofInt_add a b).symm
theorem jI_sub (a b : Int) : jI a - jI b = jI (a - b) := (Int32.ofInt_sub a b).symm
theorem jI_nat (k : Nat) : nI k = jI (k : Int) := by
  show Int32.ofNat k = Int32.ofInt k
  simp [Int32.ofInt_eq_ofNat]
theorem jI_toInt {z : Int} (h1 : -2147483648 ≤ z) (h2 : z < 2147483648) : (jI z).toInt = z := Int32.toInt_ofInt_of_le h1 h2
theorem jI_lt {a b : Int} (a1 : -2000000 ≤ a) (a2 : a ≤ 2000000) (b1 : -2000000 ≤ b) (b2 : b ≤ 2000000) : (jI a < jI b) = (a < b) := by
  apply propext
  rw [Int32.lt_iff_toInt_lt, jI_toInt (by omega) (by omega), jI_toInt (by omega) (by omega)]
def zsI (f : Nat → Int) : Nat → Int
  | 0 => 0
  | i + 1 => zsI f i + f i
theorem zsI_ext {f g : Nat → Int} : ∀ {n : Nat}, (∀ i, i < n → f i = g i) → zsI f n = zsI g n
  | 0, _ => rfl
  | n + 1, h => by
    unfold zsI
    rw [zsI_ext (fun i hi => h i (by omega)), h n (by omega)]
theorem zsI_split {f : Nat → Int} {p : Nat} : ∀ {n : Nat}, p < n → zsI f n = zsI (fun q => if q = p then 0 else f q) n + f p
  | 0, h => absurd h (Nat.not_lt_zero _)
  | n + 1, h => by
    unfold zsI
    by_cases e : p = n
    · subst e
      rw [if_pos rfl, Int.add_zero]
      congr 1
      exact zsI_ext (fun i hi => by rw [if_neg (by omega)])
    · rw [zsI_split (f := f) (p := p) (n := n) (by omega), if_neg (show ¬ n = p by omega)]
      omega
/-- with and without, after k steps -/
def zdp (tw : Nat → Nat) (n : Nat) (v : Nat → Int) : Nat → (Nat → Int) × (Nat → Int)
  | 0 => (v, fun _ => 0)
  | k + 1 => (fun q => if q = zhk tw n k then (zdp tw n v k).1 q + (zdp tw n v k).2 (ztk tw n k) else (zdp tw n v k).1 q, fun q => if q = zhk tw n k then (zdp tw n v k).2 q + (if (zdp tw n v k).1 (ztk tw n k) < (zdp tw n v k).2 (ztk tw n k) then (zdp tw n v k).2 (ztk tw n k) else (zdp tw n v k).1 (ztk tw n k)) else (zdp tw n v k).2 q)
/-- what a set S of those left is worth -/
def zval (tw : Nat → Nat) (n : Nat) (v : Nat → Int) (k : Nat) (S : Nat → Bool) : Int := zsI (fun q => if (zL tw n k).testBit q = true then (if S q = true then (zdp tw n v k).1 q else (zdp tw n v k).2 q) else 0) n
/-- no two of S that are left hang on one another -/
def zind (tw : Nat → Nat) (n k : Nat) (S : Nat → Bool) : Prop := ∀ p q, (zL tw n k).testBit p = true → (zL tw n k).testBit q = true → (tw p).testBit q = true → ¬ (S p = true ∧ S q = true)
theorem zval_step {n : Nat} {tw : Nat → Nat} {d : Nat → Nat → Nat} (hn : n ≤ 8) (hT : zTR (fun p => p < n) tw d) (v : Nat → Int) {k : Nat} (hk : k < n - 1) (S : Nat → Bool) : zval tw n v (k + 1) S = zval tw n v k S - (if S (ztk tw n k) = true then (zdp tw n v k).1 (ztk tw n k) else (zdp tw n v k).2 (ztk tw n k)) + (if S (zhk tw n k) = true then (zdp tw n v k).2 (ztk tw n k) else (if (zdp tw n v k).1 (ztk tw n k) < (zdp tw n v k).2 (ztk tw n k) then (zdp tw n v k).2 (ztk tw n k) else (zdp tw n v k).1 (ztk tw n k))) := by
  obtain ⟨i1, i2, i3, i4⟩ := zelim hn hT k (by omega)
  obtain ⟨l1, l2⟩ := i4 hk
  have hh : (zL tw n k).testBit (zhk tw n k) = true := ((zand_iff _ _ _).mp ((l2 _).mpr rfl)).2
  have htn := i3 _ l1
  have hhn := i3 _ hh
  have hth : ztk tw n k ≠ zhk tw n k := fun e => (i2.2.1 (ztk tw n k) (zhk tw n k) l1 ((l2 _).mpr rfl)).2.2 e
  have hbs : ∀ q, (zL tw n (k + 1)).testBit q = true ↔ (zL tw n k).testBit q = true ∧ q ≠ ztk tw n k := fun q => by
    rw [zL_s, zdf_iff, zbit2]
  unfold zval
  rw [zsI_split (p := ztk tw n k) htn, zsI_split (n := n) (p := ztk tw n k) (f := fun q => if (zL tw n k).testBit q = true then (if S q = true then (zdp tw n v k).1 q else (zdp tw n v k).2 q) else 0) htn]
  rw [if_neg (show ¬ (zL tw n (k + 1)).testBit (ztk tw n k) = true from fun q => ((hbs _).mp q).2 rfl), if_pos (show (zL tw n k).testBit (ztk tw n k) = true from l1)]
  rw [zsI_split (n := n) (p := zhk tw n k) (f := fun q => if q = ztk tw n k then 0 else if (zL tw n (k + 1)).testBit q = true then (if S q = true then (zdp tw n v (k + 1)).1 q else (zdp tw n v (k + 1)).2 q) else 0) hhn, zsI_split (n := n) (p := zhk tw n k) (f := fun q => if q = ztk tw n k then 0 else if (zL tw n k).testBit q = true then (if S q = true then (zdp tw n v k).1 q else (zdp tw n v k).2 q) else 0) hhn]
  have hne : ¬ zhk tw n k = ztk tw n k := fun e => hth e.symm
  have hh1 : (zL tw n (k + 1)).testBit (zhk tw n k) = true := (hbs _).mpr ⟨hh, hne⟩
  simp only [hne, hh1, hh, if_true, if_false]
  have hrest : zsI (fun q => if q = zhk tw n k then 0 else if q = ztk tw n k then 0 else if (zL tw n (k + 1)).testBit q = true then (if S q = true then (zdp tw n v (k + 1)).1 q else (zdp tw n v (k + 1)).2 q) else 0) n = zsI (fun q => if q = zhk tw n k then 0 else if q = ztk tw n k then 0 else if (zL tw n k).testBit q = true then (if S q = true then (zdp tw n v k).1 q else (zdp tw n v k).2 q) else 0) n := by
    apply zsI_ext
    intro q hq
    by_cases e1 : q = zhk tw n k
    · rw [if_pos e1, if_pos e1]
    · rw [if_neg e1, if_neg e1]
      by_cases e2 : q = ztk tw n k
      · rw [if_pos e2, if_pos e2]
      · rw [if_neg e2, if_neg e2]
        have w1 : (zdp tw n v (k + 1)).1 q = (zdp tw n v k).1 q := if_neg e1
        have w2 : (zdp tw n v (k + 1)).2 q = (zdp tw n v k).2 q := if_neg e1
        rw [w1, w2]
        by_cases e3 : (zL tw n k).testBit q = true
        · rw [if_pos e3, if_pos ((hbs q).mpr ⟨e3, e2⟩)]
        · rw [if_neg e3, if_neg (fun t => e3 ((hbs q).mp t).1)]
  rw [hrest]
  have w1 : (zdp tw n v (k + 1)).1 (zhk tw n k) = (zdp tw n v k).1 (zhk tw n k) + (zdp tw n v k).2 (ztk tw n k) := if_pos rfl
  have w2 : (zdp tw n v (k + 1)).2 (zhk tw n k) = (zdp tw n v k).2 (zhk tw n k) + (if (zdp tw n v k).1 (ztk tw n k) < (zdp tw n v k).2 (ztk tw n k) then (zdp tw n v k).2 (ztk tw n k) else (zdp tw n v k).1 (ztk tw n k)) := if_pos rfl
  rw [w1, w2]
  by_cases c : S (zhk tw n k) = true
  · rw [if_pos c, if_pos c, if_pos c]
    omega
  · rw [if_neg c, if_neg c, if_neg c]
    omega
theorem zind_step {n : Nat} {tw : Nat → Nat} {k : Nat} {S : Nat → Bool} (h : zind tw n k S) : zind tw n (k + 1) S := fun p q hp hq => h p q ((zdf_iff _ _ _).mp hp).1 ((zdf_iff _ _ _).mp hq).1
/-- the last post -/
def zlast (tw : Nat → Nat) (n : Nat) : Nat := zhk tw n (n - 2)
def zbest (tw : Nat → Nat) (n : Nat) (v : Nat → Int) : Int := if (zdp tw n v (n - 1)).1 (zlast tw n) < (zdp tw n v (n - 1)).2 (zlast tw n) then (zdp tw n v (n - 1)).2 (zlast tw n) else (zdp tw n v (n - 1)).1 (zlast tw n)
theorem zpc_1u (m : Nat) (h : m < 256) (a : Nat) (_ : a < 8) (b : Nat) (_ : b < 8) (h1 : zpc m = 1) (ha : m.testBit a = true) (hb : m.testBit b = true) : a = b := by
  rw [zpc_one m h h1, zbit2] at ha hb
  rw [ha, hb]
theorem zlast_only {n : Nat} {tw : Nat → Nat} {d : Nat → Nat → Nat} (hn : n ≤ 8) (h2 : 2 ≤ n) (hT : zTR (fun p => p < n) tw d) : zlast tw n < n ∧ ∀ q, (zL tw n (n - 1)).testBit q = true ↔ q = zlast tw n := by
  obtain ⟨i1, i2, i3, i4⟩ := zelim hn hT (n - 2) (by omega)
  obtain ⟨l1, l2⟩ := i4 (by omega)
  obtain ⟨j1, j2, j3, -⟩ := zelim hn hT (n - 1) (by omega)
  have hh : (zL tw n (n - 2)).testBit (zhk tw n (n - 2)) = true := ((zand_iff _ _ _).mp ((l2 _).mpr rfl)).2
  have hth : ztk tw n (n - 2) ≠ zhk tw n (n - 2) := fun e => (i2.2.1 _ _ l1 ((l2 _).mpr rfl)).2.2 e
  have hs : zL tw n (n - 1) = zdf (zL tw n (n - 2)) (2 ^ ztk tw n (n - 2)) := by
    rw [show n - 1 = (n - 2) + 1 by omega]; rfl
  have hlast : (zL tw n (n - 1)).testBit (zlast tw n) = true := by
    rw [hs, zdf_iff, zbit2]
    exact ⟨hh, fun e => hth e.symm⟩
  refine ⟨i3 _ hh, fun q => ⟨fun hq => ?_, fun e => e ▸ hlast⟩⟩
  exact zpc_1u _ (zL_lt tw hn _) q (by have := j3 q hq; omega) _ (by have := j3 _ hlast; omega) (by rw [j1]; omega) hq hlast
theorem zval_last {n : Nat} {tw : Nat → Nat} {d : Nat → Nat → Nat} (hn : n ≤ 8) (h2 : 2 ≤ n) (hT : zTR (fun p => p < n) tw d) (v : Nat → Int) (S : Nat → Bool) : zval tw n v (n - 1) S = if S (zlast tw n) = true then (zdp tw n v (n - 1)).1 (zlast tw n) else (zdp tw n v (n - 1)).2 (zlast tw n) := by
  obtain ⟨a1, a2⟩ := zlast_only hn h2 hT
  unfold zval
  rw [zsI_split (p := zlast tw n) a1, if_pos ((a2 _).mpr rfl)]
  have : zsI (fun q => if q = zlast tw n then 0 else if (zL tw n (n - 1)).testBit q = true then (if S q = true then (zdp tw n v (n - 1)).1 q else (zdp tw n v (n - 1)).2 q) else 0) n = zsI (fun _ => 0) n := by
    apply zsI_ext
    intro q hq
    by_cases e : q = zlast tw n
    · rw [if_pos e]
    · rw [if_neg e, if_neg (fun t => e ((a2 q).mp t))]
  rw [this]
  have z : ∀ m, zsI (fun _ => 0) m = 0 := by
    intro m
    induction m with
    | zero => rfl
    | succ m ih => unfold zsI; rw [ih]; rfl
  rw [z, Int.zero_add]
theorem zval_le {n : Nat} {tw : Nat → Nat} {d : Nat → Nat → Nat} (hn : n ≤ 8) (h2 : 2 ≤ n) (hT : zTR (fun p => p < n) tw d) (v : Nat → Int) : ∀ j k, k + j = n - 1 → ∀ S, zind tw n k S → zval tw n v k S ≤ zbest tw n v := by
  intro j
  induction j with
  | zero =>
    intro k hk S hS
    have : k = n - 1 := by omega
    subst this
    rw [zval_last hn h2 hT v S]
    unfold zbest
    split <;> split <;> omega
  | succ j ih =>
    intro k hk S hS
    have h1 := ih (k + 1) (by omega) S (zind_step hS)
    rw [zval_step hn hT v (by omega) S] at h1
    obtain ⟨i1, i2, i3, i4⟩ := zelim hn hT k (by omega)
    obtain ⟨l1, l2⟩ := i4 (by omega)
    have l3 := (zand_iff _ _ _).mp ((l2 (zhk tw n k)).mpr rfl)
    have hno := hS (ztk tw n k) (zhk tw n k) l1 l3.2 l3.1
    by_cases c1 : S (ztk tw n k) = true
    · have c2 : ¬ S (zhk tw n k) = true := fun t => hno ⟨c1, t⟩
      rw [if_pos c1, if_neg c2] at h1
      split at h1 <;> omega
    · rw [if_neg c1] at h1
      by_cases c2 : S (zhk tw n k) = true
      · rw [if_pos c2] at h1; omega
      · rw [if_neg c2] at h1
        split at h1 <;> omega
theorem zval_ex {n : Nat} {tw : Nat → Nat} {d : Nat → Nat → Nat} (hn : n ≤ 8) (h2 : 2 ≤ n) (hT : zTR (fun p => p < n) tw d) (v : Nat → Int) : ∀ j k, k + j = n - 1 → ∃ S, zind tw n k S ∧ zval tw n v k S = zbest tw n v := by
  intro j
  induction j with
  | zero =>
    intro k hk
    have : k = n - 1 := by omega
    subst this
    obtain ⟨a1, a2⟩ := zlast_only hn h2 hT
    have hirr : ∀ S, zind tw n (n - 1) S := fun S p q hp hq hpq => by
      have e1 := (a2 p).mp hp
      have e2 := (a2 q).mp hq
      exfalso
      exact (hT.2.1 p q (by rw [e1]; exact a1) hpq).2.2 (e1.trans e2.symm)
    by_cases c : (zdp tw n v (n - 1)).1 (zlast tw n) < (zdp tw n v (n - 1)).2 (zlast tw n)
    · refine ⟨fun _ => false, hirr _, ?_⟩
      rw [zval_last hn h2 hT]
      unfold zbest
      rw [if_pos c, if_neg (by decide)]
    · refine ⟨fun _ => true, hirr _, ?_⟩
      rw [zval_last hn h2 hT]
      unfold zbest
      rw [if_neg c, if_pos rfl]
  | succ j ih =>
    intro k hk
    obtain ⟨S, s1, s2⟩ := ih (k + 1) (by omega)
    obtain ⟨i1, i2, i3, i4⟩ := zelim hn hT k (by omega)
    obtain ⟨l1, l2⟩ := i4 (by omega)
    have l3 := (zand_iff _ _ _).mp ((l2 (zhk tw n k)).mpr rfl)
    have hth : ztk tw n k ≠ zhk tw n k := fun e => (i2.2.1 _ _ l1 ((l2 _).mpr rfl)).2.2 e
    have hbs : ∀ q, (zL tw n (k + 1)).testBit q = true ↔ (zL tw n k).testBit q = true ∧ q ≠ ztk tw n k := fun q => by
      rw [zL_s, zdf_iff, zbit2]
    have hne : ¬ zhk tw n k = ztk tw n k := fun e => hth e.symm
    have build : ∀ b : Bool, (b = true → ¬ S (zhk tw n k) = true) → zind tw n k (fun q => if q = ztk tw n k then b else S q) ∧ zval tw n v (k + 1) (fun q => if q = ztk tw n k then b else S q) = zval tw n v (k + 1) S := by
      intro b hb
      refine ⟨fun p q hp hq hpq => ?_, ?_⟩
      · rintro ⟨e1, e2⟩
        dsimp only at e1 e2
        by_cases c1 : p = ztk tw n k
        · have : q = zhk tw n k := (l2 q).mp ((zand_iff _ _ _).mpr ⟨by rw [← c1]; exact hpq, hq⟩)
          rw [if_pos c1] at e1
          rw [if_neg (fun e => hth (e.symm.trans this)), this] at e2
          exact hb e1 e2
        · by_cases c2 : q = ztk tw n k
          · have hs := (i2.2.1 p q hp ((zand_iff _ _ _).mpr ⟨hpq, hq⟩)).2.1
            dsimp only at hs
            rw [c2] at hs
            have : p = zhk tw n k := (l2 p).mp hs
            rw [if_pos c2] at e2
            rw [if_neg c1, this] at e1
            exact hb e2 e1
          · rw [if_neg c1] at e1
            rw [if_neg c2] at e2
            exact s1 p q ((hbs p).mpr ⟨hp, c1⟩) ((hbs q).mpr ⟨hq, c2⟩) hpq ⟨e1, e2⟩
      · unfold zval
        apply zsI_ext
        intro q hq
        by_cases e3 : (zL tw n (k + 1)).testBit q = true
        · rw [if_pos e3, if_pos e3]
          have := ((hbs q).mp e3).2
          simp only [this, if_false]
        · rw [if_neg e3, if_neg e3]
    by_cases c : S (zhk tw n k) = true
    · obtain ⟨b1, b2⟩ := build false (fun e => by cases e)
      refine ⟨_, b1, ?_⟩
      have h1 := zval_step hn hT v (k := k) (by omega) (fun q => if q = ztk tw n k then false else S q)
      rw [b2, s2] at h1
      simp only [hne, c, if_true, if_false, Bool.false_eq_true] at h1
      omega
    · by_cases c2 : (zdp tw n v k).1 (ztk tw n k) < (zdp tw n v k).2 (ztk tw n k)
      · obtain ⟨b1, b2⟩ := build false (fun e => by cases e)
        refine ⟨_, b1, ?_⟩
        have h1 := zval_step hn hT v (k := k) (by omega) (fun q => if q = ztk tw n k then false else S q)
        rw [b2, s2] at h1
        simp only [hne, c, c2, if_true, if_false, Bool.false_eq_true] at h1
        omega
      · obtain ⟨b1, b2⟩ := build true (fun _ => c)
        refine ⟨_, b1, ?_⟩
        have h1 := zval_step hn hT v (k := k) (by omega) (fun q => if q = ztk tw n k then true else S q)
        rw [b2, s2] at h1
        simp only [hne, c, c2, if_true, if_false, Bool.false_eq_true] at h1
        omega
