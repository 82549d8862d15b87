/-! PURE: what the small methods answer -/
def zVX (σ : zSt) (b n : Nat) (kd ld tw : Nat → Nat) : Prop := σ b 0 = nI n ∧ ∀ p, p < n → σ (b + 1) p = nI (kd p) ∧ σ (b + 2) p = nI (ld p) ∧ σ (b + 3) p = nI (tw p)
def zAX (σ : zSt) (b n : Nat) (d : Nat → Nat → Nat) : Prop := ∀ p, p < n → ∀ q, q < n → σ (b + 9 + p) q = nI (d p q)
def zVM (σ : zSt) (n : Nat) (kd ld tw : Nat → Nat) : Prop := σ 0 5 = nI n ∧ ∀ p, p < n → σ 5 p = nI (kd p) ∧ σ 6 p = nI (ld p) ∧ σ 4 p = nI (tw p)
def zOK (n : Nat) (kd ld tw : Nat → Nat) : Prop := n ≤ 8 ∧ ∀ p, p < n → kd p ≤ 2 ∧ ld p ≤ 9 ∧ tw p < 256
def zwo (kd ld : Nat → Nat) (p : Nat) : Nat := if kd p = 1 then ld p + 1 else if kd p = 2 then 2 * ld p else ld p
/-- the set of those below n of which P holds -/
def zset (P : Nat → Bool) : Nat → Nat
  | 0 => 0
  | i + 1 => if P i = true then zset P i ||| 2 ^ i else zset P i
def zsum (f : Nat → Nat) : Nat → Nat
  | 0 => 0
  | i + 1 => zsum f i + f i
def zmax (f : Nat → Nat) : Nat → Nat
  | 0 => 0
  | i + 1 => if zmax f i < f i then f i else zmax f i
theorem zset_bit (P : Nat → Bool) : ∀ (n j : Nat), (zset P n).testBit j = (decide (j < n) && P j)
  | 0, j => by simp [zset]
  | n + 1, j => by
    unfold zset
    by_cases hP : P n = true
    · rw [if_pos hP, Nat.testBit_or, zset_bit P n j, Nat.testBit_two_pow]
      by_cases e : n = j
      · subst e; simp [hP]
      · by_cases h : j < n
        · simp [h, e, Nat.lt_succ_of_lt h]
        · have : ¬ j < n + 1 := by omega
          simp [h, e, this]
    · rw [if_neg hP, zset_bit P n j]
      by_cases e : n = j
      · subst e; simp [hP]
      · by_cases h : j < n
        · simp [h, Nat.lt_succ_of_lt h]
        · have : ¬ j < n + 1 := by omega
          simp [h, this]
theorem zset_lt (P : Nat → Bool) : ∀ n, zset P n < 2 ^ n
  | 0 => by simp [zset]
  | n + 1 => by
    have h := zset_lt P n
    have h2 : 2 ^ n < 2 ^ (n + 1) := by rw [Nat.pow_succ]; have := Nat.two_pow_pos n; omega
    unfold zset
    by_cases hP : P n = true
    · rw [if_pos hP]
      exact Nat.or_lt_two_pow (by omega) h2
    · rw [if_neg hP]; omega
theorem zp256 {n : Nat} (h : n ≤ 8) : 2 ^ n ≤ 256 := by
  have := Nat.pow_le_pow_right (n := 2) (by decide) h
  simpa using this
theorem zwo_le {n : Nat} {kd ld tw : Nat → Nat} (h : zOK n kd ld tw) {p : Nat} (hp : p < n) : zwo kd ld p ≤ 18 := by
  obtain ⟨h1, h2, h3⟩ := h.2 p hp
  unfold zwo
  split <;> (try split) <;> omega
theorem zsum_le {f : Nat → Nat} {B : Nat} : ∀ {n : Nat}, (∀ p, p < n → f p ≤ B) → zsum f n ≤ n * B
  | 0, _ => by simp [zsum]
  | n + 1, h => by
    have h1 := zsum_le (n := n) (fun p hp => h p (by omega))
    have h2 := h n (by omega)
    unfold zsum
    rw [Nat.succ_mul]
    omega
theorem zmax_le {f : Nat → Nat} {B : Nat} : ∀ {n : Nat}, (∀ p, p < n → f p ≤ B) → zmax f n ≤ B
  | 0, _ => by simp [zmax]
  | n + 1, h => by
    have h1 := zmax_le (n := n) (fun p hp => h p (by omega))
    have h2 := h n (by omega)
    unfold zmax
    split <;> assumption
-- posts
theorem isPostX_no {σ : zSt} {b n : Nat} {x : Int32} (h0 : σ b 0 = nI n) (hx : x < 0 ∨ nI n ≤ x) : M_X4_isPost b x σ = some (nI 0, σ) := by
  unfold M_X4_isPost
  by_cases h : x < 0
  · rw [if_pos h]; rfl
  · rw [if_neg h]
    have h2 : nI n ≤ x := hx.resolve_left h
    simp only [znm, h0, if_pos h2]; rfl
theorem isPostX_yes {σ : zSt} {b n j : Nat} (h0 : σ b 0 = nI n) (hn : n ≤ 8) (hj : j < n) : M_X4_isPost b (nI j) σ = some (nI 1, σ) := by
  unfold M_X4_isPost
  simp (disch := omega) only [znm, zbd_some, zbv_some, zgz_n0, zgz_n1, zlit, nI_add, pk_mul, pk_sub, znI_or, znI_and, znI_df, zon_ok, zbt_ok, zlt, zleI, zeqI, zga_in, zgs_in, zgr_in, if_pos, if_neg, if_true, if_false, Bool.false_eq_true, h0]
theorem isPostM_no {σ : zSt} {n : Nat} {x : Int32} (h0 : σ 0 5 = nI n) (hx : x < 0 ∨ nI n ≤ x) : M_X6_isPost x σ = some (nI 0, σ) := by
  unfold M_X6_isPost
  by_cases h : x < 0
  · rw [if_pos h]; rfl
  · rw [if_neg h]
    have h2 : nI n ≤ x := hx.resolve_left h
    simp only [znm, h0, if_pos h2]; rfl
theorem isPostM_yes {σ : zSt} {n j : Nat} (h0 : σ 0 5 = nI n) (hn : n ≤ 8) (hj : j < n) : M_X6_isPost (nI j) σ = some (nI 1, σ) := by
  unfold M_X6_isPost
  simp (disch := omega) only [znm, zbd_some, zbv_some, zgz_n0, zgz_n1, zlit, nI_add, pk_mul, pk_sub, znI_or, znI_and, znI_df, zon_ok, zbt_ok, zlt, zleI, zeqI, zga_in, zgs_in, zgr_in, if_pos, if_neg, if_true, if_false, Bool.false_eq_true, h0]
/-- a post, or none -/
theorem zpost (x : Int32) {n : Nat} (hn : n ≤ 8) : (x < 0 ∨ nI n ≤ x) ∨ ∃ j, j < n ∧ x = nI j := by
  rcases zix x (n := n) (by omega) with h | h | h
  · exact Or.inl (Or.inl h)
  · exact Or.inl (Or.inr h)
  · exact Or.inr h
-- counting bits
def zbcf (x : Int32) : Int32 :=
  let x1 := x - ((x.toUInt32 >>> ((1 : Int32).toUInt32 &&& Int32.toUInt32 31)).toInt32 &&& (1431655765 : Int32))
  let x2 := (x1 &&& (858993459 : Int32)) + ((x1.toUInt32 >>> ((2 : Int32).toUInt32 &&& Int32.toUInt32 31)).toInt32 &&& (858993459 : Int32))
  let x3 := (x2 + (x2.toUInt32 >>> ((4 : Int32).toUInt32 &&& Int32.toUInt32 31)).toInt32) &&& (252645135 : Int32)
  let x4 := x3 + (x3.toUInt32 >>> ((8 : Int32).toUInt32 &&& Int32.toUInt32 31)).toInt32
  let x5 := x4 + (x4.toUInt32 >>> ((16 : Int32).toUInt32 &&& Int32.toUInt32 31)).toInt32
  x5 &&& (63 : Int32)
theorem zbcf_ok : ∀ m, m < 256 → zbcf (nI m) = nI (zpc m) := by decide +kernel
theorem bitCount_ok {m : Nat} (h : m < 256) (σ : zSt) : M_J6_bitCount_0f7a4 (nI m) σ = some (nI (zpc m), σ) := by
  rw [← zbcf_ok m h]; rfl
theorem size_go (σ : zSt) (p1 : Int32) : ∀ (n c m : Nat), m < 256 → m < n → zloop (fun (rec : Int32 × Int32 × zSt → Option (Int32 × zSt)) x => B_X6_size_4 p1 (fun v1 v2 σ => rec (v1, v2, σ)) x.1 x.2.1 x.2.2) n (nI c, nI m, σ) = some (nI (c + zpc m), σ) := by
  intro n
  induction n with
  | zero => intro c m _ h; omega
  | succ n ih =>
    intro c m hm hn
    rw [zloop_succ]
    have e : ∀ rec : Int32 × Int32 × zSt → Option (Int32 × zSt), B_X6_size_4 p1 (fun v1 v2 σ => rec (v1, v2, σ)) (nI c) (nI m) σ = if m = 0 then some (nI c, σ) else rec (nI (c + m % 2), nI (m / 2), σ) := by
      intro rec
      unfold B_X6_size_4
      have e1 : nI m >>> ((1 : Int32) &&& 31) = nI (m / 2) := znI_shr m (by omega) (k := 1) (by decide)
      have e2 : nI m &&& (1 : Int32) = nI (m % 2) := by
        rw [show (1 : Int32) = nI 1 from rfl, znI_and, Nat.and_one_is_mod]
      simp only [znm, e1, e2, nI_add]
      by_cases h0 : m = 0
      · subst h0
        rfl
      · rw [if_neg (nI_nle (by omega) (by omega)), if_neg h0]
    refine (e _).trans ?_
    by_cases h0 : m = 0
    · subst h0
      rw [if_pos rfl, zpc_0]; rfl
    · rw [if_neg h0, ih (c + m % 2) (m / 2) (by omega) (by omega), zpc_step m hm, Nat.add_assoc]
theorem size_ok {m : Nat} (h : m < 256) (σ : zSt) : M_X6_size (nI m) σ = some (nI (zpc m), σ) := by
  have := size_go σ (nI m) zFU 0 m h (by have := zFU_ge; omega)
  rw [Nat.zero_add] at this
  exact this
theorem leastX_ok {m : Nat} (h : m < 256) (σ : zSt) : M_X5_leastOf (nI m) σ = some (nI (zlo m), σ) := by
  unfold M_X5_leastOf L_X5_leastOf_2
  by_cases h0 : m = 0
  · subst h0
    refine zloop_for (fun i => (nI i, σ)) 8 rfl (by decide) (fun rec i hi => ?_) (fun rec => ?_)
    · unfold B_X5_leastOf_2
      simp (disch := omega) only [znm, zbd_some, zbv_some, zgz_n0, zgz_n1, zlit, nI_add, pk_mul, pk_sub, znI_or, znI_and, znI_df, zon_ok, zbt_ok, zlt, zleI, zeqI, zga_in, zgs_in, zgr_in, if_pos, if_neg, if_true, if_false, Bool.false_eq_true, Nat.zero_testBit]
    · rfl
  · obtain ⟨h1, h2, h3⟩ := zlo_bit m h h0
    refine zloop_for (fun i => (nI i, σ)) (zlo m) rfl (by omega) (fun rec i hi => ?_) (fun rec => ?_)
    · unfold B_X5_leastOf_2
      simp (disch := omega) only [znm, zbd_some, zbv_some, zgz_n0, zgz_n1, zlit, nI_add, pk_mul, pk_sub, znI_or, znI_and, znI_df, zon_ok, zbt_ok, zlt, zleI, zeqI, zga_in, zgs_in, zgr_in, if_pos, if_neg, if_true, if_false, Bool.false_eq_true, h3 i hi]
    · unfold B_X5_leastOf_2
      simp (disch := omega) only [znm, zbd_some, zbv_some, zgz_n0, zgz_n1, zlit, nI_add, pk_mul, pk_sub, znI_or, znI_and, znI_df, zon_ok, zbt_ok, zlt, zleI, zeqI, zga_in, zgs_in, zgr_in, if_pos, if_neg, if_true, if_false, Bool.false_eq_true, h1]
theorem isOf_ok {m k : Nat} (hm : m < 2147483648) (hk : k < 31) (σ : zSt) : M_X6_isOf (nI m) (nI k) σ = some (nI (if m.testBit k = true then 1 else 0), σ) := by
  unfold M_X6_isOf
  simp (disch := omega) only [znm, zbd_some, zbv_some, zgz_n0, zgz_n1, zlit, nI_add, pk_mul, pk_sub, znI_or, znI_and, znI_df, zon_ok, zbt_ok, zlt, zleI, zeqI, zga_in, zgs_in, zgr_in, if_pos, if_neg, if_true, if_false, Bool.false_eq_true]
  cases m.testBit k <;> rfl
theorem leastM_ok {m : Nat} (h : m < 256) (h0 : m ≠ 0) (σ : zSt) : M_X6_leastOf (nI m) σ = some (nI (zlo m), σ) := by
  unfold M_X6_leastOf L_X6_leastOf_2
  obtain ⟨h1, h2, h3⟩ := zlo_bit m h h0
  refine zloop_for (fun i => (nI i, σ)) (zlo m) rfl (by omega) (fun rec i hi => ?_) (fun rec => ?_)
  · unfold B_X6_leastOf_2
    simp (disch := omega) only [znm, zbd_some, zbv_some, zgz_n0, zgz_n1, zlit, nI_add, pk_mul, pk_sub, znI_or, znI_and, znI_df, zon_ok, zbt_ok, zlt, zleI, zeqI, zga_in, zgs_in, zgr_in, if_pos, if_neg, if_true, if_false, Bool.false_eq_true, isOf_ok, h3 i hi]
  · unfold B_X6_leastOf_2
    simp (disch := omega) only [znm, zbd_some, zbv_some, zgz_n0, zgz_n1, zlit, nI_add, pk_mul, pk_sub, znI_or, znI_and, znI_df, zon_ok, zbt_ok, zlt, zleI, zeqI, zga_in, zgs_in, zgr_in, if_pos, if_neg, if_true, if_false, Bool.false_eq_true, isOf_ok, h1]
-- worth
theorem worthX_ok {σ : zSt} {b n : Nat} {kd ld tw : Nat → Nat} (hV : zVX σ b n kd ld tw) (hO : zOK n kd ld tw) {p : Nat} (hp : p < n) : M_X4_worth b (nI p) σ = some (nI (zwo kd ld p), σ) := by
  obtain ⟨h1, h2, h3⟩ := hV.2 p hp
  obtain ⟨g1, g2, g3⟩ := hO.2 p hp
  have hn := hO.1
  unfold M_X4_worth M_X5_worthOf zwo
  simp (disch := omega) only [znm, zbd_some, zbv_some, zgz_n0, zgz_n1, zlit, nI_add, pk_mul, pk_sub, znI_or, znI_and, znI_df, zon_ok, zbt_ok, zlt, zleI, zeqI, zga_in, zgs_in, zgr_in, if_pos, if_neg, if_true, if_false, Bool.false_eq_true, h1, h2]
  rcases (by omega : kd p = 0 ∨ kd p = 1 ∨ kd p = 2) with e | e | e <;> rw [e] <;> rfl
theorem worthM_ok {σ : zSt} {n : Nat} {kd ld tw : Nat → Nat} (hV : zVM σ n kd ld tw) (hO : zOK n kd ld tw) {p : Nat} (hp : p < n) : M_X6_worthOf (nI p) σ = some (nI (zwo kd ld p), σ) := by
  obtain ⟨h1, h2, h3⟩ := hV.2 p hp
  obtain ⟨g1, g2, g3⟩ := hO.2 p hp
  have hn := hO.1
  unfold M_X6_worthOf zwo
  simp (disch := omega) only [znm, zbd_some, zbv_some, zgz_n0, zgz_n1, zlit, nI_add, pk_mul, pk_sub, znI_or, znI_and, znI_df, zon_ok, zbt_ok, zlt, zleI, zeqI, zga_in, zgs_in, zgr_in, if_pos, if_neg, if_true, if_false, Bool.false_eq_true, h1, h2]
  rcases (by omega : kd p = 0 ∨ kd p = 1 ∨ kd p = 2) with e | e | e <;> rw [e] <;> rfl
theorem isEndX_ok {σ : zSt} {b n : Nat} {kd ld tw : Nat → Nat} (hV : zVX σ b n kd ld tw) (hO : zOK n kd ld tw) {p : Nat} (hp : p < n) : M_X4_isEnd b (nI p) σ = some (nI (if zpc (tw p) = 1 then 1 else 0), σ) := by
  obtain ⟨h1, h2, h3⟩ := hV.2 p hp
  obtain ⟨g1, g2, g3⟩ := hO.2 p hp
  have hn := hO.1
  have h8 := zpc_le (tw p)
  unfold M_X4_isEnd
  simp (disch := omega) only [znm, zbd_some, zbv_some, zgz_n0, zgz_n1, zlit, nI_add, pk_mul, pk_sub, znI_or, znI_and, znI_df, zon_ok, zbt_ok, zlt, zleI, zeqI, zga_in, zgs_in, zgr_in, if_pos, if_neg, if_true, if_false, Bool.false_eq_true, h3, bitCount_ok]
  split <;> rfl
theorem endsX_ok {σ : zSt} {b n : Nat} {kd ld tw : Nat → Nat} (hV : zVX σ b n kd ld tw) (hO : zOK n kd ld tw) : M_X4_ends b σ = some (nI (zset (fun p => decide (zpc (tw p) = 1)) n), σ) := by
  have hn := hO.1
  have h0 := hV.1
  unfold M_X4_ends L_X4_ends_4
  refine zloop_for (fun i => (nI (zset (fun p => decide (zpc (tw p) = 1)) i), nI i, σ)) n rfl (by omega) (fun rec i hi => ?_) (fun rec => ?_)
  · unfold B_X4_ends_4 B_X4_ends_26
    by_cases e : zpc (tw i) = 1
    · simp (disch := omega) only [znm, zbd_some, zbv_some, zgz_n0, zgz_n1, zlit, nI_add, pk_mul, pk_sub, znI_or, znI_and, znI_df, zon_ok, zbt_ok, zlt, zleI, zeqI, zga_in, zgs_in, zgr_in, if_pos, if_neg, if_true, if_false, Bool.false_eq_true, h0, isEndX_ok hV hO hi, e, zset, decide_true]
    · simp (disch := omega) only [znm, zbd_some, zbv_some, zgz_n0, zgz_n1, zlit, nI_add, pk_mul, pk_sub, znI_or, znI_and, znI_df, zon_ok, zbt_ok, zlt, zleI, zeqI, zga_in, zgs_in, zgr_in, if_pos, if_neg, if_true, if_false, Bool.false_eq_true, h0, isEndX_ok hV hO hi, e, zset, decide_false]
  · unfold B_X4_ends_4
    simp (disch := omega) only [znm, zbd_some, zbv_some, zgz_n0, zgz_n1, zlit, nI_add, pk_mul, pk_sub, znI_or, znI_and, znI_df, zon_ok, zbt_ok, zlt, zleI, zeqI, zga_in, zgs_in, zgr_in, if_pos, if_neg, if_true, if_false, Bool.false_eq_true, h0]
theorem endsM_ok {σ : zSt} {n : Nat} {kd ld tw : Nat → Nat} (hV : zVM σ n kd ld tw) (hO : zOK n kd ld tw) : M_X6_ends σ = some (nI (zset (fun p => decide (zpc (tw p) = 1)) n), σ) := by
  have hn := hO.1
  have h0 := hV.1
  unfold M_X6_ends L_X6_ends_4
  refine zloop_for (fun i => (nI (zset (fun p => decide (zpc (tw p) = 1)) i), nI i, σ)) n rfl (by omega) (fun rec i hi => ?_) (fun rec => ?_)
  · obtain ⟨h1, h2, h3⟩ := hV.2 i hi
    obtain ⟨g1, g2, g3⟩ := hO.2 i hi
    have h8 := zpc_le (tw i)
    unfold B_X6_ends_4 B_X6_ends_33
    by_cases e : zpc (tw i) = 1
    · simp (disch := omega) only [znm, zbd_some, zbv_some, zgz_n0, zgz_n1, zlit, nI_add, pk_mul, pk_sub, znI_or, znI_and, znI_df, zon_ok, zbt_ok, zlt, zleI, zeqI, zga_in, zgs_in, zgr_in, if_pos, if_neg, if_true, if_false, Bool.false_eq_true, h0, h3, size_ok, e, zset, decide_true]
    · simp (disch := omega) only [znm, zbd_some, zbv_some, zgz_n0, zgz_n1, zlit, nI_add, pk_mul, pk_sub, znI_or, znI_and, znI_df, zon_ok, zbt_ok, zlt, zleI, zeqI, zga_in, zgs_in, zgr_in, if_pos, if_neg, if_true, if_false, Bool.false_eq_true, h0, h3, size_ok, e, zset, decide_false, Nat.or_zero]
  · unfold B_X6_ends_4
    simp (disch := omega) only [znm, zbd_some, zbv_some, zgz_n0, zgz_n1, zlit, nI_add, pk_mul, pk_sub, znI_or, znI_and, znI_df, zon_ok, zbt_ok, zlt, zleI, zeqI, zga_in, zgs_in, zgr_in, if_pos, if_neg, if_true, if_false, Bool.false_eq_true, h0]
theorem worthAllX_ok {σ : zSt} {b n : Nat} {kd ld tw : Nat → Nat} (hV : zVX σ b n kd ld tw) (hO : zOK n kd ld tw) : M_X4_worthOfAll b σ = some (nI (zsum (zwo kd ld) n), σ) := by
  have hn := hO.1
  have h0 := hV.1
  unfold M_X4_worthOfAll L_X4_worthOfAll_4
  refine zloop_for (fun i => (nI (zsum (zwo kd ld) i), nI i, σ)) n rfl (by omega) (fun rec i hi => ?_) (fun rec => ?_)
  · unfold B_X4_worthOfAll_4
    simp (disch := omega) only [znm, zbd_some, zbv_some, zgz_n0, zgz_n1, zlit, nI_add, pk_mul, pk_sub, znI_or, znI_and, znI_df, zon_ok, zbt_ok, zlt, zleI, zeqI, zga_in, zgs_in, zgr_in, if_pos, if_neg, if_true, if_false, Bool.false_eq_true, h0, worthX_ok hV hO hi, zsum]
  · unfold B_X4_worthOfAll_4
    simp (disch := omega) only [znm, zbd_some, zbv_some, zgz_n0, zgz_n1, zlit, nI_add, pk_mul, pk_sub, znI_or, znI_and, znI_df, zon_ok, zbt_ok, zlt, zleI, zeqI, zga_in, zgs_in, zgr_in, if_pos, if_neg, if_true, if_false, Bool.false_eq_true, h0]
theorem worthSetM_ok {σ : zSt} {n : Nat} {kd ld tw : Nat → Nat} (hV : zVM σ n kd ld tw) (hO : zOK n kd ld tw) {S : Nat} (hS : S < 256) : M_X6_worthOfSet (nI S) σ = some (nI (zsum (fun p => if S.testBit p = true then zwo kd ld p else 0) n), σ) := by
  have hn := hO.1
  have h0 := hV.1
  unfold M_X6_worthOfSet L_X6_worthOfSet_4
  refine zloop_for (fun i => (nI (zsum (fun p => if S.testBit p = true then zwo kd ld p else 0) i), nI i, σ)) n rfl (by omega) (fun rec i hi => ?_) (fun rec => ?_)
  · unfold B_X6_worthOfSet_4 B_X6_worthOfSet_30
    cases hb : S.testBit i
    · simp (disch := omega) only [znm, zbd_some, zbv_some, zgz_n0, zgz_n1, zlit, nI_add, pk_mul, pk_sub, znI_or, znI_and, znI_df, zon_ok, zbt_ok, zlt, zleI, zeqI, zga_in, zgs_in, zgr_in, if_pos, if_neg, if_true, if_false, Bool.false_eq_true, h0, isOf_ok, hb, zsum]
    · simp (disch := omega) only [znm, zbd_some, zbv_some, zgz_n0, zgz_n1, zlit, nI_add, pk_mul, pk_sub, znI_or, znI_and, znI_df, zon_ok, zbt_ok, zlt, zleI, zeqI, zga_in, zgs_in, zgr_in, if_pos, if_neg, if_true, if_false, Bool.false_eq_true, h0, isOf_ok, hb, zsum, worthM_ok hV hO hi]
  · unfold B_X6_worthOfSet_4
    simp (disch := omega) only [znm, zbd_some, zbv_some, zgz_n0, zgz_n1, zlit, nI_add, pk_mul, pk_sub, znI_or, znI_and, znI_df, zon_ok, zbt_ok, zlt, zleI, zeqI, zga_in, zgs_in, zgr_in, if_pos, if_neg, if_true, if_false, Bool.false_eq_true, h0]
