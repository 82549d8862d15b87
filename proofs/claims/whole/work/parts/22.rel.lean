/-! PURE: the relation between the class's ints and the reference's -/
/-- a tree on the posts S, by its twigs and its distances -/
def zTR (S : Nat → Prop) (tw : Nat → Nat) (d : Nat → Nat → Nat) : Prop :=
  (∀ p, S p → p < 8) ∧
  (∀ p q, S p → (tw p).testBit q = true → S q ∧ (tw q).testBit p = true ∧ p ≠ q) ∧
  (∀ p, S p → d p p = 0) ∧
  (∀ p q, S p → S q → d p q = d q p) ∧
  (∀ r p q, S r → S p → (tw p).testBit q = true → d r q + 1 = d r p ∨ d r p + 1 = d r q) ∧
  (∀ r p, S r → S p → p ≠ r → ∃ q, (tw p).testBit q = true ∧ d r q + 1 = d r p ∧ ∀ q', (tw p).testBit q' = true → d r q' + 1 = d r p → q' = q)
def zRV (σ τ : zSt) (n : Nat) (kd ld tw : Nat → Nat) (d : Nat → Nat → Nat) : Prop := zVX σ 10 n kd ld tw ∧ zVM τ n kd ld tw ∧ zOK n kd ld tw ∧ zAX σ 10 n d ∧ (n = 0 ∨ 2 ≤ n) ∧ zTR (fun p => p < n) tw d
def zRR (σ τ : zSt) (n : Nat) : Prop := ∃ c, c ≤ 8 ∧ σ 47 0 = nI c ∧ τ 0 23 = nI c ∧ ∀ k, k < c → ∃ s g v, s < n ∧ g < n ∧ v ≤ 200 ∧ σ 48 k = nI s ∧ τ 18 k = nI s ∧ σ 49 k = nI g ∧ τ 19 k = nI g ∧ σ 50 k = nI v ∧ τ 20 k = nI v
def zR1 (σ τ : zSt) (k : Nat) : Prop := (σ (2 + k) 1 = -nI 1 ∧ τ 1 k = -nI 9) ∨ ∃ ln len, ln ≤ 2 ∧ len ≤ 60 ∧ σ (2 + k) 1 = nI ln ∧ τ 1 k = nI ln ∧ σ (2 + k) 2 = nI len ∧ τ 2 k = nI len ∧ ∀ i, i < 60 → σ (6 + k) i = τ 3 (60 * k + i)
def zRS (σ τ : zSt) : Prop := ∀ k, k < 4 → zR1 σ τ k
def zRI (σ τ : zSt) : Prop := σ 0 5 = τ 0 6 ∧ σ 0 6 = τ 0 1 ∧ σ 0 7 = τ 0 0
def zRel (σ τ : zSt) : Prop := (∃ n kd ld tw d, zRV σ τ n kd ld tw d ∧ zRR σ τ n) ∧ zRS σ τ ∧ zRI σ τ ∧ ∀ p, p < 8 → σ (19 + p) p = nI 0
/-- what of the class's ints counts -/
def zeqX (σ σ' : zSt) : Prop := (∀ i, 1 ≤ i → i ≤ 13 → σ' i = σ i) ∧ (∀ i, 19 ≤ i → i ≤ 26 → σ' i = σ i) ∧ (∀ i, 47 ≤ i → i ≤ 50 → σ' i = σ i)
def zeqX0 (σ σ' : zSt) : Prop := σ' 0 5 = σ 0 5 ∧ σ' 0 6 = σ 0 6 ∧ σ' 0 7 = σ 0 7
def zeqM (τ τ' : zSt) : Prop := (∀ i, 1 ≤ i → i ≤ 6 → τ' i = τ i) ∧ (∀ i, 18 ≤ i → i ≤ 20 → τ' i = τ i) ∧ τ' 0 5 = τ 0 5 ∧ τ' 0 23 = τ 0 23
def zeqM0 (τ τ' : zSt) : Prop := τ' 0 0 = τ 0 0 ∧ τ' 0 1 = τ 0 1 ∧ τ' 0 6 = τ 0 6
theorem zRV.eq {σ τ σ' τ' : zSt} {n : Nat} {kd ld tw : Nat → Nat} {d : Nat → Nat → Nat} (h : zRV σ τ n kd ld tw d) (hx : zeqX σ σ') (hm : zeqM τ τ') : zRV σ' τ' n kd ld tw d := by
  obtain ⟨h1, h2, h3, h4, h5, h6⟩ := h
  refine ⟨⟨?_, fun p hp => ?_⟩, ⟨?_, fun p hp => ?_⟩, h3, fun p hp q hq => ?_, h5, h6⟩
  · rw [hx.1 10 (by decide) (by decide)]; exact h1.1
  · have := h1.2 p hp
    rw [hx.1 (10 + 1) (by decide) (by decide), hx.1 (10 + 2) (by decide) (by decide), hx.1 (10 + 3) (by decide) (by decide)]; exact this
  · rw [hm.2.2.1]; exact h2.1
  · have := h2.2 p hp
    rw [hm.1 5 (by decide) (by decide), hm.1 6 (by decide) (by decide), hm.1 4 (by decide) (by decide)]; exact this
  · have h8 := h3.1
    rw [hx.2.1 (10 + 9 + p) (by omega) (by omega)]; exact h4 p hp q hq
theorem zRR.eq {σ τ σ' τ' : zSt} {n : Nat} (h : zRR σ τ n) (hx : zeqX σ σ') (hm : zeqM τ τ') : zRR σ' τ' n := by
  obtain ⟨c, h1, h2, h3, h4⟩ := h
  refine ⟨c, h1, ?_, ?_, fun k hk => ?_⟩
  · rw [hx.2.2 47 (by decide) (by decide)]; exact h2
  · rw [hm.2.2.2]; exact h3
  · have := h4 k hk
    rw [hx.2.2 48 (by decide) (by decide), hx.2.2 49 (by decide) (by decide), hx.2.2 50 (by decide) (by decide), hm.2.1 18 (by decide) (by decide), hm.2.1 19 (by decide) (by decide), hm.2.1 20 (by decide) (by decide)]; exact this
theorem zRS.eq {σ τ σ' τ' : zSt} (h : zRS σ τ) (hx : zeqX σ σ') (hm : zeqM τ τ') : zRS σ' τ' := by
  intro k hk
  have := h k hk
  unfold zR1 at this ⊢
  rw [hx.1 (2 + k) (by omega) (by omega), hx.1 (6 + k) (by omega) (by omega), hm.1 1 (by decide) (by decide), hm.1 2 (by decide) (by decide), hm.1 3 (by decide) (by decide)]
  exact this
theorem zRI.eq {σ τ σ' τ' : zSt} (h : zRI σ τ) (hx : zeqX0 σ σ') (hm : zeqM0 τ τ') : zRI σ' τ' := by
  obtain ⟨h1, h2, h3⟩ := h
  obtain ⟨a1, a2, a3⟩ := hx
  obtain ⟨b1, b2, b3⟩ := hm
  exact ⟨by rw [a1, b3, h1], by rw [a2, b2, h2], by rw [a3, b1, h3]⟩
theorem zRel.eq0 {σ τ σ' τ' : zSt} (h : zRel σ τ) (hx : zeqX σ σ') (hm : zeqM τ τ') (hi : zRI σ' τ') : zRel σ' τ' := by
  obtain ⟨⟨n, kd, ld, tw, d, h1, h2⟩, h3, h4, h5⟩ := h
  exact ⟨⟨n, kd, ld, tw, d, h1.eq hx hm, h2.eq hx hm⟩, h3.eq hx hm, hi, fun p hp => by rw [hx.2.1 (19 + p) (by omega) (by omega)]; exact h5 p hp⟩
theorem zRel.eq {σ τ σ' τ' : zSt} (h : zRel σ τ) (hx : zeqX σ σ') (hx0 : zeqX0 σ σ') (hm : zeqM τ τ') (hm0 : zeqM0 τ τ') : zRel σ' τ' := h.eq0 hx hm (h.2.2.1.eq hx0 hm0)
theorem zeqX.rf {σ : zSt} : zeqX σ σ := ⟨fun _ _ _ => rfl, fun _ _ _ => rfl, fun _ _ _ => rfl⟩
theorem zeqX0.rf {σ : zSt} : zeqX0 σ σ := ⟨rfl, rfl, rfl⟩
theorem zeqM.rf {σ : zSt} : zeqM σ σ := ⟨fun _ _ _ => rfl, fun _ _ _ => rfl, rfl, rfl⟩
theorem zeqM0.rf {σ : zSt} : zeqM0 σ σ := ⟨rfl, rfl, rfl⟩
theorem zeqX.su0 {σ : zSt} {φ : Nat → Int32} : zeqX σ (zsu σ 0 φ) := ⟨fun i _ _ => zsu_ne (by omega), fun i _ _ => zsu_ne (by omega), fun i _ _ => zsu_ne (by omega)⟩
theorem zeqM.su0 {σ : zSt} {k : Nat} {v : Int32} (h5 : k ≠ 5) (h23 : k ≠ 23) : zeqM σ (zsu σ 0 (upd (σ 0) k v)) := ⟨fun i _ _ => zsu_ne (by omega), fun i _ _ => zsu_ne (by omega), by rw [zsu_eq, upd_ne (Ne.symm h5)], by rw [zsu_eq, upd_ne (Ne.symm h23)]⟩
/-- both have the fault x -/
theorem zRel.fault {σ τ : zSt} (h : zRel σ τ) (x : Int32) : zRel (zsu σ 0 (upd (σ 0) 7 x)) (zsu τ 0 (upd (τ 0) 0 x)) := by
  refine h.eq0 zeqX.su0 (zeqM.su0 (by decide) (by decide)) ⟨?_, ?_, ?_⟩
  · rw [zsu_eq, zsu_eq, upd_ne (by decide), upd_ne (by decide)]; exact h.2.2.1.1
  · rw [zsu_eq, zsu_eq, upd_ne (by decide), upd_ne (by decide)]; exact h.2.2.1.2.1
  · rw [zsu_eq, zsu_eq, upd_eq, upd_eq]
theorem zRel.trace {σ τ : zSt} (h : zRel σ τ) (x : Int32) : zRel (zsu σ 0 (upd (σ 0) 6 x)) (zsu τ 0 (upd (τ 0) 1 x)) := by
  refine h.eq0 zeqX.su0 (zeqM.su0 (by decide) (by decide)) ⟨?_, ?_, ?_⟩
  · rw [zsu_eq, zsu_eq, upd_ne (by decide), upd_ne (by decide)]; exact h.2.2.1.1
  · rw [zsu_eq, zsu_eq, upd_eq, upd_eq]
  · rw [zsu_eq, zsu_eq, upd_ne (by decide), upd_ne (by decide)]; exact h.2.2.1.2.2
/-- a call of the one and of the other: the same answer, and they stay alike -/
def zSim {α : Type} (A B : zSt → Option (α × zSt)) : Prop := ∀ σ τ, zRel σ τ → ∃ (r : α) (σ' τ' : zSt), A σ = some (r, σ') ∧ B τ = some (r, τ') ∧ zRel σ' τ'
theorem faulted_ok (x : Int32) (σ : zSt) : M_X5_faulted x σ = some (-10 - x, zsu σ 0 (upd (σ 0) 7 x)) := rfl
theorem fails_ok (x : Int32) (σ : zSt) : M_X6_fails x σ = some (-10 - x, zsu σ 0 (upd (σ 0) 0 x)) := rfl
theorem lost_ok (x : Int32) (σ : zSt) : M_X6_lost x σ = some (-9223372036854775808, zsu σ 0 (upd (σ 0) 0 x)) := rfl
theorem begins_rel {σ τ : zSt} (h : zRel σ τ) (x : Int32) : ∃ σ' τ', M_X5_leave x σ = some σ' ∧ M_X6_begins x τ = some τ' ∧ zRel σ' τ' ∧ (∀ i, i ≠ 0 → σ' i = σ i) ∧ (∀ i, i ≠ 0 → τ' i = τ i) ∧ τ' 0 5 = τ 0 5 := by
  refine ⟨zsu σ 0 (upd (σ 0) 6 (31 * σ 0 6 + x)), zsu τ 0 (upd (τ 0) 1 (31 * τ 0 1 + x)), rfl, rfl, ?_, fun i hi => zsu_ne hi, fun i hi => zsu_ne hi, by rw [zsu_eq, upd_ne (by decide)]⟩
  have e : σ 0 6 = τ 0 1 := h.2.2.1.2.1
  rw [e]
  exact h.trace _
-- trace, fault
theorem sim_trace : zSim M_X5_trace M_X6_trace := fun σ τ h => ⟨σ 0 6, σ, τ, rfl, by rw [h.2.2.1.2.1]; rfl, h⟩
theorem sim_fault : zSim M_X5_fault M_X6_fault := fun σ τ h => ⟨σ 0 7, σ, τ, rfl, by rw [h.2.2.1.2.2]; rfl, h⟩
theorem sim_many (p1 : Int32) : zSim (M_X5_many p1) (M_X6_many p1) := by
  intro σ τ h
  obtain ⟨⟨n, kd, ld, tw, d, hV, hR⟩, hS, hI, hd⟩ := id h
  obtain ⟨h1, h2, h3, h4, h5, h6⟩ := hV
  obtain ⟨c, g1, g2, g3, g4⟩ := hR
  have hn := h3.1
  have e2 : σ 10 0 = nI n := h1.1
  have e3 : τ 0 5 = nI n := h2.1
  have e4 := endsX_ok h1 h3
  have e5 := endsM_ok h2 h3
  have l1 := zset_lt (fun p => decide (zpc (tw p) = 1)) n
  have l2 := zp256 hn
  have e6 := hI.1
  unfold M_X5_many M_X6_many
  by_cases c0 : p1 = 0
  · rw [if_pos c0, if_pos c0]
    exact ⟨nI n, σ, τ, by simp only [znm, e2], by simp only [znm, e3], h⟩
  · rw [if_neg c0, if_neg c0]
    by_cases c1 : p1 = 1
    · rw [if_pos c1, if_pos c1]
      exact ⟨_, σ, τ, rfl, by simp only [znm, e6], h⟩
    · rw [if_neg c1, if_neg c1]
      by_cases c2 : p1 = 2
      · rw [if_pos c2, if_pos c2, e4, e5]
        exact ⟨_, σ, τ, by simp only [zbd_some, bitCount_ok (show zset (fun p => decide (zpc (tw p) = 1)) n < 256 by omega)]; rfl, by simp only [zbd_some, size_ok (show zset (fun p => decide (zpc (tw p) = 1)) n < 256 by omega)], h⟩
      · rw [if_neg c2, if_neg c2]
        by_cases c3 : p1 = 3
        · rw [if_pos c3, if_pos c3]
          exact ⟨nI c, σ, τ, by simp only [znm, g2], by simp only [znm, g3], h⟩
        · rw [if_neg c3, if_neg c3]
          exact ⟨_, σ, τ, rfl, rfl, h⟩
theorem sim_tell (p1 : Int32) : zSim (M_X5_tell p1) (M_X6_tell p1) := by
  intro σ τ h
  obtain ⟨⟨n, kd, ld, tw, d, hV, hR⟩, hS, hI, hd⟩ := id h
  obtain ⟨h1, h2, h3, h4, h5, h6⟩ := hV
  have hn := h3.1
  unfold M_X5_tell M_X6_tell
  rcases zpost p1 hn with hp | ⟨j, hj, rfl⟩
  · rw [isPostX_no h1.1 hp, isPostM_no h2.1 hp]
    exact ⟨_, σ, τ, rfl, rfl, h⟩
  · obtain ⟨a1, a2, a3⟩ := h1.2 j hj
    obtain ⟨b1, b2, b3⟩ := h2.2 j hj
    obtain ⟨k1, k2, k3⟩ := h3.2 j hj
    have u1 := isPostX_yes h1.1 hn hj
    have u2 := isPostM_yes h2.1 hn hj
    rcases (by omega : kd j = 0 ∨ kd j = 1 ∨ kd j = 2) with e | e | e
    · obtain ⟨σ1, τ1, q1, q2, q3, q4, q5, q6⟩ := begins_rel h (nI 1)
      refine ⟨nI (ld j), σ1, τ1, ?_, ?_, q3⟩
      · unfold M_X5_tellPlain
        simp (disch := omega) only [znm, zbd_some, zbv_some, zgz_n0, zgz_n1, zlit, nI_add, pk_mul, pk_sub, znI_or, znI_and, znI_df, zon_ok, zbt_ok, zlt, zleI, zeqI, zga_in, zgs_in, zgr_in, if_pos, if_neg, if_true, if_false, Bool.false_eq_true, u1, a1, e, q1, q4 (10 + 2) (by decide), a2]
      · simp (disch := omega) only [znm, zbd_some, zbv_some, zgz_n0, zgz_n1, zlit, nI_add, pk_mul, pk_sub, znI_or, znI_and, znI_df, zon_ok, zbt_ok, zlt, zleI, zeqI, zga_in, zgs_in, zgr_in, if_pos, if_neg, if_true, if_false, Bool.false_eq_true, u2, b1, b2, e, q2]
    · obtain ⟨σ1, τ1, q1, q2, q3, q4, q5, q6⟩ := begins_rel h (nI 2)
      obtain ⟨σ2, τ2, r1, r2, r3, r4, r5, r6⟩ := begins_rel q3 (nI 1)
      refine ⟨nI (ld j + 100), σ2, τ2, ?_, ?_, r3⟩
      · unfold M_X5_tellBroad M_X5_tellPlain
        simp (disch := omega) only [znm, zbd_some, zbv_some, zgz_n0, zgz_n1, zlit, nI_add, pk_mul, pk_sub, znI_or, znI_and, znI_df, zon_ok, zbt_ok, zlt, zleI, zeqI, zga_in, zgs_in, zgr_in, if_pos, if_neg, if_true, if_false, Bool.false_eq_true, u1, a1, e, q1, r1, r4 (10 + 2) (by decide), q4 (10 + 2) (by decide), a2]
      · simp (disch := omega) only [znm, zbd_some, zbv_some, zgz_n0, zgz_n1, zlit, nI_add, pk_mul, pk_sub, znI_or, znI_and, znI_df, zon_ok, zbt_ok, zlt, zleI, zeqI, zga_in, zgs_in, zgr_in, if_pos, if_neg, if_true, if_false, Bool.false_eq_true, u2, b1, b2, e, q2, r2]
    · obtain ⟨σ1, τ1, q1, q2, q3, q4, q5, q6⟩ := begins_rel h (nI 3)
      obtain ⟨σ2, τ2, r1, r2, r3, r4, r5, r6⟩ := begins_rel q3 (nI 2)
      obtain ⟨σ3, τ3, s1, s2, s3, s4, s5, s6⟩ := begins_rel r3 (nI 1)
      obtain ⟨σ4, τ4, t1, t2, t3, t4, t5, t6⟩ := begins_rel s3 (nI 1)
      refine ⟨nI (2 * ld j + 100), σ4, τ4, ?_, ?_, t3⟩
      · unfold M_X5_tellDouble M_X5_tellBroad M_X5_tellPlain
        simp (disch := omega) only [znm, zbd_some, zbv_some, zgz_n0, zgz_n1, zlit, nI_add, pk_mul, pk_sub, znI_or, znI_and, znI_df, zon_ok, zbt_ok, zlt, zleI, zeqI, zga_in, zgs_in, zgr_in, if_pos, if_neg, if_true, if_false, Bool.false_eq_true, u1, a1, e, q1, r1, s1, t1, t4 (10 + 2) (by decide), s4 (10 + 2) (by decide), r4 (10 + 2) (by decide), q4 (10 + 2) (by decide), a2]
        congr 3
        omega
      · simp (disch := omega) only [znm, zbd_some, zbv_some, zgz_n0, zgz_n1, zlit, nI_add, pk_mul, pk_sub, znI_or, znI_and, znI_df, zon_ok, zbt_ok, zlt, zleI, zeqI, zga_in, zgs_in, zgr_in, if_pos, if_neg, if_true, if_false, Bool.false_eq_true, u2, b1, b2, e, q2, r2, s2, t2]
theorem sim_knock (p1 : Int32) : zSim (M_X5_knock p1) (M_X6_knock p1) := by
  intro σ τ h
  obtain ⟨⟨n, kd, ld, tw, d, hV, hR⟩, hS, hI, hd⟩ := id h
  obtain ⟨h1, h2, h3, h4, h5, h6⟩ := hV
  have hn := h3.1
  unfold M_X5_knock M_X6_knock B_X6_knock_26
  rcases zpost p1 hn with hp | ⟨j, hj, rfl⟩
  · rw [isPostX_no h1.1 hp, isPostM_no h2.1 hp]
    exact ⟨_, σ, τ, rfl, rfl, h⟩
  · obtain ⟨a1, a2, a3⟩ := h1.2 j hj
    obtain ⟨b1, b2, b3⟩ := h2.2 j hj
    obtain ⟨k1, k2, k3⟩ := h3.2 j hj
    have u1 := isPostX_yes h1.1 hn hj
    have u2 := isPostM_yes h2.1 hn hj
    by_cases e : kd j = 2
    · obtain ⟨σ1, τ1, q1, q2, q3, q4, q5, q6⟩ := begins_rel h (nI 5)
      refine ⟨nI 80, σ1, τ1, ?_, ?_, q3⟩
      · simp (disch := omega) only [znm, zbd_some, zbv_some, zgz_n0, zgz_n1, zlit, nI_add, pk_mul, pk_sub, znI_or, znI_and, znI_df, zon_ok, zbt_ok, zlt, zleI, zeqI, zga_in, zgs_in, zgr_in, if_pos, if_neg, if_true, if_false, Bool.false_eq_true, u1, a1, e, q1]
      · simp (disch := omega) only [znm, zbd_some, zbv_some, zgz_n0, zgz_n1, zlit, nI_add, pk_mul, pk_sub, znI_or, znI_and, znI_df, zon_ok, zbt_ok, zlt, zleI, zeqI, zga_in, zgs_in, zgr_in, if_pos, if_neg, if_true, if_false, Bool.false_eq_true, u2, b1, e, q2, q5 5 (by decide)]
    · obtain ⟨σ1, τ1, q1, q2, q3, q4, q5, q6⟩ := begins_rel h (nI 4)
      refine ⟨nI (zpc (tw j)), σ1, τ1, ?_, ?_, q3⟩
      · simp (disch := omega) only [znm, zbd_some, zbv_some, zgz_n0, zgz_n1, zlit, nI_add, pk_mul, pk_sub, znI_or, znI_and, znI_df, zon_ok, zbt_ok, zlt, zleI, zeqI, zga_in, zgs_in, zgr_in, if_pos, if_neg, if_true, if_false, Bool.false_eq_true, u1, a1, q1, q4 (10 + 3) (by decide), a3, bitCount_ok]
      · simp (disch := omega) only [znm, zbd_some, zbv_some, zgz_n0, zgz_n1, zlit, nI_add, pk_mul, pk_sub, znI_or, znI_and, znI_df, zon_ok, zbt_ok, zlt, zleI, zeqI, zga_in, zgs_in, zgr_in, if_pos, if_neg, if_true, if_false, Bool.false_eq_true, u2, b1, q2, q5 5 (by decide), q5 4 (by decide), b3, size_ok]
theorem sim_as (p1 p2 : Int32) : zSim (M_X5_as p1 p2) (M_X6_as p1 p2) := by
  intro σ τ h0
  have h := h0.fault (nI 0)
  obtain ⟨⟨n, kd, ld, tw, d, hV, hR⟩, hS, hI, hd⟩ := id h
  obtain ⟨h1, h2, h3, h4, h5, h6⟩ := hV
  have hn := h3.1
  unfold M_X5_as M_X6_as M_X6_within
  simp only [znm, zlit]
  generalize zsu σ 0 (upd (σ 0) 7 (nI 0)) = σ at h h1 ⊢
  generalize zsu τ 0 (upd (τ 0) 0 (nI 0)) = τ at h h2 ⊢
  rcases zpost p1 hn with hp | ⟨j, hj, rfl⟩
  · rw [isPostX_no h1.1 hp, isPostM_no h2.1 hp]
    exact ⟨_, σ, τ, rfl, rfl, h⟩
  · obtain ⟨a1, a2, a3⟩ := h1.2 j hj
    obtain ⟨b1, b2, b3⟩ := h2.2 j hj
    obtain ⟨k1, k2, k3⟩ := h3.2 j hj
    have u1 := isPostX_yes h1.1 hn hj
    have u2 := isPostM_yes h2.1 hn hj
    rcases zix p2 (n := 3) (by decide) with c | c | ⟨q, hq, rfl⟩
    · refine ⟨-nI 2, σ, τ, ?_, ?_, h⟩
      · simp (disch := omega) only [znm, zbd_some, zbv_some, zgz_n0, zgz_n1, zlit, nI_add, pk_mul, pk_sub, znI_or, znI_and, znI_df, zon_ok, zbt_ok, zlt, zleI, zeqI, zga_in, zgs_in, zgr_in, if_pos, if_neg, if_true, if_false, Bool.false_eq_true, u1, zneg_lt c]
      · simp (disch := omega) only [znm, zbd_some, zbv_some, zgz_n0, zgz_n1, zlit, nI_add, pk_mul, pk_sub, znI_or, znI_and, znI_df, zon_ok, zbt_ok, zlt, zleI, zeqI, zga_in, zgs_in, zgr_in, if_pos, if_neg, if_true, if_false, Bool.false_eq_true, u2, zneg_lt c]
    · refine ⟨-nI 2, σ, τ, ?_, ?_, h⟩
      · simp (disch := omega) only [znm, zbd_some, zbv_some, zgz_n0, zgz_n1, zlit, nI_add, pk_mul, pk_sub, znI_or, znI_and, znI_df, zon_ok, zbt_ok, zlt, zleI, zeqI, zga_in, zgs_in, zgr_in, if_pos, if_neg, if_true, if_false, Bool.false_eq_true, u1, zbig_lt (by decide) c, zbig_le (by decide) c]
      · simp (disch := omega) only [znm, zbd_some, zbv_some, zgz_n0, zgz_n1, zlit, nI_add, pk_mul, pk_sub, znI_or, znI_and, znI_df, zon_ok, zbt_ok, zlt, zleI, zeqI, zga_in, zgs_in, zgr_in, if_pos, if_neg, if_true, if_false, Bool.false_eq_true, u2, zbig_lt (by decide) c, zbig_gt (by decide) c]
    · by_cases e : q ≤ kd j
      · refine ⟨nI 1, σ, τ, ?_, ?_, h⟩
        · simp (disch := omega) only [znm, zbd_some, zbv_some, zgz_n0, zgz_n1, zlit, nI_add, pk_mul, pk_sub, znI_or, znI_and, znI_df, zon_ok, zbt_ok, zlt, zleI, zeqI, zga_in, zgs_in, zgr_in, if_pos, if_neg, if_true, if_false, Bool.false_eq_true, u1, a1]
        · simp (disch := omega) only [znm, zbd_some, zbv_some, zgz_n0, zgz_n1, zlit, nI_add, pk_mul, pk_sub, znI_or, znI_and, znI_df, zon_ok, zbt_ok, zlt, zleI, zeqI, zga_in, zgs_in, zgr_in, if_pos, if_neg, if_true, if_false, Bool.false_eq_true, u2, b1]
      · refine ⟨-nI 10 - nI 2, _, _, ?_, ?_, h.fault (nI 2)⟩
        · simp (disch := omega) only [znm, zbd_some, zbv_some, zgz_n0, zgz_n1, zlit, nI_add, pk_mul, pk_sub, znI_or, znI_and, znI_df, zon_ok, zbt_ok, zlt, zleI, zeqI, zga_in, zgs_in, zgr_in, if_pos, if_neg, if_true, if_false, Bool.false_eq_true, u1, a1, faulted_ok]

        · simp (disch := omega) only [znm, zbd_some, zbv_some, zgz_n0, zgz_n1, zlit, nI_add, pk_mul, pk_sub, znI_or, znI_and, znI_df, zon_ok, zbt_ok, zlt, zleI, zeqI, zga_in, zgs_in, zgr_in, if_pos, if_neg, if_true, if_false, Bool.false_eq_true, u2, b1, fails_ok]
