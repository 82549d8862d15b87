/-! PURE: cells, loads, readings -/
theorem zti {k : Nat} (h : k < 2147483648) : (nI k).toInt = (k : Int) := nI_toInt h
theorem zltI (x y : Int32) : x < y ↔ x.toInt < y.toInt := Int32.lt_iff_toInt_lt
theorem zleI' (x y : Int32) : x ≤ y ↔ x.toInt ≤ y.toInt := Int32.le_iff_toInt_le
theorem zsubI {len : Nat} {x : Int32} (hl : len ≤ 60) (h0 : 0 ≤ x.toInt) (h1 : x.toInt ≤ len) : (nI len - x).toInt = len - x.toInt := by
  obtain ⟨j, hj, rfl⟩ := nI_of (x := x) (fun q => by rw [zltI] at q; have : (0 : Int32).toInt = 0 := rfl; omega)
  rw [zti hj] at h1 ⊢
  rw [pk_sub (by omega), zti (by omega)]
  omega
def zgd (len : Nat) (x y : Int32) : Prop := 0 ≤ x.toInt ∧ x.toInt ≤ len ∧ 0 ≤ y.toInt ∧ y.toInt ≤ len - x.toInt
theorem has_ok {σ : zSt} {q len : Nat} (h : σ q 2 = nI len) (hl : len ≤ 60) (x y : Int32) : (zgd len x y → M_X2_has q x y σ = some (nI 1, σ)) ∧ (¬ zgd len x y → M_X2_has q x y σ = some (nI 0, σ)) := by
  unfold M_X2_has zgd
  simp only [znm, h]
  have z0 : (0 : Int32).toInt = 0 := rfl
  have zl : (nI len).toInt = len := zti (by omega)
  by_cases c1 : x < 0
  · rw [if_pos c1]
    rw [zltI] at c1
    exact ⟨fun g => by omega, fun _ => rfl⟩
  · rw [if_neg c1]
    rw [zltI] at c1
    by_cases c2 : nI len < x
    · rw [if_pos c2]
      rw [zltI] at c2
      exact ⟨fun g => by omega, fun _ => rfl⟩
    · rw [if_neg c2]
      rw [zltI] at c2
      by_cases c3 : y < 0
      · rw [if_pos c3]
        rw [zltI] at c3
        exact ⟨fun g => by omega, fun _ => rfl⟩
      · rw [if_neg c3]
        rw [zltI] at c3
        have zs := zsubI (len := len) (x := x) hl (by omega) (by omega)
        by_cases c4 : nI len - x < y
        · rw [if_pos c4]
          rw [zltI] at c4
          exact ⟨fun g => by omega, fun _ => rfl⟩
        · rw [if_neg c4]
          rw [zltI] at c4
          exact ⟨fun _ => rfl, fun g => by omega⟩
theorem hasOne_yes {σ : zSt} {q len j : Nat} (h : σ q 2 = nI len) (hl : len ≤ 60) (hj : j < len) : M_X2_has q (nI j) (nI 1) σ = some (nI 1, σ) := (has_ok h hl _ _).1 (by unfold zgd; rw [zti (by omega), zti (by omega)]; omega)
theorem hasOne_no {σ : zSt} {q len : Nat} {x : Int32} (h : σ q 2 = nI len) (hl : len ≤ 60) (hx : x < 0 ∨ nI len ≤ x) : M_X2_has q x (nI 1) σ = some (nI 0, σ) := (has_ok h hl _ _).2 (by
  unfold zgd
  rw [zltI, zleI', zti (by omega), show (0 : Int32).toInt = 0 from rfl] at hx
  rw [zti (by omega)]
  omega)
theorem withinLen_yes {τ : zSt} {len j : Nat} (hl : len ≤ 60) (hj : j < len) : M_X6_within (nI j) (nI 0) (nI len - nI 1) τ = some (nI 1, τ) := by
  unfold M_X6_within
  simp (disch := omega) only [znm, zbd_some, zbv_some, zgz_n0, zgz_n1, zlit, nI_add, pk_mul, pk_sub, znI_or, znI_and, znI_df, zon_ok, zbt_ok, zlt, zleI, zeqI, zga_in, zgs_in, zgr_in, if_pos, if_neg, if_true, if_false, Bool.false_eq_true]
theorem withinLen_no {τ : zSt} {len : Nat} {x : Int32} (hl : len ≤ 60) (hx : x < 0 ∨ nI len ≤ x) : M_X6_within x (nI 0) (nI len - nI 1) τ = some (nI 0, τ) := by
  unfold M_X6_within
  rcases hx with c | c
  · simp (disch := omega) only [znm, zbd_some, zbv_some, zgz_n0, zgz_n1, zlit, nI_add, pk_mul, pk_sub, znI_or, znI_and, znI_df, zon_ok, zbt_ok, zlt, zleI, zeqI, zga_in, zgs_in, zgr_in, if_pos, if_neg, if_true, if_false, Bool.false_eq_true, zneg_lt c]
  · rw [if_neg (by rw [zbig_lt (by omega) c 0 (by omega)]; exact not_false)]
    have e : nI len - nI 1 < x := by
      by_cases h0 : len = 0
      · subst h0
        rw [zleI'] at c
        rw [zltI]
        have e1 : (nI 0 - nI 1).toInt = -1 := by decide
        have e2 : (nI 0).toInt = 0 := by decide
        omega
      · rw [pk_sub (by omega), zbig_gt (by omega) c (len - 1) (by omega)]
        trivial
    rw [if_pos e]; rfl
theorem cut_ok {σ : zSt} {q : Nat} {ln : Nat} (h : σ q 1 = nI ln) (hln : ln ≤ 2) (v : Int32) : M_X2_cut q v σ = some ((if ln = 0 then v.toInt8.toInt32 else if ln = 1 then v.toInt16.toInt32 else v), σ) := by
  unfold M_X2_cut
  simp (disch := omega) only [znm, zbd_some, zbv_some, zgz_n0, zgz_n1, zlit, nI_add, pk_mul, pk_sub, znI_or, znI_and, znI_df, zon_ok, zbt_ok, zlt, zleI, zeqI, zga_in, zgs_in, zgr_in, if_pos, if_neg, if_true, if_false, Bool.false_eq_true, h]
  rcases (by omega : ln = 0 ∨ ln = 1 ∨ ln = 2) with e | e | e <;> rw [e] <;> rfl
theorem sim_put (p1 p2 p3 : Int32) : zSim (M_X5_put p1 p2 p3) (M_X6_put p1 p2 p3) := by
  intro σ τ h0
  have h := h0.fault (nI 0)
  unfold M_X5_put M_X6_put B_X6_put_93
  simp only [znm, zlit]
  generalize zsu σ 0 (upd (σ 0) 7 (nI 0)) = σ at h ⊢
  generalize zsu τ 0 (upd (τ 0) 0 (nI 0)) = τ at h ⊢
  rcases zcase p1 4 (by decide) with hp | ⟨k, hk, rfl⟩
  · refine ⟨-nI 1, σ, τ, ?_, ?_, h⟩
    · simp (disch := omega) only [znm, zbd_some, zbv_some, zgz_n0, zgz_n1, zlit, nI_add, pk_mul, pk_sub, znI_or, znI_and, znI_df, zon_ok, zbt_ok, zlt, zleI, zeqI, zga_in, zgs_in, zgr_in, if_pos, if_neg, if_true, if_false, Bool.false_eq_true, (isSheet_no hp σ).1]
    · simp (disch := omega) only [znm, zbd_some, zbv_some, zgz_n0, zgz_n1, zlit, nI_add, pk_mul, pk_sub, znI_or, znI_and, znI_df, zon_ok, zbt_ok, zlt, zleI, zeqI, zga_in, zgs_in, zgr_in, if_pos, if_neg, if_true, if_false, Bool.false_eq_true, (isSheet_no hp τ).2]
  have u1 := (isSheet_yes hk σ).1
  have u2 := (isSheet_yes hk τ).2
  rcases h.2.1 k hk with ⟨a1, a2⟩ | ⟨ln, len, t1, t2, t3, t4, t5, t6, t7⟩
  · refine ⟨-nI 10 - nI 1, _, _, ?_, ?_, h.fault (nI 1)⟩
    · simp (disch := omega) only [znm, zbd_some, zbv_some, zgz_n0, zgz_n1, zlit, nI_add, pk_mul, pk_sub, znI_or, znI_and, znI_df, zon_ok, zbt_ok, zlt, zleI, zeqI, zga_in, zgs_in, zgr_in, if_pos, if_neg, if_true, if_false, Bool.false_eq_true, u1, a1, faulted_ok]
    · simp (disch := omega) only [znm, zbd_some, zbv_some, zgz_n0, zgz_n1, zlit, nI_add, pk_mul, pk_sub, znI_or, znI_and, znI_df, zon_ok, zbt_ok, zlt, zleI, zeqI, zga_in, zgs_in, zgr_in, if_pos, if_neg, if_true, if_false, Bool.false_eq_true, u2, a2, fails_ok]
  have n1 : (nI ln = -nI 1) = False := eq_false (zneg_ne (by omega) (by decide) (by decide))
  have n9 : (nI ln = -nI 9) = False := eq_false (zneg_ne (by omega) (by decide) (by decide))
  rcases zcase p2 len (by omega) with hx | ⟨j, hj, rfl⟩
  · refine ⟨-nI 10 - nI 3, _, _, ?_, ?_, h.fault (nI 3)⟩
    · simp (disch := omega) only [znm, zbd_some, zbv_some, zgz_n0, zgz_n1, zlit, nI_add, pk_mul, pk_sub, znI_or, znI_and, znI_df, zon_ok, zbt_ok, zlt, zleI, zeqI, zga_in, zgs_in, zgr_in, if_pos, if_neg, if_true, if_false, Bool.false_eq_true, u1, t3, n1, hasOne_no t5 t2 hx, faulted_ok]
    · simp (disch := omega) only [znm, zbd_some, zbv_some, zgz_n0, zgz_n1, zlit, nI_add, pk_mul, znI_or, znI_and, znI_df, zon_ok, zbt_ok, zlt, zleI, zeqI, zga_in, zgs_in, zgr_in, if_pos, if_neg, if_true, if_false, Bool.false_eq_true, u2, t4, n9, t6, withinLen_no t2 hx, fails_ok]
  · have e : zRel (zsu σ (2 + k + 4) (upd (σ (2 + k + 4)) j (if ln = 0 then p3.toInt8.toInt32 else if ln = 1 then p3.toInt16.toInt32 else p3))) (zsu τ 3 (upd (τ 3) (60 * k + j) (if ln = 0 then p3.toInt8.toInt32 else if ln = 1 then p3.toInt16.toInt32 else p3))) := by
      refine h.sheet hk (fun c a b => ?_) (fun c a b e => ?_) (fun i hi => ?_) (fun i hi => ?_) (fun i hi => ?_) (Or.inr ⟨ln, len, by omega, by omega, ?_, ?_, ?_, ?_, fun i hi => ?_⟩)
      · rw [zsu_ne (by omega)]
      · rw [zsu_ne e]
      · rw [zsu_ne (by decide)]
      · rw [zsu_ne (by decide)]
      · rw [zsu_eq, upd_ne (by omega)]
      · rw [zsu_ne (by omega)]; exact t3
      · rw [zsu_ne (by decide)]; exact t4
      · rw [zsu_ne (by omega)]; exact t5
      · rw [zsu_ne (by decide)]; exact t6
      · rw [show 6 + k = 2 + k + 4 by omega, zsu_eq, zsu_eq]
        have := t7 i hi
        rw [show 6 + k = 2 + k + 4 by omega] at this
        unfold upd
        by_cases e : i = j
        · rw [if_pos e, if_pos (show 60 * k + i = 60 * k + j by omega)]
        · rw [if_neg e, if_neg (show ¬ 60 * k + i = 60 * k + j by omega)]; exact this
    refine ⟨nI 1, _, _, ?_, ?_, e⟩
    · simp (disch := omega) only [znm, zbd_some, zbv_some, zgz_n0, zgz_n1, zlit, nI_add, pk_mul, pk_sub, znI_or, znI_and, znI_df, zon_ok, zbt_ok, zlt, zleI, zeqI, zga_in, zgs_in, zgr_in, if_pos, if_neg, if_true, if_false, Bool.false_eq_true, u1, t3, n1, hasOne_yes t5 t2 hj, cut_ok t3 t1]
    · simp (disch := omega) only [znm, zbd_some, zbv_some, zgz_n0, zgz_n1, zlit, nI_add, pk_mul, znI_or, znI_and, znI_df, zon_ok, zbt_ok, zlt, zleI, zeqI, zga_in, zgs_in, zgr_in, if_pos, if_neg, if_true, if_false, Bool.false_eq_true, u2, t4, n9, t6, withinLen_yes t2 hj]
      rcases (by omega : ln = 0 ∨ ln = 1 ∨ ln = 2) with e | e | e <;> rw [e] <;> rfl
theorem faultAs_ok {σ : zSt} {q ln : Nat} (h : σ q 1 = nI ln) (hl : ln ≤ 2) {m : Nat} (hm : m < 3) : M_X2_faultAs q (nI m) σ = some (nI (if ln = m then 0 else 2), σ) := by
  have n1 : (nI ln = -nI 1) = False := eq_false (zneg_ne (by omega) (by decide) (by decide))
  unfold M_X2_faultAs
  simp (disch := omega) only [znm, zbd_some, zbv_some, zgz_n0, zgz_n1, zlit, nI_add, pk_mul, pk_sub, znI_or, znI_and, znI_df, zon_ok, zbt_ok, zlt, zleI, zeqI, zga_in, zgs_in, zgr_in, if_pos, if_neg, if_true, if_false, Bool.false_eq_true, h, n1]
  split <;> rfl
theorem faultAs_null {σ : zSt} {q : Nat} (h : σ q 1 = -nI 1) (x : Int32) : M_X2_faultAs q x σ = some (nI 1, σ) := by
  unfold M_X2_faultAs
  simp (disch := omega) only [znm, zbd_some, zbv_some, zgz_n0, zgz_n1, zlit, nI_add, pk_mul, pk_sub, znI_or, znI_and, znI_df, zon_ok, zbt_ok, zlt, zleI, zeqI, zga_in, zgs_in, zgr_in, if_pos, if_neg, if_true, if_false, Bool.false_eq_true, h]
theorem at_ok {σ : zSt} {q len i : Nat} (h : σ q 2 = nI len) (hl : len ≤ 60) (hi : i < len) : M_X2_at q (nI i) σ = some (σ (q + 4) i, σ) := by
  unfold M_X2_at
  simp (disch := omega) only [znm, zbd_some, zbv_some, zgz_n0, zgz_n1, zlit, nI_add, pk_mul, pk_sub, znI_or, znI_and, znI_df, zon_ok, zbt_ok, zlt, zleI, zeqI, zga_in, zgs_in, zgr_in, if_pos, if_neg, if_true, if_false, Bool.false_eq_true, h]
theorem sim_cell (p1 p2 p3 : Int32) : zSim (M_X5_cell p1 p2 p3) (M_X6_cell p1 p2 p3) := by
  intro σ τ h0
  have h := h0.fault (nI 0)
  have hz : zsu σ 0 (upd (σ 0) 7 (nI 0)) 0 7 = nI 0 := by rw [zsu_eq, upd_eq]
  unfold M_X5_cell M_X6_cell B_X5_cell_63 B_X6_cell_50
  simp only [znm, zlit]
  generalize zsu σ 0 (upd (σ 0) 7 (nI 0)) = σ at h hz ⊢
  generalize zsu τ 0 (upd (τ 0) 0 (nI 0)) = τ at h ⊢
  rcases zcase p1 4 (by decide) with hp | ⟨k, hk, rfl⟩
  · refine ⟨(-9223372036854775808 : Int64), σ, τ, ?_, ?_, h⟩
    · simp (disch := omega) only [znm, zbd_some, zbv_some, zgz_n0, zgz_n1, zlit, nI_add, pk_mul, pk_sub, znI_or, znI_and, znI_df, zon_ok, zbt_ok, zlt, zleI, zeqI, zga_in, zgs_in, zgr_in, if_pos, if_neg, if_true, if_false, Bool.false_eq_true, (isSheet_no hp σ).1]
    · simp (disch := omega) only [znm, zbd_some, zbv_some, zgz_n0, zgz_n1, zlit, nI_add, pk_mul, pk_sub, znI_or, znI_and, znI_df, zon_ok, zbt_ok, zlt, zleI, zeqI, zga_in, zgs_in, zgr_in, if_pos, if_neg, if_true, if_false, Bool.false_eq_true, (isSheet_no hp τ).2]
  have u1 := (isSheet_yes hk σ).1
  have u2 := (isSheet_yes hk τ).2
  rcases zcase p3 3 (by decide) with hl | ⟨m, hm, rfl⟩
  · refine ⟨(-9223372036854775808 : Int64), σ, τ, ?_, ?_, h⟩
    · simp (disch := omega) only [znm, zbd_some, zbv_some, zgz_n0, zgz_n1, zlit, nI_add, pk_mul, pk_sub, znI_or, znI_and, znI_df, zon_ok, zbt_ok, zlt, zleI, zeqI, zga_in, zgs_in, zgr_in, if_pos, if_neg, if_true, if_false, Bool.false_eq_true, u1, (isLane_no hl σ).1]
    · simp (disch := omega) only [znm, zbd_some, zbv_some, zgz_n0, zgz_n1, zlit, nI_add, pk_mul, pk_sub, znI_or, znI_and, znI_df, zon_ok, zbt_ok, zlt, zleI, zeqI, zga_in, zgs_in, zgr_in, if_pos, if_neg, if_true, if_false, Bool.false_eq_true, u2, (isLane_no hl τ).2]
  have w1 := (isLane_yes hm σ).1
  have w2 := (isLane_yes hm τ).2
  have uf : ∀ x : Int32, zsu σ 0 (upd (σ 0) 7 x) 0 7 = x := fun x => by rw [zsu_eq, upd_eq]
  rcases h.2.1 k hk with ⟨a1, a2⟩ | ⟨ln, len, t1, t2, t3, t4, t5, t6, t7⟩
  · refine ⟨(-9223372036854775808 : Int64), _, _, ?_, ?_, h.fault (nI 1)⟩
    · simp (disch := omega) only [znm, zbd_some, zbv_some, zgz_n0, zgz_n1, zlit, nI_add, pk_mul, pk_sub, znI_or, znI_and, znI_df, zon_ok, zbt_ok, zlt, zleI, zeqI, zga_in, zgs_in, zgr_in, if_pos, if_neg, if_true, if_false, Bool.false_eq_true, u1, w1, faultAs_null a1, uf]
    · simp (disch := omega) only [znm, zbd_some, zbv_some, zgz_n0, zgz_n1, zlit, nI_add, pk_mul, pk_sub, znI_or, znI_and, znI_df, zon_ok, zbt_ok, zlt, zleI, zeqI, zga_in, zgs_in, zgr_in, if_pos, if_neg, if_true, if_false, Bool.false_eq_true, u2, w2, a2, lost_ok]
  have n9 : (nI ln = -nI 9) = False := eq_false (zneg_ne (by omega) (by decide) (by decide))
  by_cases hlm : ln = m
  · subst hlm
    have e0 : zsu σ 0 (upd (σ 0) 7 (nI 0)) = σ := by
      have : upd (σ 0) 7 (nI 0) = σ 0 := by
        funext j
        unfold upd
        by_cases e : j = 7
        · rw [if_pos e, e, hz]
        · rw [if_neg e]
      rw [this, zsu_self]
    rcases zcase p2 len (by omega) with hx | ⟨j, hj, rfl⟩
    · refine ⟨(-9223372036854775808 : Int64), _, _, ?_, ?_, h.fault (nI 3)⟩
      · simp (disch := omega) only [znm, zbd_some, zbv_some, zgz_n0, zgz_n1, zlit, nI_add, pk_mul, pk_sub, znI_or, znI_and, znI_df, zon_ok, zbt_ok, zlt, zleI, zeqI, zga_in, zgs_in, zgr_in, if_pos, if_neg, if_true, if_false, Bool.false_eq_true, u1, w1, faultAs_ok t3 t1 hm, e0, hz, hasOne_no t5 t2 hx, uf]
      · simp (disch := omega) only [znm, zbd_some, zbv_some, zgz_n0, zgz_n1, zlit, nI_add, pk_mul, znI_or, znI_and, znI_df, zon_ok, zbt_ok, zlt, zleI, zeqI, zga_in, zgs_in, zgr_in, if_pos, if_neg, if_true, if_false, Bool.false_eq_true, u2, w2, t4, n9, t6, withinLen_no t2 hx, lost_ok]
    · refine ⟨(σ (2 + k + 4) j).toInt64, σ, τ, ?_, ?_, h⟩
      · simp (disch := omega) only [znm, zbd_some, zbv_some, zgz_n0, zgz_n1, zlit, nI_add, pk_mul, pk_sub, znI_or, znI_and, znI_df, zon_ok, zbt_ok, zlt, zleI, zeqI, zga_in, zgs_in, zgr_in, if_pos, if_neg, if_true, if_false, Bool.false_eq_true, u1, w1, faultAs_ok t3 t1 hm, e0, hz, hasOne_yes t5 t2 hj, at_ok t5 t2 hj]
      · simp (disch := omega) only [znm, zbd_some, zbv_some, zgz_n0, zgz_n1, zlit, nI_add, pk_mul, znI_or, znI_and, znI_df, zon_ok, zbt_ok, zlt, zleI, zeqI, zga_in, zgs_in, zgr_in, if_pos, if_neg, if_true, if_false, Bool.false_eq_true, u2, w2, t4, n9, t6, withinLen_yes t2 hj]
        rw [← t7 j (by omega), show 6 + k = 2 + k + 4 by omega]
  · refine ⟨(-9223372036854775808 : Int64), _, _, ?_, ?_, h.fault (nI 2)⟩
    · simp (disch := omega) only [znm, zbd_some, zbv_some, zgz_n0, zgz_n1, zlit, nI_add, pk_mul, pk_sub, znI_or, znI_and, znI_df, zon_ok, zbt_ok, zlt, zleI, zeqI, zga_in, zgs_in, zgr_in, if_pos, if_neg, if_true, if_false, Bool.false_eq_true, u1, w1, faultAs_ok t3 t1 hm, uf]
    · simp (disch := omega) only [znm, zbd_some, zbv_some, zgz_n0, zgz_n1, zlit, nI_add, pk_mul, pk_sub, znI_or, znI_and, znI_df, zon_ok, zbt_ok, zlt, zleI, zeqI, zga_in, zgs_in, zgr_in, if_pos, if_neg, if_true, if_false, Bool.false_eq_true, u2, w2, t4, n9, lost_ok]
theorem sim_load (p1 p2 : Int32) : zSim (M_X5_load p1 p2) (M_X6_load p1 p2) := by
  intro σ τ h
  obtain ⟨⟨n, kd, ld, tw, d, hV, hR⟩, hS, hI, hd⟩ := id h
  obtain ⟨h1, h2, h3, h4, h5, h6⟩ := hV
  have hn := h3.1
  unfold M_X5_load M_X6_load M_X6_within
  rcases zpost p1 hn with hp | ⟨j, hj, rfl⟩
  · rw [isPostX_no h1.1 hp, isPostM_no h2.1 hp]
    exact ⟨_, σ, τ, rfl, rfl, h⟩
  obtain ⟨a1, a2, a3⟩ := h1.2 j hj
  obtain ⟨b1, b2, b3⟩ := h2.2 j hj
  have u1 := isPostX_yes h1.1 hn hj
  have u2 := isPostM_yes h2.1 hn hj
  rcases zix p2 (n := 10) (by decide) with c | c | ⟨q, hq, rfl⟩
  · refine ⟨-nI 2, σ, τ, ?_, ?_, h⟩
    · simp (disch := omega) only [znm, zbd_some, zbv_some, zgz_n0, zgz_n1, zlit, nI_add, pk_mul, pk_sub, znI_or, znI_and, znI_df, zon_ok, zbt_ok, zlt, zleI, zeqI, zga_in, zgs_in, zgr_in, if_pos, if_neg, if_true, if_false, Bool.false_eq_true, u1, zneg_lt c]
    · simp (disch := omega) only [znm, zbd_some, zbv_some, zgz_n0, zgz_n1, zlit, nI_add, pk_mul, pk_sub, znI_or, znI_and, znI_df, zon_ok, zbt_ok, zlt, zleI, zeqI, zga_in, zgs_in, zgr_in, if_pos, if_neg, if_true, if_false, Bool.false_eq_true, u2, zneg_lt c]
  · refine ⟨-nI 2, σ, τ, ?_, ?_, h⟩
    · simp (disch := omega) only [znm, zbd_some, zbv_some, zgz_n0, zgz_n1, zlit, nI_add, pk_mul, pk_sub, znI_or, znI_and, znI_df, zon_ok, zbt_ok, zlt, zleI, zeqI, zga_in, zgs_in, zgr_in, if_pos, if_neg, if_true, if_false, Bool.false_eq_true, u1, zbig_lt (by decide) c, zbig_le (by decide) c]
    · simp (disch := omega) only [znm, zbd_some, zbv_some, zgz_n0, zgz_n1, zlit, nI_add, pk_mul, pk_sub, znI_or, znI_and, znI_df, zon_ok, zbt_ok, zlt, zleI, zeqI, zga_in, zgs_in, zgr_in, if_pos, if_neg, if_true, if_false, Bool.false_eq_true, u2, zbig_lt (by decide) c, zbig_gt (by decide) c]
  · refine ⟨nI (ld j), zsu σ (10 + 2) (upd (σ (10 + 2)) j (nI q)), zsu τ 6 (upd (τ 6) j (nI q)), ?_, ?_, ?_⟩
    · simp (disch := omega) only [znm, zbd_some, zbv_some, zgz_n0, zgz_n1, zlit, nI_add, pk_mul, pk_sub, znI_or, znI_and, znI_df, zon_ok, zbt_ok, zlt, zleI, zeqI, zga_in, zgs_in, zgr_in, if_pos, if_neg, if_true, if_false, Bool.false_eq_true, u1, a2]
    · simp (disch := omega) only [znm, zbd_some, zbv_some, zgz_n0, zgz_n1, zlit, nI_add, pk_mul, pk_sub, znI_or, znI_and, znI_df, zon_ok, zbt_ok, zlt, zleI, zeqI, zga_in, zgs_in, zgr_in, if_pos, if_neg, if_true, if_false, Bool.false_eq_true, u2, b2]
    · refine ⟨⟨n, kd, (fun p => if p = j then q else ld p), tw, d, ⟨⟨?_, fun p hp => ?_⟩, ⟨?_, fun p hp => ?_⟩, ⟨hn, fun p hp => ?_⟩, fun p hp r hr => ?_, h5, h6⟩, ?_⟩, ?_, ?_, fun p hp => ?_⟩
      · rw [zsu_ne (by decide)]; exact h1.1
      · have := h1.2 p hp
        rw [zsu_ne (show 10 + 1 ≠ 10 + 2 by decide), zsu_eq, zsu_ne (show 10 + 3 ≠ 10 + 2 by decide)]
        refine ⟨this.1, ?_, this.2.2⟩
        unfold upd
        by_cases e : p = j
        · rw [if_pos e]; simp only [e, if_true]
        · rw [if_neg e]; simp only [e, if_false]; exact this.2.1
      · rw [zsu_ne (by decide)]; exact h2.1
      · have := h2.2 p hp
        rw [zsu_ne (show 5 ≠ 6 by decide), zsu_eq, zsu_ne (show 4 ≠ 6 by decide)]
        refine ⟨this.1, ?_, this.2.2⟩
        unfold upd
        by_cases e : p = j
        · rw [if_pos e]; simp only [e, if_true]
        · rw [if_neg e]; simp only [e, if_false]; exact this.2.1
      · have := h3.2 p hp
        refine ⟨this.1, ?_, this.2.2⟩
        show (if p = j then q else ld p) ≤ 9
        split
        · omega
        · exact this.2.1
      · rw [zsu_ne (by omega)]; exact h4 p hp r hr
      · obtain ⟨c, r1, r2, r3, r4⟩ := hR
        refine ⟨c, r1, ?_, ?_, fun i hi => ?_⟩
        · rw [zsu_ne (by decide)]; exact r2
        · rw [zsu_ne (by decide)]; exact r3
        · have := r4 i hi
          rw [zsu_ne (show 48 ≠ 10 + 2 by decide), zsu_ne (show 49 ≠ 10 + 2 by decide), zsu_ne (show 50 ≠ 10 + 2 by decide), zsu_ne (show 18 ≠ 6 by decide), zsu_ne (show 19 ≠ 6 by decide), zsu_ne (show 20 ≠ 6 by decide)]
          exact this
      · intro i hi
        have := hS i hi
        unfold zR1 at this ⊢
        rw [zsu_ne (show 2 + i ≠ 10 + 2 by omega), zsu_ne (show 6 + i ≠ 10 + 2 by omega), zsu_ne (show 1 ≠ 6 by decide), zsu_ne (show 2 ≠ 6 by decide), zsu_ne (show 3 ≠ 6 by decide)]
        exact this
      · unfold zRI at hI ⊢
        rw [zsu_ne (show 0 ≠ 10 + 2 by decide), zsu_ne (show 0 ≠ 6 by decide)]; exact hI
      · rw [zsu_ne (by omega)]; exact hd p hp
