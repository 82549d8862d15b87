/-! PURE: sheets -/
theorem zsu_su {σ : zSt} {c : Nat} {φ ψ : Nat → Int32} : zsu (zsu σ c φ) c ψ = zsu σ c ψ := by
  funext a
  unfold zsu
  split <;> rfl
theorem zsu_self {σ : zSt} {c : Nat} : zsu σ c (σ c) = σ := by
  funext a
  unfold zsu
  split
  · rename_i h; rw [h]
  · rfl
theorem isSheet_no {x : Int32} (h : x < 0 ∨ nI 4 ≤ x) (σ : zSt) : M_X5_isSheet x σ = some (nI 0, σ) ∧ M_X6_isSheet x σ = some (nI 0, σ) := by
  unfold M_X5_isSheet M_X6_isSheet M_X6_within
  rcases h with c | c
  · constructor
    · simp (disch := omega) only [znm, zbd_some, zbv_some, zgz_n0, zgz_n1, zlit, nI_add, pk_mul, pk_sub, znI_or, znI_and, znI_df, zon_ok, zbt_ok, zlt, zleI, zeqI, zga_in, zgs_in, zgr_in, if_pos, if_neg, if_true, if_false, Bool.false_eq_true, zneg_lt c]
    · simp (disch := omega) only [znm, zbd_some, zbv_some, zgz_n0, zgz_n1, zlit, nI_add, pk_mul, pk_sub, znI_or, znI_and, znI_df, zon_ok, zbt_ok, zlt, zleI, zeqI, zga_in, zgs_in, zgr_in, if_pos, if_neg, if_true, if_false, Bool.false_eq_true, zneg_lt c]
  · constructor
    · simp (disch := omega) only [znm, zbd_some, zbv_some, zgz_n0, zgz_n1, zlit, nI_add, pk_mul, pk_sub, znI_or, znI_and, znI_df, zon_ok, zbt_ok, zlt, zleI, zeqI, zga_in, zgs_in, zgr_in, if_pos, if_neg, if_true, if_false, Bool.false_eq_true, zbig_lt (by decide) c, zbig_ge (by decide) c]
    · simp (disch := omega) only [znm, zbd_some, zbv_some, zgz_n0, zgz_n1, zlit, nI_add, pk_mul, pk_sub, znI_or, znI_and, znI_df, zon_ok, zbt_ok, zlt, zleI, zeqI, zga_in, zgs_in, zgr_in, if_pos, if_neg, if_true, if_false, Bool.false_eq_true, zbig_lt (by decide) c, zbig_gt (by decide) c]
theorem isSheet_yes {k : Nat} (h : k < 4) (σ : zSt) : M_X5_isSheet (nI k) σ = some (nI 1, σ) ∧ M_X6_isSheet (nI k) σ = some (nI 1, σ) := by
  unfold M_X5_isSheet M_X6_isSheet M_X6_within
  constructor
  · simp (disch := omega) only [znm, zbd_some, zbv_some, zgz_n0, zgz_n1, zlit, nI_add, pk_mul, pk_sub, znI_or, znI_and, znI_df, zon_ok, zbt_ok, zlt, zleI, zeqI, zga_in, zgs_in, zgr_in, if_pos, if_neg, if_true, if_false, Bool.false_eq_true]
  · simp (disch := omega) only [znm, zbd_some, zbv_some, zgz_n0, zgz_n1, zlit, nI_add, pk_mul, pk_sub, znI_or, znI_and, znI_df, zon_ok, zbt_ok, zlt, zleI, zeqI, zga_in, zgs_in, zgr_in, if_pos, if_neg, if_true, if_false, Bool.false_eq_true]
theorem isLane_no {x : Int32} (h : x < 0 ∨ nI 3 ≤ x) (σ : zSt) : M_X5_isLane x σ = some (nI 0, σ) ∧ M_X6_isSort x σ = some (nI 0, σ) := by
  unfold M_X5_isLane M_X6_isSort M_X6_within
  rcases h with c | c
  · constructor
    · simp (disch := omega) only [znm, zbd_some, zbv_some, zgz_n0, zgz_n1, zlit, nI_add, pk_mul, pk_sub, znI_or, znI_and, znI_df, zon_ok, zbt_ok, zlt, zleI, zeqI, zga_in, zgs_in, zgr_in, if_pos, if_neg, if_true, if_false, Bool.false_eq_true, zneg_lt c]
    · simp (disch := omega) only [znm, zbd_some, zbv_some, zgz_n0, zgz_n1, zlit, nI_add, pk_mul, pk_sub, znI_or, znI_and, znI_df, zon_ok, zbt_ok, zlt, zleI, zeqI, zga_in, zgs_in, zgr_in, if_pos, if_neg, if_true, if_false, Bool.false_eq_true, zneg_lt c]
  · constructor
    · simp (disch := omega) only [znm, zbd_some, zbv_some, zgz_n0, zgz_n1, zlit, nI_add, pk_mul, pk_sub, znI_or, znI_and, znI_df, zon_ok, zbt_ok, zlt, zleI, zeqI, zga_in, zgs_in, zgr_in, if_pos, if_neg, if_true, if_false, Bool.false_eq_true, zbig_lt (by decide) c, zbig_gt (by decide) c]
    · simp (disch := omega) only [znm, zbd_some, zbv_some, zgz_n0, zgz_n1, zlit, nI_add, pk_mul, pk_sub, znI_or, znI_and, znI_df, zon_ok, zbt_ok, zlt, zleI, zeqI, zga_in, zgs_in, zgr_in, if_pos, if_neg, if_true, if_false, Bool.false_eq_true, zbig_lt (by decide) c, zbig_gt (by decide) c]
theorem isLane_yes {k : Nat} (h : k < 3) (σ : zSt) : M_X5_isLane (nI k) σ = some (nI 1, σ) ∧ M_X6_isSort (nI k) σ = some (nI 1, σ) := by
  unfold M_X5_isLane M_X6_isSort M_X6_within
  constructor
  · simp (disch := omega) only [znm, zbd_some, zbv_some, zgz_n0, zgz_n1, zlit, nI_add, pk_mul, pk_sub, znI_or, znI_and, znI_df, zon_ok, zbt_ok, zlt, zleI, zeqI, zga_in, zgs_in, zgr_in, if_pos, if_neg, if_true, if_false, Bool.false_eq_true]
  · simp (disch := omega) only [znm, zbd_some, zbv_some, zgz_n0, zgz_n1, zlit, nI_add, pk_mul, pk_sub, znI_or, znI_and, znI_df, zon_ok, zbt_ok, zlt, zleI, zeqI, zga_in, zgs_in, zgr_in, if_pos, if_neg, if_true, if_false, Bool.false_eq_true]
theorem zcase (x : Int32) (n : Nat) (hn : n < 2147483648) : (x < 0 ∨ nI n ≤ x) ∨ ∃ j, j < n ∧ x = nI j := by
  rcases zix x (n := n) hn with h | h | h
  · exact Or.inl (Or.inl h)
  · exact Or.inl (Or.inr h)
  · exact Or.inr h
/-- a sheet k is new on both sides -/
theorem zRel.sheet {σ τ σ' τ' : zSt} {k : Nat} (h : zRel σ τ) (hk : k < 4) (hx : ∀ c, c ≠ 2 + k → c ≠ 6 + k → σ' c = σ c) (hm : ∀ c, c ≠ 1 → c ≠ 2 → c ≠ 3 → τ' c = τ c) (h1 : ∀ i, i ≠ k → τ' 1 i = τ 1 i) (h2 : ∀ i, i ≠ k → τ' 2 i = τ 2 i) (h3 : ∀ j, j < 60 * k ∨ 60 * k + 60 ≤ j → τ' 3 j = τ 3 j) (hR : zR1 σ' τ' k) : zRel σ' τ' := by
  obtain ⟨⟨n, kd, ld, tw, d, ⟨v1, v2, v3, v4, v5, v6⟩, ⟨c, r1, r2, r3, r4⟩⟩, hS, hI, hd⟩ := h
  have h8 := v3.1
  refine ⟨⟨n, kd, ld, tw, d, ⟨⟨?_, fun p hp => ?_⟩, ⟨?_, fun p hp => ?_⟩, v3, fun p hp q hq => ?_, v5, v6⟩, ⟨c, r1, ?_, ?_, fun i hi => ?_⟩⟩, fun i hi => ?_, ?_, fun p hp => ?_⟩
  · rw [hx 10 (by omega) (by omega)]; exact v1.1
  · have := v1.2 p hp
    rw [hx (10 + 1) (by omega) (by omega), hx (10 + 2) (by omega) (by omega), hx (10 + 3) (by omega) (by omega)]; exact this
  · rw [hm 0 (by decide) (by decide) (by decide)]; exact v2.1
  · have := v2.2 p hp
    rw [hm 5 (by decide) (by decide) (by decide), hm 6 (by decide) (by decide) (by decide), hm 4 (by decide) (by decide) (by decide)]; exact this
  · rw [hx (10 + 9 + p) (by omega) (by omega)]; exact v4 p hp q hq
  · rw [hx 47 (by omega) (by omega)]; exact r2
  · rw [hm 0 (by decide) (by decide) (by decide)]; exact r3
  · have := r4 i hi
    rw [hx 48 (by omega) (by omega), hx 49 (by omega) (by omega), hx 50 (by omega) (by omega), hm 18 (by decide) (by decide) (by decide), hm 19 (by decide) (by decide) (by decide), hm 20 (by decide) (by decide) (by decide)]; exact this
  · by_cases e : i = k
    · rw [e]; exact hR
    · have := hS i hi
      unfold zR1 at this ⊢
      rw [hx (2 + i) (by omega) (by omega), hx (6 + i) (by omega) (by omega), h1 i e, h2 i e]
      rcases this with t | ⟨ln, len, t1, t2, t3, t4, t5, t6, t7⟩
      · exact Or.inl t
      · refine Or.inr ⟨ln, len, t1, t2, t3, t4, t5, t6, fun j hj => ?_⟩
        rw [h3 (60 * i + j) (by omega)]
        exact t7 j hj
  · unfold zRI at hI ⊢
    rw [hx 0 (by omega) (by omega), hm 0 (by decide) (by decide) (by decide)]; exact hI
  · rw [hx (19 + p) (by omega) (by omega)]; exact hd p hp
/-- f, but 0 from lo on, c places -/
def zzero (f : Nat → Int32) (lo c : Nat) : Nat → Int32 := fun j => if lo ≤ j ∧ j < lo + c then nI 0 else f j
theorem zzero_0 {f : Nat → Int32} {lo : Nat} : zzero f lo 0 = f := by
  funext j
  unfold zzero
  rw [if_neg (by omega)]
theorem zzero_s {f : Nat → Int32} {lo c : Nat} : upd (zzero f lo c) (lo + c) (nI 0) = zzero f lo (c + 1) := by
  funext j
  unfold zzero upd
  by_cases e : j = lo + c
  · rw [if_pos e, if_pos (by omega)]
  · rw [if_neg e]
    show (if lo ≤ j ∧ j < lo + c then nI 0 else f j) = _
    by_cases q : lo ≤ j ∧ j < lo + c
    · rw [if_pos q, if_pos (by omega)]
    · rw [if_neg q, if_neg (by omega)]
theorem begin_ok {σ : zSt} {q : Nat} (ln len : Int32) : M_X2_begin q ln len σ = some (zsu (zsu σ q (upd (upd (σ q) 1 ln) 2 len)) (q + 4) (zzero (σ (q + 4)) 0 60)) := by
  unfold M_X2_begin L_X2_begin_12
  simp only [znm, zsu_eq, zsu_su]
  have e0 : zsu σ q (upd (upd (σ q) 1 ln) 2 len) (q + 4) = σ (q + 4) := zsu_ne (by omega)
  generalize zsu σ q (upd (upd (σ q) 1 ln) 2 len) = S at e0 ⊢
  rw [← e0]
  refine zloop_for (fun i => (nI i, zsu S (q + 4) (zzero (S (q + 4)) 0 i))) 60 ?_ (by decide) (fun rec i hi => ?_) (fun rec => ?_)
  · show (nI 0, S) = (nI 0, zsu S (q + 4) (zzero (S (q + 4)) 0 0))
    rw [zzero_0, zsu_self]
  · unfold B_X2_begin_12
    simp (disch := omega) only [znm, zbd_some, zbv_some, zgz_n0, zgz_n1, zlit, nI_add, pk_mul, pk_sub, znI_or, znI_and, znI_df, zon_ok, zbt_ok, zlt, zleI, zeqI, zga_in, zgs_in, zgr_in, if_pos, if_neg, if_true, if_false, Bool.false_eq_true, zsu_eq, zsu_su]
    have := zzero_s (f := S (q + 4)) (lo := 0) (c := i)
    rw [Nat.zero_add] at this
    rw [this]
  · unfold B_X2_begin_12
    simp (disch := omega) only [znm, zbd_some, zbv_some, zgz_n0, zgz_n1, zlit, nI_add, pk_mul, pk_sub, znI_or, znI_and, znI_df, zon_ok, zbt_ok, zlt, zleI, zeqI, zga_in, zgs_in, zgr_in, if_pos, if_neg, if_true, if_false, Bool.false_eq_true]
theorem sheetM_loop {τ : zSt} {k : Nat} (hk : k < 4) (p2 p3 : Int32) : L_X6_sheet_57 (nI k) p2 p3 (nI 0) τ = some (nI 1, zsu τ 3 (zzero (τ 3) (60 * k) 60)) := by
  unfold L_X6_sheet_57
  refine zloop_for (fun i => (nI i, zsu τ 3 (zzero (τ 3) (60 * k) i))) 60 ?_ (by decide) (fun rec i hi => ?_) (fun rec => ?_)
  · rw [zzero_0, zsu_self]
  · unfold B_X6_sheet_57
    simp (disch := omega) only [znm, zbd_some, zbv_some, zgz_n0, zgz_n1, zlit, nI_add, pk_mul, pk_sub, znI_or, znI_and, znI_df, zon_ok, zbt_ok, zlt, zleI, zeqI, zga_in, zgs_in, zgr_in, if_pos, if_neg, if_true, if_false, Bool.false_eq_true, zsu_eq, zsu_su, zzero_s]
  · unfold B_X6_sheet_57
    simp (disch := omega) only [znm, zbd_some, zbv_some, zgz_n0, zgz_n1, zlit, nI_add, pk_mul, pk_sub, znI_or, znI_and, znI_df, zon_ok, zbt_ok, zlt, zleI, zeqI, zga_in, zgs_in, zgr_in, if_pos, if_neg, if_true, if_false, Bool.false_eq_true]
theorem sim_sheet (p1 p2 p3 : Int32) : zSim (M_X5_sheet p1 p2 p3) (M_X6_sheet p1 p2 p3) := by
  intro σ τ h0
  have h := h0.fault (nI 0)
  unfold M_X5_sheet M_X6_sheet
  simp only [znm, zlit]
  generalize zsu σ 0 (upd (σ 0) 7 (nI 0)) = σ at h ⊢
  generalize zsu τ 0 (upd (τ 0) 0 (nI 0)) = τ at h ⊢
  rcases zcase p1 4 (by decide) with hp | ⟨k, hk, rfl⟩
  · refine ⟨-nI 1, σ, τ, ?_, ?_, h⟩
    · simp (disch := omega) only [znm, zbd_some, zbv_some, zgz_n0, zgz_n1, zlit, nI_add, pk_mul, pk_sub, znI_or, znI_and, znI_df, zon_ok, zbt_ok, zlt, zleI, zeqI, zga_in, zgs_in, zgr_in, if_pos, if_neg, if_true, if_false, Bool.false_eq_true, (isSheet_no hp σ).1]
    · simp (disch := omega) only [znm, zbd_some, zbv_some, zgz_n0, zgz_n1, zlit, nI_add, pk_mul, pk_sub, znI_or, znI_and, znI_df, zon_ok, zbt_ok, zlt, zleI, zeqI, zga_in, zgs_in, zgr_in, if_pos, if_neg, if_true, if_false, Bool.false_eq_true, (isSheet_no hp τ).2]
  rcases zcase p2 3 (by decide) with hl | ⟨ln, hln, rfl⟩
  · refine ⟨-nI 2, σ, τ, ?_, ?_, h⟩
    · simp (disch := omega) only [znm, zbd_some, zbv_some, zgz_n0, zgz_n1, zlit, nI_add, pk_mul, pk_sub, znI_or, znI_and, znI_df, zon_ok, zbt_ok, zlt, zleI, zeqI, zga_in, zgs_in, zgr_in, if_pos, if_neg, if_true, if_false, Bool.false_eq_true, (isSheet_yes hk σ).1, (isLane_no hl σ).1]
    · simp (disch := omega) only [znm, zbd_some, zbv_some, zgz_n0, zgz_n1, zlit, nI_add, pk_mul, pk_sub, znI_or, znI_and, znI_df, zon_ok, zbt_ok, zlt, zleI, zeqI, zga_in, zgs_in, zgr_in, if_pos, if_neg, if_true, if_false, Bool.false_eq_true, (isSheet_yes hk τ).2, (isLane_no hl τ).2]
  rcases zix p3 (n := 61) (by decide) with c | c | ⟨len, hlen, rfl⟩
  · refine ⟨-nI 10 - nI 4, _, _, ?_, ?_, h.fault (nI 4)⟩
    · simp (disch := omega) only [znm, zbd_some, zbv_some, zgz_n0, zgz_n1, zlit, nI_add, pk_mul, pk_sub, znI_or, znI_and, znI_df, zon_ok, zbt_ok, zlt, zleI, zeqI, zga_in, zgs_in, zgr_in, if_pos, if_neg, if_true, if_false, Bool.false_eq_true, (isSheet_yes hk σ).1, (isLane_yes hln σ).1, zneg_le c, zneg_ge c, faulted_ok]
    · simp (disch := omega) only [znm, zbd_some, zbv_some, zgz_n0, zgz_n1, zlit, nI_add, pk_mul, pk_sub, znI_or, znI_and, znI_df, zon_ok, zbt_ok, zlt, zleI, zeqI, zga_in, zgs_in, zgr_in, if_pos, if_neg, if_true, if_false, Bool.false_eq_true, (isSheet_yes hk τ).2, (isLane_yes hln τ).2, zneg_le c, zneg_ge c, fails_ok]
  · refine ⟨-nI 2, σ, τ, ?_, ?_, h⟩
    · simp (disch := omega) only [znm, zbd_some, zbv_some, zgz_n0, zgz_n1, zlit, nI_add, pk_mul, pk_sub, znI_or, znI_and, znI_df, zon_ok, zbt_ok, zlt, zleI, zeqI, zga_in, zgs_in, zgr_in, if_pos, if_neg, if_true, if_false, Bool.false_eq_true, (isSheet_yes hk σ).1, (isLane_yes hln σ).1, zbig_le (by decide) c]
    · simp (disch := omega) only [znm, zbd_some, zbv_some, zgz_n0, zgz_n1, zlit, nI_add, pk_mul, pk_sub, znI_or, znI_and, znI_df, zon_ok, zbt_ok, zlt, zleI, zeqI, zga_in, zgs_in, zgr_in, if_pos, if_neg, if_true, if_false, Bool.false_eq_true, (isSheet_yes hk τ).2, (isLane_yes hln τ).2, zbig_le (by decide) c]
  · refine ⟨nI 1, zsu (zsu σ (2 + k) (upd (upd (σ (2 + k)) 1 (nI ln)) 2 (nI len))) (2 + k + 4) (zzero (σ (2 + k + 4)) 0 60), zsu (zsu (zsu τ 1 (upd (τ 1) k (nI ln))) 2 (upd (τ 2) k (nI len))) 3 (zzero (τ 3) (60 * k) 60), ?_, ?_, ?_⟩
    · simp (disch := omega) only [znm, zbd_some, zbv_some, zgz_n0, zgz_n1, zlit, nI_add, pk_mul, pk_sub, znI_or, znI_and, znI_df, zon_ok, zbt_ok, zlt, zleI, zeqI, zga_in, zgs_in, zgr_in, if_pos, if_neg, if_true, if_false, Bool.false_eq_true, (isSheet_yes hk σ).1, (isLane_yes hln σ).1, begin_ok]
    · simp (disch := omega) only [znm, zbd_some, zbv_some, zgz_n0, zgz_n1, zlit, nI_add, pk_mul, pk_sub, znI_or, znI_and, znI_df, zon_ok, zbt_ok, zlt, zleI, zeqI, zga_in, zgs_in, zgr_in, if_pos, if_neg, if_true, if_false, Bool.false_eq_true, (isSheet_yes hk τ).2, (isLane_yes hln τ).2, sheetM_loop hk, zsu_ne (show (2 : Nat) ≠ 1 by decide), zsu_ne (show (3 : Nat) ≠ 1 by decide), zsu_ne (show (3 : Nat) ≠ 2 by decide)]
    · refine h.sheet hk (fun c a b => ?_) (fun c a b e => ?_) (fun i hi => ?_) (fun i hi => ?_) (fun j hj => ?_) (Or.inr ⟨ln, len, by omega, by omega, ?_, ?_, ?_, ?_, fun i hi => ?_⟩)
      · rw [zsu_ne (by omega), zsu_ne a]
      · rw [zsu_ne e, zsu_ne b, zsu_ne a]
      · rw [zsu_ne (by decide), zsu_ne (by decide), zsu_eq, upd_ne hi]
      · rw [zsu_ne (by decide), zsu_eq, upd_ne hi]
      · rw [zsu_eq]
        unfold zzero
        rw [if_neg (by omega)]
      · rw [zsu_ne (by omega), zsu_eq, upd_ne (by decide), upd_eq]
      · rw [zsu_ne (by decide), zsu_ne (by decide), zsu_eq, upd_eq]
      · rw [zsu_ne (by omega), zsu_eq, upd_eq]
      · rw [zsu_ne (by decide), zsu_eq, upd_eq]
      · rw [show 6 + k = 2 + k + 4 by omega, zsu_eq, zsu_eq]
        unfold zzero
        rw [if_pos (by omega), if_pos (by omega)]
theorem sim_lose (p1 : Int32) : zSim (M_X5_lose p1) (M_X6_lose p1) := by
  intro σ τ h
  unfold M_X5_lose M_X6_lose B_X6_lose_25
  rcases zcase p1 4 (by decide) with hp | ⟨k, hk, rfl⟩
  · refine ⟨-nI 1, σ, τ, ?_, ?_, h⟩
    · simp (disch := omega) only [znm, zbd_some, zbv_some, zgz_n0, zgz_n1, zlit, nI_add, pk_mul, pk_sub, znI_or, znI_and, znI_df, zon_ok, zbt_ok, zlt, zleI, zeqI, zga_in, zgs_in, zgr_in, if_pos, if_neg, if_true, if_false, Bool.false_eq_true, (isSheet_no hp σ).1]
    · simp (disch := omega) only [znm, zbd_some, zbv_some, zgz_n0, zgz_n1, zlit, nI_add, pk_mul, pk_sub, znI_or, znI_and, znI_df, zon_ok, zbt_ok, zlt, zleI, zeqI, zga_in, zgs_in, zgr_in, if_pos, if_neg, if_true, if_false, Bool.false_eq_true, (isSheet_no hp τ).2]
  rcases h.2.1 k hk with ⟨a1, a2⟩ | ⟨ln, len, t1, t2, t3, t4, t5, t6, t7⟩
  · refine ⟨nI 0, σ, zsu τ 1 (upd (τ 1) k (-nI 9)), ?_, ?_, ?_⟩
    · simp (disch := omega) only [znm, zbd_some, zbv_some, zgz_n0, zgz_n1, zlit, nI_add, pk_mul, pk_sub, znI_or, znI_and, znI_df, zon_ok, zbt_ok, zlt, zleI, zeqI, zga_in, zgs_in, zgr_in, if_pos, if_neg, if_true, if_false, Bool.false_eq_true, (isSheet_yes hk σ).1, a1]
    · simp (disch := omega) only [znm, zbd_some, zbv_some, zgz_n0, zgz_n1, zlit, nI_add, pk_mul, pk_sub, znI_or, znI_and, znI_df, zon_ok, zbt_ok, zlt, zleI, zeqI, zga_in, zgs_in, zgr_in, if_pos, if_neg, if_true, if_false, Bool.false_eq_true, (isSheet_yes hk τ).2, a2]
    · refine h.sheet hk (fun c a b => rfl) (fun c a b e => zsu_ne a) (fun i hi => ?_) (fun i hi => ?_) (fun j hj => ?_) (Or.inl ⟨a1, ?_⟩)
      · rw [zsu_eq, upd_ne hi]
      · rw [zsu_ne (by decide)]
      · rw [zsu_ne (by decide)]
      · rw [zsu_eq, upd_eq]
  · have n1 : (nI ln = -nI 1) = False := eq_false (zneg_ne (by omega) (by decide) (by decide))
    have n9 : (nI ln = -nI 9) = False := eq_false (zneg_ne (by omega) (by decide) (by decide))
    refine ⟨nI 1, zsu (zsu σ (2 + k) (upd (upd (σ (2 + k)) 1 (-nI 1)) 2 (nI 0))) (2 + k + 4) (zzero (σ (2 + k + 4)) 0 60), zsu τ 1 (upd (τ 1) k (-nI 9)), ?_, ?_, ?_⟩
    · simp (disch := omega) only [znm, zbd_some, zbv_some, zgz_n0, zgz_n1, zlit, nI_add, pk_mul, pk_sub, znI_or, znI_and, znI_df, zon_ok, zbt_ok, zlt, zleI, zeqI, zga_in, zgs_in, zgr_in, if_pos, if_neg, if_true, if_false, Bool.false_eq_true, (isSheet_yes hk σ).1, t3, n1, begin_ok]
    · simp (disch := omega) only [znm, zbd_some, zbv_some, zgz_n0, zgz_n1, zlit, nI_add, pk_mul, pk_sub, znI_or, znI_and, znI_df, zon_ok, zbt_ok, zlt, zleI, zeqI, zga_in, zgs_in, zgr_in, if_pos, if_neg, if_true, if_false, Bool.false_eq_true, (isSheet_yes hk τ).2, t4, n9]
    · refine h.sheet hk (fun c a b => ?_) (fun c a b e => zsu_ne a) (fun i hi => ?_) (fun i hi => ?_) (fun j hj => ?_) (Or.inl ⟨?_, ?_⟩)
      · rw [zsu_ne (by omega), zsu_ne a]
      · rw [zsu_eq, upd_ne hi]
      · rw [zsu_ne (by decide)]
      · rw [zsu_ne (by decide)]
      · rw [zsu_ne (by omega), zsu_eq, upd_ne (by decide), upd_eq]
      · rw [zsu_eq, upd_eq]
