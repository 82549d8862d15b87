/-! PURE: loadings, kinds: both sides -/
theorem zsum_split {f : Nat → Nat} {p : Nat} : ∀ {n : Nat}, p < n → zsum f n = zsum (fun q => if q = p then 0 else f q) n + f p
  | 0, h => absurd h (Nat.not_lt_zero _)
  | n + 1, h => by
    unfold zsum
    by_cases e : p = n
    · subst e
      rw [if_pos rfl, Nat.add_zero]
      congr 1
      exact zsum_ext (fun i hi => by rw [if_neg (by omega)])
    · rw [zsum_split (f := f) (p := p) (n := n) (by omega), if_neg (show ¬ n = p by omega)]
      omega
theorem wayOf_ok {τ : zSt} {n : Nat} {d : Nat → Nat → Nat} (h0 : τ 0 5 = nI n) (hF : zFM τ n d) (hn : n ≤ 8) (hd : ∀ p q, p < n → q < n → d p q < 8) {a b : Nat} (ha : a < n) (hb : b < n) : M_X6_wayOf (nI a) (nI b) τ = some (nI (zset (fun p => decide (d a p + d p b = d a b)) n), τ) := by
  unfold M_X6_wayOf L_X6_wayOf_5
  refine zloop_for (fun i => (nI (zset (fun p => decide (d a p + d p b = d a b)) i), nI i, τ)) n rfl (by omega) (fun rec i hi => ?_) (fun rec => ?_)
  · have e1 := hF a i ha hi
    have e2 := hF i b hi hb
    have e3 := hF a b ha hb
    have b1 := hd a i ha hi
    have b2 := hd i b hi hb
    have b3 := hd a b ha hb
    unfold B_X6_wayOf_5
    by_cases c : d a i + d i b = d a b
    · simp (disch := omega) only [↓reduceIte, ↓znm, ↓zbd_some, ↓zbv_some, ↓zga_in, ↓zgs_in, ↓zgr_in, zga_in, zgs_in, zgr_in, zgz_n0, zgz_n1, zlit, nI_add, pk_mul, pk_sub, znI_or, znI_and, znI_df, zon_ok, zbt_ok, zlt_t, zlt_f, zle_t, zle_f, zeq_f, h0, e1, e2, e3, c, B_X6_wayOf_58, B_X6_wayOf_74, zset, decide_true]
    · simp (disch := omega) only [↓reduceIte, ↓znm, ↓zbd_some, ↓zbv_some, ↓zga_in, ↓zgs_in, ↓zgr_in, zga_in, zgs_in, zgr_in, zgz_n0, zgz_n1, zlit, nI_add, pk_mul, pk_sub, znI_or, znI_and, znI_df, zon_ok, zbt_ok, zlt_t, zlt_f, zle_t, zle_f, zeq_f, h0, e1, e2, e3, c, B_X6_wayOf_58, B_X6_wayOf_74, zset, decide_false, Bool.false_eq_true, Nat.or_zero]
  · unfold B_X6_wayOf_5
    simp (disch := omega) only [↓reduceIte, ↓znm, ↓zbd_some, ↓zbv_some, ↓zga_in, ↓zgs_in, ↓zgr_in, zga_in, zgs_in, zgr_in, zgz_n0, zgz_n1, zlit, nI_add, pk_mul, pk_sub, znI_or, znI_and, znI_df, zon_ok, zbt_ok, zlt_t, zlt_f, zle_t, zle_f, zeq_f, h0]
theorem areSo_ok {σ τ : zSt} {n : Nat} {kd ld tw : Nat → Nat} {d : Nat → Nat → Nat} (hV : zVM τ n kd ld tw) (hO : zOK n kd ld tw) (hF : zFM τ n d) (h8 : ∀ p q, p < n → q < n → d p q < 8) {c : Nat} {s g v : Nat → Nat} (hr : zRd σ τ n c s g v) {p : Nat} (hp : p < n) {wo : Nat → Nat} (hw : ∀ q, q ≠ p → wo q = zwo kd ld q) (B : Bool) (hB : B = true ↔ zsat d s g v wo n p c (zwo kd ld p)) : M_X6_areSo τ = some (nI (if B = true then 1 else 0), τ) := by
  have hn := hO.1
  have hc := hr.1
  have tot : ∀ k, k < c → M_X6_worthOfSet (nI (zset (fun q => decide (d (s k) q + d q (g k) = d (s k) (g k))) n)) τ = some (nI (zbs d s g wo n p k + (if d (s k) p + d p (g k) = d (s k) (g k) then zwo kd ld p else 0)), τ) := by
    intro k hk
    rw [worthSetM_ok hV hO (zset_256 hn)]
    congr 3
    rw [zsum_split hp]
    congr 1
    · unfold zbs
      apply zsum_ext
      intro q hq
      by_cases e : q = p
      · rw [if_pos e, if_pos e]
      · rw [if_neg e, if_neg e, hw q e]
        by_cases c1 : d (s k) q + d q (g k) = d (s k) (g k)
        · rw [if_pos ((zset_iff _ _ _).mpr ⟨hq, by simp [c1]⟩), if_pos c1]
        · rw [if_neg (fun t => c1 (by simpa using ((zset_iff _ _ _).mp t).2)), if_neg c1]
    · by_cases c1 : d (s k) p + d p (g k) = d (s k) (g k)
      · rw [if_pos ((zset_iff _ _ _).mpr ⟨hp, by simp [c1]⟩), if_pos c1]
      · rw [if_neg (fun t => c1 (by simpa using ((zset_iff _ _ _).mp t).2)), if_neg c1]
  have hbnd : ∀ k, k < c → zbs d s g wo n p k + (if d (s k) p + d p (g k) = d (s k) (g k) then zwo kd ld p else 0) ≤ 200 := by
    intro k hk
    have h1 : zbs d s g wo n p k ≤ 144 := by
      have : zbs d s g wo n p k = zbs d s g (zwo kd ld) n p k := by
        unfold zbs
        apply zsum_ext
        intro q hq
        by_cases e : q = p
        · rw [if_pos e, if_pos e]
        · rw [if_neg e, if_neg e, hw q e]
      rw [this]
      exact zbs_le hn (fun q hq => zwo_le hO hq)
    have h2 := zwo_le hO hp
    split <;> omega
  unfold M_X6_areSo L_X6_areSo_2
  rcases zfirst (fun k => ¬ zbs d s g wo n p k + (if d (s k) p + d p (g k) = d (s k) (g k) then zwo kd ld p else 0) = v k) c with ⟨e, e1, e2, e3⟩ | hno
  · have hBf : B = false := by
      cases hb : B
      · rfl
      · exact absurd (hB.mp hb e e1) e2
    rw [hBf]
    refine zloop_for (fun k => (nI k, τ)) e rfl (by omega) (fun rec k hk => ?_) (fun rec => ?_)
    · obtain ⟨s1, g1, v1, -, t1, -, t2, -, t3⟩ := hr.2.2.2 k (by omega)
      have hk2 := Classical.not_not.mp (e3 k hk)
      have u := tot k (by omega)
      rw [hk2] at u
      unfold B_X6_areSo_2
      simp (disch := omega) only [↓reduceIte, ↓znm, ↓zbd_some, ↓zbv_some, ↓zga_in, ↓zgs_in, ↓zgr_in, zga_in, zgs_in, zgr_in, zgz_n0, zgz_n1, zlit, nI_add, pk_mul, pk_sub, znI_or, znI_and, znI_df, zon_ok, zbt_ok, zlt_t, zlt_f, zle_t, zle_f, zeq_f, hr.2.2.1, t1, t2, t3, ↓zbd_of (wayOf_ok hV.1 hF hn h8 s1 g1), ↓zbd_of u]
    · obtain ⟨s1, g1, v1, -, t1, -, t2, -, t3⟩ := hr.2.2.2 e e1
      have u := tot e e1
      have hb := hbnd e e1
      have n1 := zeq_f e2 (by omega) (by omega)
      unfold B_X6_areSo_2
      simp (disch := omega) only [↓reduceIte, ↓znm, ↓zbd_some, ↓zbv_some, ↓zga_in, ↓zgs_in, ↓zgr_in, zga_in, zgs_in, zgr_in, zgz_n0, zgz_n1, zlit, nI_add, pk_mul, pk_sub, znI_or, znI_and, znI_df, zon_ok, zbt_ok, zlt_t, zlt_f, zle_t, zle_f, zeq_f, hr.2.2.1, t1, t2, t3, ↓zbd_of (wayOf_ok hV.1 hF hn h8 s1 g1), ↓zbd_of u, n1, Bool.false_eq_true]
  · have hBt : B = true := hB.mpr (fun k hk => Classical.not_not.mp (hno k hk))
    rw [hBt]
    refine zloop_for (fun k => (nI k, τ)) c rfl (by omega) (fun rec k hk => ?_) (fun rec => ?_)
    · obtain ⟨s1, g1, v1, -, t1, -, t2, -, t3⟩ := hr.2.2.2 k hk
      have hk2 := Classical.not_not.mp (hno k hk)
      have u := tot k hk
      rw [hk2] at u
      unfold B_X6_areSo_2
      simp (disch := omega) only [↓reduceIte, ↓znm, ↓zbd_some, ↓zbv_some, ↓zga_in, ↓zgs_in, ↓zgr_in, zga_in, zgs_in, zgr_in, zgz_n0, zgz_n1, zlit, nI_add, pk_mul, pk_sub, znI_or, znI_and, znI_df, zon_ok, zbt_ok, zlt_t, zlt_f, zle_t, zle_f, zeq_f, hr.2.2.1, t1, t2, t3, ↓zbd_of (wayOf_ok hV.1 hF hn h8 s1 g1), ↓zbd_of u]
    · unfold B_X6_areSo_2
      simp (disch := omega) only [↓reduceIte, ↓znm, ↓zbd_some, ↓zbv_some, ↓zga_in, ↓zgs_in, ↓zgr_in, zga_in, zgs_in, zgr_in, zgz_n0, zgz_n1, zlit, nI_add, pk_mul, pk_sub, znI_or, znI_and, znI_df, zon_ok, zbt_ok, zlt_t, zlt_f, zle_t, zle_f, zeq_f, hr.2.2.1]
theorem zbool (P : Nat → Prop) : ∃ B : Nat → Bool, ∀ v, B v = true ↔ P v := ⟨fun v => @decide (P v) (Classical.propDecidable _), fun v => @decide_eq_true_iff (P v) (Classical.propDecidable _)⟩
theorem zov {τ : zSt} {c j : Nat} {x y : Int32} : zsu (zsu τ c (upd (τ c) j x)) c (upd (zsu τ c (upd (τ c) j x) c) j y) = zsu τ c (upd (τ c) j y) := by
  rw [zsu_eq, zsu_su]
  congr 1
  funext i
  unfold upd
  split <;> rfl
theorem zov_self {τ : zSt} {c j : Nat} : zsu τ c (upd (τ c) j (τ c j)) = τ := by
  have : upd (τ c) j (τ c j) = τ c := by
    funext i
    unfold upd
    split
    · rename_i h; rw [h]
    · rfl
  rw [this, zsu_self]
theorem zRd.keep {σ τ τ' : zSt} {n c : Nat} {s g v : Nat → Nat} (h : zRd σ τ n c s g v) (h0 : τ' 0 = τ 0) (h1 : τ' 18 = τ 18) (h2 : τ' 19 = τ 19) (h3 : τ' 20 = τ 20) : zRd σ τ' n c s g v := by
  unfold zRd at h ⊢
  rw [h0, h1, h2, h3]
  exact h
theorem sim_loadings (p1 : Int32) : zSim (M_X5_loadings p1) (M_X6_loadings p1) := by
  intro σ τ h
  obtain ⟨⟨n, kd, ld, tw, d, hV, hR⟩, hS, hI, hd⟩ := id h
  obtain ⟨h1, h2, h3, h4, h5, h6⟩ := hV
  have hn := h3.1
  have h8 := h6.lt8 hn
  unfold M_X5_loadings M_X6_loadings
  rcases zpost p1 hn with hp | ⟨j, hj, rfl⟩
  · rw [isPostX_no h1.1 hp, isPostM_no h2.1 hp]
    exact ⟨_, σ, τ, rfl, rfl, h⟩
  have u1 := isPostX_yes h1.1 hn hj
  have u2 := isPostM_yes h2.1 hn hj
  obtain ⟨a1, a2, a3⟩ := h1.2 j hj
  obtain ⟨k1, k2, k3⟩ := h3.2 j hj
  obtain ⟨c, s, g, v, hr⟩ := hR.get
  obtain ⟨τ', f1, f2, f3, f4, f5⟩ := fars_get h h2 h3 h6
  obtain ⟨b1, b2, b3⟩ := f3.2 j hj
  have hr' : zRd σ τ' n c s g v := hr.keep (f5 0 (by decide)) (f5 18 (by decide)) (f5 19 (by decide)) (f5 20 (by decide))
  obtain ⟨⟨as, σa⟩, o1, o2, o3⟩ := asked_ok h1 h3 h4 h8 hr hj
  dsimp only at o2 o3
  subst o2
  obtain ⟨B, hB⟩ := zbool (fun w => zsat d s g v (zwo kd ld) n j c (zwf (kd j) w))
  refine ⟨nI (zset B 10), σa, τ', ?_, ?_, f2⟩
  · simp (disch := omega) only [↓reduceIte, ↓znm, ↓zbd_some, ↓zbv_some, ↓zga_in, ↓zgs_in, ↓zgr_in, zga_in, zgs_in, zgr_in, zgz_n0, zgz_n1, zlit, nI_add, pk_mul, pk_sub, znI_or, znI_and, znI_df, zon_ok, zbt_ok, zlt_t, zlt_f, zle_t, zle_f, zeq_f, ↓zbd_of u1, ↓zbd_of o1]
    unfold L_X5_loadings_31
    refine zloop_for (fun i => (as, nI (zset B i), nI i, σa)) 10 rfl (by decide) (fun rec i hi => ?_) (fun rec => ?_)
    · have wf := worthOf_ok (σ := σa) (k := kd j) (l := i) k1 (by omega)
      have wl := zwf_le (k := kd j) (l := i) (by omega)
      unfold B_X5_loadings_31
      rcases o3 with ⟨rfl, q⟩ | ⟨rfl, q⟩ | ⟨r, rfl, q1, q2⟩
      · have hb : B i = true := (hB i).mpr (q _)
        simp (disch := omega) only [↓reduceIte, ↓znm, ↓zbd_some, ↓zbv_some, ↓zga_in, ↓zgs_in, ↓zgr_in, zga_in, zgs_in, zgr_in, zgz_n0, zgz_n1, zlit, nI_add, pk_mul, pk_sub, znI_or, znI_and, znI_df, zon_ok, zbt_ok, zlt_t, zlt_f, zle_t, zle_f, zeq_f, B_X5_loadings_61, B_X5_loadings_68, zset, hb]
      · have hb : B i = false := Bool.eq_false_iff.mpr (fun t => q _ ((hB i).mp t))
        have n1 : (-nI 2 = -nI 1) = False := by decide
        have n2 : (-nI 2 = nI (zwf (kd j) i)) = False := eq_false (fun t => zneg_ne (by omega) (by decide) (by decide) t.symm)
        simp (disch := omega) only [↓reduceIte, ↓znm, ↓zbd_some, ↓zbv_some, ↓zga_in, ↓zgs_in, ↓zgr_in, zga_in, zgs_in, zgr_in, zgz_n0, zgz_n1, zlit, nI_add, pk_mul, pk_sub, znI_or, znI_and, znI_df, zon_ok, zbt_ok, zlt_t, zlt_f, zle_t, zle_f, zeq_f, n1, a1, ↓zbd_of wf, n2, B_X5_loadings_68, zset, hb, Bool.false_eq_true]
      · have n1 : (nI r = -nI 1) = False := eq_false (zneg_ne (by omega) (by decide) (by decide))
        by_cases e : r = zwf (kd j) i
        · have hb : B i = true := (hB i).mpr ((q2 _).mpr e.symm)
          subst e
          simp (disch := omega) only [↓reduceIte, ↓znm, ↓zbd_some, ↓zbv_some, ↓zga_in, ↓zgs_in, ↓zgr_in, zga_in, zgs_in, zgr_in, zgz_n0, zgz_n1, zlit, nI_add, pk_mul, pk_sub, znI_or, znI_and, znI_df, zon_ok, zbt_ok, zlt_t, zlt_f, zle_t, zle_f, zeq_f, n1, a1, ↓zbd_of wf, B_X5_loadings_61, B_X5_loadings_68, zset, hb]
        · have hb : B i = false := Bool.eq_false_iff.mpr (fun t => e ((q2 _).mp ((hB i).mp t)).symm)
          have n2 := zeq_f e (by omega) (by omega)
          simp (disch := omega) only [↓reduceIte, ↓znm, ↓zbd_some, ↓zbv_some, ↓zga_in, ↓zgs_in, ↓zgr_in, zga_in, zgs_in, zgr_in, zgz_n0, zgz_n1, zlit, nI_add, pk_mul, pk_sub, znI_or, znI_and, znI_df, zon_ok, zbt_ok, zlt_t, zlt_f, zle_t, zle_f, zeq_f, n1, a1, ↓zbd_of wf, n2, B_X5_loadings_68, zset, hb, Bool.false_eq_true]
    · unfold B_X5_loadings_31
      simp (disch := omega) only [↓reduceIte, ↓znm, ↓zbd_some, ↓zbv_some, ↓zga_in, ↓zgs_in, ↓zgr_in, zga_in, zgs_in, zgr_in, zgz_n0, zgz_n1, zlit, nI_add, pk_mul, pk_sub, znI_or, znI_and, znI_df, zon_ok, zbt_ok, zlt_t, zlt_f, zle_t, zle_f, zeq_f]
  · simp (disch := omega) only [↓reduceIte, ↓znm, ↓zbd_some, ↓zbv_some, ↓zga_in, ↓zgs_in, ↓zgr_in, zga_in, zgs_in, zgr_in, zgz_n0, zgz_n1, zlit, nI_add, pk_mul, pk_sub, znI_or, znI_and, znI_df, zon_ok, zbt_ok, zlt_t, zlt_f, zle_t, zle_f, zeq_f, ↓zbd_of u2, ↓zbv_of f1, b2]
    unfold L_X6_loadings_26
    refine zloop_for (fun i => (nI (ld j), nI (zset B i), nI i, zsu τ' 6 (upd (τ' 6) j (match i with | 0 => nI (ld j) | i + 1 => nI i)))) 10 ?_ (by decide) (fun rec i hi => ?_) (fun rec => ?_)
    · show _ = (nI (ld j), nI 0, nI 0, zsu τ' 6 (upd (τ' 6) j (nI (ld j))))
      rw [← b2, zov_self]
    · have hV2 : zVM (zsu τ' 6 (upd (τ' 6) j (nI i))) n kd (fun p => if p = j then i else ld p) tw := by
        refine ⟨by rw [zsu_ne (by decide)]; exact f3.1, fun p hp => ?_⟩
        have := f3.2 p hp
        rw [zsu_ne (show 5 ≠ 6 by decide), zsu_eq, zsu_ne (show 4 ≠ 6 by decide)]
        refine ⟨this.1, ?_, this.2.2⟩
        unfold upd
        by_cases e : p = j
        · rw [if_pos e]; simp only [e, if_true]
        · rw [if_neg e]; simp only [e, if_false]; exact this.2.1
      have hO2 : zOK n kd (fun p => if p = j then i else ld p) tw := ⟨hn, fun p hp => by
        have := h3.2 p hp
        refine ⟨this.1, ?_, this.2.2⟩
        show (if p = j then i else ld p) ≤ 9
        split
        · omega
        · exact this.2.1⟩
      have hF2 : zFM (zsu τ' 6 (upd (τ' 6) j (nI i))) n d := fun a p ha hp => by rw [zsu_ne (by decide)]; exact f4 a p ha hp
      have hr2 : zRd σa (zsu τ' 6 (upd (τ' 6) j (nI i))) n c s g v := hr'.keep (zsu_ne (by decide)) (zsu_ne (by decide)) (zsu_ne (by decide)) (zsu_ne (by decide))
      have so := areSo_ok hV2 hO2 hF2 h8 hr2 hj (wo := zwo kd ld) (fun q hq => by unfold zwo; simp only [hq, if_false]) (B i) (by
        rw [hB i]
        have e : zwo kd (fun p => if p = j then i else ld p) j = zwf (kd j) i := by rw [zwo_wf]; simp only [if_true]
        rw [e])
      have ov : ∀ x : Int32, zsu (zsu τ' 6 (upd (τ' 6) j x)) 6 (upd (zsu τ' 6 (upd (τ' 6) j x) 6) j (nI i)) = zsu τ' 6 (upd (τ' 6) j (nI i)) := fun x => zov
      unfold B_X6_loadings_26
      cases hb : B i
      · rw [hb] at so
        simp (disch := omega) only [↓reduceIte, ↓znm, ↓zbd_some, ↓zbv_some, ↓zga_in, ↓zgs_in, ↓zgr_in, zga_in, zgs_in, zgr_in, zgz_n0, zgz_n1, zlit, nI_add, pk_mul, pk_sub, znI_or, znI_and, znI_df, zon_ok, zbt_ok, zlt_t, zlt_f, zle_t, zle_f, zeq_f, ov, ↓zbd_of so, Bool.false_eq_true, B_X6_loadings_57, zset, hb, Nat.or_zero]
      · rw [hb] at so
        simp (disch := omega) only [↓reduceIte, ↓znm, ↓zbd_some, ↓zbv_some, ↓zga_in, ↓zgs_in, ↓zgr_in, zga_in, zgs_in, zgr_in, zgz_n0, zgz_n1, zlit, nI_add, pk_mul, pk_sub, znI_or, znI_and, znI_df, zon_ok, zbt_ok, zlt_t, zlt_f, zle_t, zle_f, zeq_f, ov, ↓zbd_of so, B_X6_loadings_57, zset, hb]
    · have ov : ∀ x : Int32, zsu (zsu τ' 6 (upd (τ' 6) j x)) 6 (upd (zsu τ' 6 (upd (τ' 6) j x) 6) j (nI (ld j))) = τ' := fun x => by
        rw [zov, ← b2, zov_self]
      unfold B_X6_loadings_26
      simp (disch := omega) only [↓reduceIte, ↓znm, ↓zbd_some, ↓zbv_some, ↓zga_in, ↓zgs_in, ↓zgr_in, zga_in, zgs_in, zgr_in, zgz_n0, zgz_n1, zlit, nI_add, pk_mul, pk_sub, znI_or, znI_and, znI_df, zon_ok, zbt_ok, zlt_t, zlt_f, zle_t, zle_f, zeq_f, ov]
theorem sim_kinds (p1 : Int32) : zSim (M_X5_kinds p1) (M_X6_kinds p1) := by
  intro σ τ h
  obtain ⟨⟨n, kd, ld, tw, d, hV, hR⟩, hS, hI, hd⟩ := id h
  obtain ⟨h1, h2, h3, h4, h5, h6⟩ := hV
  have hn := h3.1
  have h8 := h6.lt8 hn
  unfold M_X5_kinds M_X6_kinds
  rcases zpost p1 hn with hp | ⟨j, hj, rfl⟩
  · rw [isPostX_no h1.1 hp, isPostM_no h2.1 hp]
    exact ⟨_, σ, τ, rfl, rfl, h⟩
  have u1 := isPostX_yes h1.1 hn hj
  have u2 := isPostM_yes h2.1 hn hj
  obtain ⟨a1, a2, a3⟩ := h1.2 j hj
  obtain ⟨k1, k2, k3⟩ := h3.2 j hj
  obtain ⟨c, s, g, v, hr⟩ := hR.get
  obtain ⟨τ', f1, f2, f3, f4, f5⟩ := fars_get h h2 h3 h6
  obtain ⟨b1, b2, b3⟩ := f3.2 j hj
  have hr' : zRd σ τ' n c s g v := hr.keep (f5 0 (by decide)) (f5 18 (by decide)) (f5 19 (by decide)) (f5 20 (by decide))
  obtain ⟨⟨as, σa⟩, o1, o2, o3⟩ := asked_ok h1 h3 h4 h8 hr hj
  dsimp only at o2 o3
  subst o2
  obtain ⟨B, hB⟩ := zbool (fun w => zsat d s g v (zwo kd ld) n j c (zwf w (ld j)))
  refine ⟨nI (zset B 3), σa, τ', ?_, ?_, f2⟩
  · simp (disch := omega) only [↓reduceIte, ↓znm, ↓zbd_some, ↓zbv_some, ↓zga_in, ↓zgs_in, ↓zgr_in, zga_in, zgs_in, zgr_in, zgz_n0, zgz_n1, zlit, nI_add, pk_mul, pk_sub, znI_or, znI_and, znI_df, zon_ok, zbt_ok, zlt_t, zlt_f, zle_t, zle_f, zeq_f, ↓zbd_of u1, ↓zbd_of o1]
    unfold L_X5_kinds_31
    refine zloop_for (fun i => (as, nI (zset B i), nI i, σa)) 3 rfl (by decide) (fun rec i hi => ?_) (fun rec => ?_)
    · have wf := worthOf_ok (σ := σa) (k := i) (l := ld j) (by omega) k2
      have wl := zwf_le (k := i) (l := ld j) k2
      unfold B_X5_kinds_31
      rcases o3 with ⟨rfl, q⟩ | ⟨rfl, q⟩ | ⟨r, rfl, q1, q2⟩
      · have hb : B i = true := (hB i).mpr (q _)
        simp (disch := omega) only [↓reduceIte, ↓znm, ↓zbd_some, ↓zbv_some, ↓zga_in, ↓zgs_in, ↓zgr_in, zga_in, zgs_in, zgr_in, zgz_n0, zgz_n1, zlit, nI_add, pk_mul, pk_sub, znI_or, znI_and, znI_df, zon_ok, zbt_ok, zlt_t, zlt_f, zle_t, zle_f, zeq_f, B_X5_kinds_60, B_X5_kinds_67, zset, hb]
      · have hb : B i = false := Bool.eq_false_iff.mpr (fun t => q _ ((hB i).mp t))
        have n1 : (-nI 2 = -nI 1) = False := by decide
        have n2 : (-nI 2 = nI (zwf i (ld j))) = False := eq_false (fun t => zneg_ne (by omega) (by decide) (by decide) t.symm)
        simp (disch := omega) only [↓reduceIte, ↓znm, ↓zbd_some, ↓zbv_some, ↓zga_in, ↓zgs_in, ↓zgr_in, zga_in, zgs_in, zgr_in, zgz_n0, zgz_n1, zlit, nI_add, pk_mul, pk_sub, znI_or, znI_and, znI_df, zon_ok, zbt_ok, zlt_t, zlt_f, zle_t, zle_f, zeq_f, n1, a2, ↓zbd_of wf, n2, B_X5_kinds_67, zset, hb, Bool.false_eq_true]
      · have n1 : (nI r = -nI 1) = False := eq_false (zneg_ne (by omega) (by decide) (by decide))
        by_cases e : r = zwf i (ld j)
        · have hb : B i = true := (hB i).mpr ((q2 _).mpr e.symm)
          subst e
          simp (disch := omega) only [↓reduceIte, ↓znm, ↓zbd_some, ↓zbv_some, ↓zga_in, ↓zgs_in, ↓zgr_in, zga_in, zgs_in, zgr_in, zgz_n0, zgz_n1, zlit, nI_add, pk_mul, pk_sub, znI_or, znI_and, znI_df, zon_ok, zbt_ok, zlt_t, zlt_f, zle_t, zle_f, zeq_f, n1, a2, ↓zbd_of wf, B_X5_kinds_60, B_X5_kinds_67, zset, hb]
        · have hb : B i = false := Bool.eq_false_iff.mpr (fun t => e ((q2 _).mp ((hB i).mp t)).symm)
          have n2 := zeq_f e (by omega) (by omega)
          simp (disch := omega) only [↓reduceIte, ↓znm, ↓zbd_some, ↓zbv_some, ↓zga_in, ↓zgs_in, ↓zgr_in, zga_in, zgs_in, zgr_in, zgz_n0, zgz_n1, zlit, nI_add, pk_mul, pk_sub, znI_or, znI_and, znI_df, zon_ok, zbt_ok, zlt_t, zlt_f, zle_t, zle_f, zeq_f, n1, a2, ↓zbd_of wf, n2, B_X5_kinds_67, zset, hb, Bool.false_eq_true]
    · unfold B_X5_kinds_31
      simp (disch := omega) only [↓reduceIte, ↓znm, ↓zbd_some, ↓zbv_some, ↓zga_in, ↓zgs_in, ↓zgr_in, zga_in, zgs_in, zgr_in, zgz_n0, zgz_n1, zlit, nI_add, pk_mul, pk_sub, znI_or, znI_and, znI_df, zon_ok, zbt_ok, zlt_t, zlt_f, zle_t, zle_f, zeq_f]
  · simp (disch := omega) only [↓reduceIte, ↓znm, ↓zbd_some, ↓zbv_some, ↓zga_in, ↓zgs_in, ↓zgr_in, zga_in, zgs_in, zgr_in, zgz_n0, zgz_n1, zlit, nI_add, pk_mul, pk_sub, znI_or, znI_and, znI_df, zon_ok, zbt_ok, zlt_t, zlt_f, zle_t, zle_f, zeq_f, ↓zbd_of u2, ↓zbv_of f1, b1]
    unfold L_X6_kinds_26
    refine zloop_for (fun i => (nI (kd j), nI (zset B i), nI i, zsu τ' 5 (upd (τ' 5) j (match i with | 0 => nI (kd j) | i + 1 => nI i)))) 3 ?_ (by decide) (fun rec i hi => ?_) (fun rec => ?_)
    · show _ = (nI (kd j), nI 0, nI 0, zsu τ' 5 (upd (τ' 5) j (nI (kd j))))
      rw [← b1, zov_self]
    · have hV2 : zVM (zsu τ' 5 (upd (τ' 5) j (nI i))) n (fun p => if p = j then i else kd p) ld tw := by
        refine ⟨by rw [zsu_ne (by decide)]; exact f3.1, fun p hp => ?_⟩
        have := f3.2 p hp
        rw [zsu_eq, zsu_ne (show 6 ≠ 5 by decide), zsu_ne (show 4 ≠ 5 by decide)]
        refine ⟨?_, this.2⟩
        unfold upd
        by_cases e : p = j
        · rw [if_pos e]; simp only [e, if_true]
        · rw [if_neg e]; simp only [e, if_false]; exact this.1
      have hO2 : zOK n (fun p => if p = j then i else kd p) ld tw := ⟨hn, fun p hp => by
        have := h3.2 p hp
        refine ⟨?_, this.2⟩
        show (if p = j then i else kd p) ≤ 2
        split
        · omega
        · exact this.1⟩
      have hF2 : zFM (zsu τ' 5 (upd (τ' 5) j (nI i))) n d := fun a p ha hp => by rw [zsu_ne (by decide)]; exact f4 a p ha hp
      have hr2 : zRd σa (zsu τ' 5 (upd (τ' 5) j (nI i))) n c s g v := hr'.keep (zsu_ne (by decide)) (zsu_ne (by decide)) (zsu_ne (by decide)) (zsu_ne (by decide))
      have so := areSo_ok hV2 hO2 hF2 h8 hr2 hj (wo := zwo kd ld) (fun q hq => by unfold zwo; simp only [hq, if_false]) (B i) (by
        rw [hB i]
        have e : zwo (fun p => if p = j then i else kd p) ld j = zwf i (ld j) := by rw [zwo_wf]; simp only [if_true]
        rw [e])
      have ov : ∀ x : Int32, zsu (zsu τ' 5 (upd (τ' 5) j x)) 5 (upd (zsu τ' 5 (upd (τ' 5) j x) 5) j (nI i)) = zsu τ' 5 (upd (τ' 5) j (nI i)) := fun x => zov
      unfold B_X6_kinds_26
      cases hb : B i
      · rw [hb] at so
        simp (disch := omega) only [↓reduceIte, ↓znm, ↓zbd_some, ↓zbv_some, ↓zga_in, ↓zgs_in, ↓zgr_in, zga_in, zgs_in, zgr_in, zgz_n0, zgz_n1, zlit, nI_add, pk_mul, pk_sub, znI_or, znI_and, znI_df, zon_ok, zbt_ok, zlt_t, zlt_f, zle_t, zle_f, zeq_f, ov, ↓zbd_of so, Bool.false_eq_true, B_X6_kinds_56, zset, hb, Nat.or_zero]
      · rw [hb] at so
        simp (disch := omega) only [↓reduceIte, ↓znm, ↓zbd_some, ↓zbv_some, ↓zga_in, ↓zgs_in, ↓zgr_in, zga_in, zgs_in, zgr_in, zgz_n0, zgz_n1, zlit, nI_add, pk_mul, pk_sub, znI_or, znI_and, znI_df, zon_ok, zbt_ok, zlt_t, zlt_f, zle_t, zle_f, zeq_f, ov, ↓zbd_of so, B_X6_kinds_56, zset, hb]
    · have ov : ∀ x : Int32, zsu (zsu τ' 5 (upd (τ' 5) j x)) 5 (upd (zsu τ' 5 (upd (τ' 5) j x) 5) j (nI (kd j))) = τ' := fun x => by
        rw [zov, ← b1, zov_self]
      unfold B_X6_kinds_26
      simp (disch := omega) only [↓reduceIte, ↓znm, ↓zbd_some, ↓zbv_some, ↓zga_in, ↓zgs_in, ↓zgr_in, zga_in, zgs_in, zgr_in, zgz_n0, zgz_n1, zlit, nI_add, pk_mul, pk_sub, znI_or, znI_and, znI_df, zon_ok, zbt_ok, zlt_t, zlt_f, zle_t, zle_f, zeq_f, ov]
