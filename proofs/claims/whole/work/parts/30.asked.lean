/-! PURE: loadings, kinds -/
theorem zloop_ex {α β : Type} {F : (α → Option β) → α → Option β} {I : α → Prop} {μ : α → Nat} {Po : β → Prop} (hs : ∀ rec x, I x → (∀ y, I y → μ y < μ x → ∃ o, rec y = some o ∧ Po o) → ∃ o, F rec x = some o ∧ Po o) : ∀ (n : Nat) (x : α), I x → μ x < n → ∃ o, zloop F n x = some o ∧ Po o
  | 0, x, _, h => by omega
  | n + 1, x, hx, h => hs _ x hx (fun y hy hm => zloop_ex hs n y hy (by omega))
def zwf (k l : Nat) : Nat := if k = 1 then l + 1 else if k = 2 then 2 * l else l
theorem zwo_wf (kd ld : Nat → Nat) (p : Nat) : zwo kd ld p = zwf (kd p) (ld p) := rfl
theorem zwf_le {k l : Nat} (hl : l ≤ 9) : zwf k l ≤ 18 := by
  unfold zwf
  split <;> (try split) <;> omega
theorem worthOf_ok {σ : zSt} {k l : Nat} (hk : k ≤ 2) (hl : l ≤ 9) : M_X5_worthOf (nI k) (nI l) σ = some (nI (zwf k l), σ) := by
  unfold M_X5_worthOf zwf
  rcases (by omega : k = 0 ∨ k = 1 ∨ k = 2) with rfl | rfl | rfl
  · simp (disch := omega) only [↓reduceIte, ↓znm, ↓zbd_some, ↓zbv_some, ↓zga_in, ↓zgs_in, ↓zgr_in, zga_in, zgs_in, zgr_in, zgz_n0, zgz_n1, zlit, nI_add, pk_mul, pk_sub, znI_or, znI_and, znI_df, zon_ok, zbt_ok, zlt_t, zlt_f, zle_t, zle_f, zeq_f]; rfl
  · simp (disch := omega) only [↓reduceIte, ↓znm, ↓zbd_some, ↓zbv_some, ↓zga_in, ↓zgs_in, ↓zgr_in, zga_in, zgs_in, zgr_in, zgz_n0, zgz_n1, zlit, nI_add, pk_mul, pk_sub, znI_or, znI_and, znI_df, zon_ok, zbt_ok, zlt_t, zlt_f, zle_t, zle_f, zeq_f]
  · simp (disch := omega) only [↓reduceIte, ↓znm, ↓zbd_some, ↓zbv_some, ↓zga_in, ↓zgs_in, ↓zgr_in, zga_in, zgs_in, zgr_in, zgz_n0, zgz_n1, zlit, nI_add, pk_mul, pk_sub, znI_or, znI_and, znI_df, zon_ok, zbt_ok, zlt_t, zlt_f, zle_t, zle_f, zeq_f]; rfl
/-- what the readings know: ends and values -/
def zRd (σ τ : zSt) (n c : Nat) (s g v : Nat → Nat) : Prop := c ≤ 8 ∧ σ 47 0 = nI c ∧ τ 0 23 = nI c ∧ ∀ k, k < c → s k < n ∧ g k < n ∧ v k ≤ 200 ∧ σ 48 k = nI (s k) ∧ τ 18 k = nI (s k) ∧ σ 49 k = nI (g k) ∧ τ 19 k = nI (g k) ∧ σ 50 k = nI (v k) ∧ τ 20 k = nI (v k)
theorem zRR.get {σ τ : zSt} {n : Nat} (h : zRR σ τ n) : ∃ c s g v, zRd σ τ n c s g v := by
  obtain ⟨c, h1, h2, h3, h4⟩ := h
  have hq : ∀ k, ∃ t : Nat × Nat × Nat, k < c → t.1 < n ∧ t.2.1 < n ∧ t.2.2 ≤ 200 ∧ σ 48 k = nI t.1 ∧ τ 18 k = nI t.1 ∧ σ 49 k = nI t.2.1 ∧ τ 19 k = nI t.2.1 ∧ σ 50 k = nI t.2.2 ∧ τ 20 k = nI t.2.2 := by
    intro k
    by_cases hk : k < c
    · obtain ⟨s, g, v, q⟩ := h4 k hk
      exact ⟨(s, g, v), fun _ => q⟩
    · exact ⟨(0, 0, 0), fun c => absurd c hk⟩
  obtain ⟨t, ht⟩ := Classical.axiomOfChoice hq
  exact ⟨c, fun k => (t k).1, fun k => (t k).2.1, fun k => (t k).2.2, h1, h2, h3, ht⟩
/-- on the way of reading k -/
def zon' (d : Nat → Nat → Nat) (s g : Nat → Nat) (k q : Nat) : Prop := d (s k) q + d q (g k) = d (s k) (g k)
theorem zon'_dec (d : Nat → Nat → Nat) (s g : Nat → Nat) (k q : Nat) : decide (d (s k) q + d q (g k) = d (s k) (g k)) = true ↔ zon' d s g k q := by
  unfold zon'; simp
/-- worth on the way of reading k, beside post p -/
def zbs (d : Nat → Nat → Nat) (s g : Nat → Nat) (wo : Nat → Nat) (n p k : Nat) : Nat := zsum (fun q => if q = p then 0 else if d (s k) q + d q (g k) = d (s k) (g k) then wo q else 0) n
/-- all of the first c readings are so, when p has the worth w -/
def zsat (d : Nat → Nat → Nat) (s g v : Nat → Nat) (wo : Nat → Nat) (n p c w : Nat) : Prop := ∀ k, k < c → zbs d s g wo n p k + (if d (s k) p + d p (g k) = d (s k) (g k) then w else 0) = v k
theorem zbs_le {d : Nat → Nat → Nat} {s g wo : Nat → Nat} {n p k : Nat} (hn : n ≤ 8) (hw : ∀ q, q < n → wo q ≤ 18) : zbs d s g wo n p k ≤ 144 := by
  have := zsum_le (f := fun q => if q = p then 0 else if d (s k) q + d q (g k) = d (s k) (g k) then wo q else 0) (B := 18) (n := n) (fun q hq => by
    have := hw q hq
    show (if q = p then 0 else if d (s k) q + d q (g k) = d (s k) (g k) then wo q else 0) ≤ 18
    split
    · omega
    · split <;> omega)
  unfold zbs
  omega
theorem beside_ok {σ τ : zSt} {b n : Nat} {kd ld tw : Nat → Nat} {d : Nat → Nat → Nat} (hV : zVX σ b n kd ld tw) (hO : zOK n kd ld tw) (hA : zAX σ b n d) (h8 : ∀ p q, p < n → q < n → d p q < 8) {c : Nat} {s g v : Nat → Nat} (hr : zRd σ τ n c s g v) {p k : Nat} (hp : p < n) (hk : k < c) : M_X0_worthBeside b (nI p) (nI k) σ = some (nI (zbs d s g (zwo kd ld) n p k), σ) := by
  have hn := hO.1
  have hc := hr.1
  obtain ⟨s1, g1, v1, e1, -, e2, -⟩ := hr.2.2.2 k hk
  unfold M_X0_worthBeside L_X0_worthBeside_6
  refine zloop_for (fun i => (nI (zsum (fun q => if q = p then 0 else if d (s k) q + d q (g k) = d (s k) (g k) then zwo kd ld q else 0) i), nI i, σ)) n rfl (by omega) (fun rec i hi => ?_) (fun rec => ?_)
  · unfold B_X0_worthBeside_6
    by_cases c1 : i = p
    · subst c1
      simp (disch := omega) only [↓reduceIte, ↓znm, ↓zbd_some, ↓zbv_some, ↓zga_in, ↓zgs_in, ↓zgr_in, zga_in, zgs_in, zgr_in, zgz_n0, zgz_n1, zlit, nI_add, pk_mul, pk_sub, znI_or, znI_and, znI_df, zon_ok, zbt_ok, zlt_t, zlt_f, zle_t, zle_f, zeq_f, hV.1, zsum, B_X0_worthBeside_53, Nat.add_zero]
    · have u := onWay_ok hA hn h8 s1 g1 hi
      by_cases c2 : d (s k) i + d i (g k) = d (s k) (g k)
      · rw [if_pos c2] at u
        simp (disch := omega) only [↓reduceIte, ↓znm, ↓zbd_some, ↓zbv_some, ↓zga_in, ↓zgs_in, ↓zgr_in, zga_in, zgs_in, zgr_in, zgz_n0, zgz_n1, zlit, nI_add, pk_mul, pk_sub, znI_or, znI_and, znI_df, zon_ok, zbt_ok, zlt_t, zlt_f, zle_t, zle_f, zeq_f, hV.1, c1, e1, e2, ↓zbd_of u, ↓zbd_of (worthX_ok hV hO hi), zsum, c2, B_X0_worthBeside_53]
      · rw [if_neg c2] at u
        simp (disch := omega) only [↓reduceIte, ↓znm, ↓zbd_some, ↓zbv_some, ↓zga_in, ↓zgs_in, ↓zgr_in, zga_in, zgs_in, zgr_in, zgz_n0, zgz_n1, zlit, nI_add, pk_mul, pk_sub, znI_or, znI_and, znI_df, zon_ok, zbt_ok, zlt_t, zlt_f, zle_t, zle_f, zeq_f, hV.1, c1, e1, e2, ↓zbd_of u, zsum, c2, B_X0_worthBeside_53, Nat.add_zero]
  · unfold B_X0_worthBeside_6
    simp (disch := omega) only [↓reduceIte, ↓znm, ↓zbd_some, ↓zbv_some, ↓zga_in, ↓zgs_in, ↓zgr_in, zga_in, zgs_in, zgr_in, zgz_n0, zgz_n1, zlit, nI_add, pk_mul, pk_sub, znI_or, znI_and, znI_df, zon_ok, zbt_ok, zlt_t, zlt_f, zle_t, zle_f, zeq_f, hV.1]
    rfl
theorem asked_ok {σ τ : zSt} {b n : Nat} {kd ld tw : Nat → Nat} {d : Nat → Nat → Nat} (hV : zVX σ b n kd ld tw) (hO : zOK n kd ld tw) (hA : zAX σ b n d) (h8 : ∀ p q, p < n → q < n → d p q < 8) {c : Nat} {s g v : Nat → Nat} (hr : zRd σ τ n c s g v) {p : Nat} (hp : p < n) : ∃ o : Int32 × zSt, M_X0_askedOf b (nI p) σ = some o ∧ o.2 = σ ∧ ((o.1 = -nI 1 ∧ ∀ w, zsat d s g v (zwo kd ld) n p c w) ∨ (o.1 = -nI 2 ∧ ∀ w, ¬ zsat d s g v (zwo kd ld) n p c w) ∨ ∃ r, o.1 = nI r ∧ r ≤ 200 ∧ ∀ w, zsat d s g v (zwo kd ld) n p c w ↔ w = r) := by
  have hn := hO.1
  have hc := hr.1
  unfold M_X0_askedOf L_X0_askedOf_5
  refine zloop_ex (I := fun (x : Int32 × Int32 × zSt) => ∃ k, k ≤ c ∧ x.2.1 = nI k ∧ x.2.2 = σ ∧ ((x.1 = -nI 1 ∧ ∀ w, zsat d s g v (zwo kd ld) n p k w) ∨ ∃ r, x.1 = nI r ∧ r ≤ 200 ∧ ∀ w, zsat d s g v (zwo kd ld) n p k w ↔ w = r)) (μ := fun (x : Int32 × Int32 × zSt) => 9 - x.2.1.toInt.toNat) (Po := fun (o : Int32 × zSt) => o.2 = σ ∧ ((o.1 = -nI 1 ∧ ∀ w, zsat d s g v (zwo kd ld) n p c w) ∨ (o.1 = -nI 2 ∧ ∀ w, ¬ zsat d s g v (zwo kd ld) n p c w) ∨ ∃ r, o.1 = nI r ∧ r ≤ 200 ∧ ∀ w, zsat d s g v (zwo kd ld) n p c w ↔ w = r)) ?_ zFU (-1, 0, σ) ⟨0, Nat.zero_le _, rfl, rfl, Or.inl ⟨rfl, fun w k hk => absurd hk (Nat.not_lt_zero _)⟩⟩ (by have := zFU_ge; show 9 - _ < zFU; omega)
  intro rec x hx hrec
  obtain ⟨a, kk, σ'⟩ := x
  obtain ⟨k, hk, e1, e2, hst⟩ := hx
  dsimp only at e1 e2 hst
  subst e1
  subst e2
  by_cases hkc : k = c
  · subst hkc
    refine ⟨(a, σ'), ?_, rfl, ?_⟩
    · unfold B_X0_askedOf_5
      simp (disch := omega) only [↓reduceIte, ↓znm, ↓zbd_some, ↓zbv_some, ↓zga_in, ↓zgs_in, ↓zgr_in, zga_in, zgs_in, zgr_in, zgz_n0, zgz_n1, zlit, nI_add, pk_mul, pk_sub, znI_or, znI_and, znI_df, zon_ok, zbt_ok, zlt_t, zlt_f, zle_t, zle_f, zeq_f, hr.2.1]
    · rcases hst with q | q
      · exact Or.inl q
      · exact Or.inr (Or.inr q)
  · have hk' : k < c := by omega
    obtain ⟨s1, g1, v1, t1, -, t2, -, t3, -⟩ := hr.2.2.2 k hk'
    have u := beside_ok hV hO hA h8 hr hp hk'
    have w := onWay_ok hA hn h8 s1 g1 hp
    have hb : zbs d s g (zwo kd ld) n p k ≤ 144 := zbs_le hn (fun q hq => zwo_le hO hq)
    have hsat : ∀ w, zsat d s g v (zwo kd ld) n p (k + 1) w ↔ zsat d s g v (zwo kd ld) n p k w ∧ zbs d s g (zwo kd ld) n p k + (if d (s k) p + d p (g k) = d (s k) (g k) then w else 0) = v k := by
      intro w
      constructor
      · intro q
        exact ⟨fun i hi => q i (by omega), q k (by omega)⟩
      · rintro ⟨q1, q2⟩ i hi
        by_cases e : i = k
        · rw [e]; exact q2
        · exact q1 i (by omega)
    have hmono : ∀ w, zsat d s g v (zwo kd ld) n p c w → zsat d s g v (zwo kd ld) n p (k + 1) w := fun w q i hi => q i (by omega)
    have next : ∀ a' : Int32, ((a' = -nI 1 ∧ ∀ w, zsat d s g v (zwo kd ld) n p (k + 1) w) ∨ ∃ r, a' = nI r ∧ r ≤ 200 ∧ ∀ w, zsat d s g v (zwo kd ld) n p (k + 1) w ↔ w = r) → ∃ o, rec (a', nI (k + 1), σ') = some o ∧ (o.2 = σ' ∧ ((o.1 = -nI 1 ∧ ∀ w, zsat d s g v (zwo kd ld) n p c w) ∨ (o.1 = -nI 2 ∧ ∀ w, ¬ zsat d s g v (zwo kd ld) n p c w) ∨ ∃ r, o.1 = nI r ∧ r ≤ 200 ∧ ∀ w, zsat d s g v (zwo kd ld) n p c w ↔ w = r)) := fun a' q => hrec (a', nI (k + 1), σ') ⟨k + 1, by omega, rfl, rfl, q⟩ (by
        show 9 - (nI (k + 1)).toInt.toNat < 9 - (nI k).toInt.toNat
        rw [nI_toInt (by omega), nI_toInt (by omega), Int.toNat_natCast, Int.toNat_natCast]
        omega)
    have never : (∀ w, ¬ zsat d s g v (zwo kd ld) n p (k + 1) w) → ∃ o, some ((-nI 2 : Int32), σ') = some o ∧ (o.2 = σ' ∧ ((o.1 = -nI 1 ∧ ∀ w, zsat d s g v (zwo kd ld) n p c w) ∨ (o.1 = -nI 2 ∧ ∀ w, ¬ zsat d s g v (zwo kd ld) n p c w) ∨ ∃ r, o.1 = nI r ∧ r ≤ 200 ∧ ∀ w, zsat d s g v (zwo kd ld) n p c w ↔ w = r)) := fun q => ⟨(-nI 2, σ'), rfl, rfl, Or.inr (Or.inl ⟨rfl, fun w h => q w (hmono w h)⟩)⟩
    by_cases hon : d (s k) p + d p (g k) = d (s k) (g k)
    · rw [if_pos hon] at w
      have hsat : ∀ w, zsat d s g v (zwo kd ld) n p (k + 1) w ↔ zsat d s g v (zwo kd ld) n p k w ∧ zbs d s g (zwo kd ld) n p k + w = v k := fun w => by
        have := hsat w
        rw [if_pos hon] at this
        exact this
      by_cases hv : zbs d s g (zwo kd ld) n p k ≤ v k
      · have es := pk_sub hv
        rcases hst with ⟨rfl, ha⟩ | ⟨r, rfl, hr1, ha⟩
        · obtain ⟨o, o1, o2⟩ := next (nI (v k - zbs d s g (zwo kd ld) n p k)) (Or.inr ⟨_, rfl, by omega, fun w => by
            rw [hsat w]
            constructor
            · rintro ⟨-, q⟩; omega
            · intro q; exact ⟨ha w, by omega⟩⟩)
          refine ⟨o, ?_, o2⟩
          rw [← o1]
          unfold B_X0_askedOf_5
          simp (disch := omega) only [↓reduceIte, ↓znm, ↓zbd_some, ↓zbv_some, ↓zga_in, ↓zgs_in, ↓zgr_in, zga_in, zgs_in, zgr_in, zgz_n0, zgz_n1, zlit, nI_add, pk_mul, pk_sub, znI_or, znI_and, znI_df, zon_ok, zbt_ok, zlt_t, zlt_f, zle_t, zle_f, zeq_f, hr.2.1, t1, t2, t3, ↓zbd_of u, es, ↓zbd_of w, B_X0_askedOf_85, B_X0_askedOf_93]
        · have n1 : (nI r = -nI 1) = False := eq_false (zneg_ne (by omega) (by decide) (by decide))
          by_cases e : r = v k - zbs d s g (zwo kd ld) n p k
          · obtain ⟨o, o1, o2⟩ := next (nI (v k - zbs d s g (zwo kd ld) n p k)) (Or.inr ⟨_, rfl, by omega, fun w => by
              rw [hsat w, ha w]
              constructor
              · rintro ⟨-, q⟩; omega
              · intro q; exact ⟨by omega, by omega⟩⟩)
            refine ⟨o, ?_, o2⟩
            rw [← o1]
            unfold B_X0_askedOf_5
            rw [e] at n1 ⊢
            simp (disch := omega) only [↓reduceIte, ↓znm, ↓zbd_some, ↓zbv_some, ↓zga_in, ↓zgs_in, ↓zgr_in, zga_in, zgs_in, zgr_in, zgz_n0, zgz_n1, zlit, nI_add, pk_mul, pk_sub, znI_or, znI_and, znI_df, zon_ok, zbt_ok, zlt_t, zlt_f, zle_t, zle_f, zeq_f, hr.2.1, t1, t2, t3, ↓zbd_of u, es, ↓zbd_of w, n1, B_X0_askedOf_85, B_X0_askedOf_93]
          · obtain ⟨o, o1, o2⟩ := never (fun w h => by
              obtain ⟨q1, q2⟩ := (hsat w).mp h
              have := (ha w).mp q1
              omega)
            refine ⟨o, ?_, o2⟩
            rw [← o1]
            have n2 : (nI r = nI (v k - zbs d s g (zwo kd ld) n p k)) = False := zeq_f e (by omega) (by omega)
            unfold B_X0_askedOf_5
            simp (disch := omega) only [↓reduceIte, ↓znm, ↓zbd_some, ↓zbv_some, ↓zga_in, ↓zgs_in, ↓zgr_in, zga_in, zgs_in, zgr_in, zgz_n0, zgz_n1, zlit, nI_add, pk_mul, pk_sub, znI_or, znI_and, znI_df, zon_ok, zbt_ok, zlt_t, zlt_f, zle_t, zle_f, zeq_f, hr.2.1, t1, t2, t3, ↓zbd_of u, es, ↓zbd_of w, n1, n2]
      · obtain ⟨o, o1, o2⟩ := never (fun w h => by
          have := ((hsat w).mp h).2
          omega)
        refine ⟨o, ?_, o2⟩
        rw [← o1]
        have n2 : (nI (v k) - nI (zbs d s g (zwo kd ld) n p k) < nI 0) = True := eq_true (pk_sneg (by omega) (by omega))
        unfold B_X0_askedOf_5
        simp (disch := omega) only [↓reduceIte, ↓znm, ↓zbd_some, ↓zbv_some, ↓zga_in, ↓zgs_in, ↓zgr_in, zga_in, zgs_in, zgr_in, zgz_n0, zgz_n1, zlit, nI_add, pk_mul, znI_or, znI_and, znI_df, zon_ok, zbt_ok, zlt_t, zlt_f, zle_t, zle_f, zeq_f, hr.2.1, t1, t2, t3, ↓zbd_of u, ↓zbd_of w, n2]
    · rw [if_neg hon] at w
      have hsat : ∀ w, zsat d s g v (zwo kd ld) n p (k + 1) w ↔ zsat d s g v (zwo kd ld) n p k w ∧ zbs d s g (zwo kd ld) n p k = v k := fun w => by
        have := hsat w
        rw [if_neg hon, Nat.add_zero] at this
        exact this
      by_cases hv : zbs d s g (zwo kd ld) n p k = v k
      · have es : nI (v k) - nI (zbs d s g (zwo kd ld) n p k) = nI 0 := by
          rw [hv, pk_sub (Nat.le_refl _), Nat.sub_self]
        obtain ⟨o, o1, o2⟩ := next a (by
          rcases hst with ⟨q1, q2⟩ | ⟨r, q1, q2, q3⟩
          · exact Or.inl ⟨q1, fun w => (hsat w).mpr ⟨q2 w, hv⟩⟩
          · exact Or.inr ⟨r, q1, q2, fun w => by rw [hsat w, q3 w]; exact ⟨fun q => q.1, fun q => ⟨q, hv⟩⟩⟩)
        refine ⟨o, ?_, o2⟩
        rw [← o1]
        unfold B_X0_askedOf_5
        simp (disch := omega) only [↓reduceIte, ↓znm, ↓zbd_some, ↓zbv_some, ↓zga_in, ↓zgs_in, ↓zgr_in, zga_in, zgs_in, zgr_in, zgz_n0, zgz_n1, zlit, nI_add, pk_mul, znI_or, znI_and, znI_df, zon_ok, zbt_ok, zlt_t, zlt_f, zle_t, zle_f, zeq_f, hr.2.1, t1, t2, t3, ↓zbd_of u, es, ↓zbd_of w, B_X0_askedOf_85, B_X0_askedOf_93]
      · obtain ⟨o, o1, o2⟩ := never (fun w h => hv ((hsat w).mp h).2)
        refine ⟨o, ?_, o2⟩
        rw [← o1]
        have n2 : (nI (v k) - nI (zbs d s g (zwo kd ld) n p k) = nI 0) = False := by
          refine eq_false (fun q => ?_)
          have q1 := congrArg Int32.toInt q
          rw [pk_sub_toInt (by omega) (by omega), nI_toInt (by decide)] at q1
          omega
        unfold B_X0_askedOf_5
        simp (disch := omega) only [↓reduceIte, ↓znm, ↓zbd_some, ↓zbv_some, ↓zga_in, ↓zgs_in, ↓zgr_in, zga_in, zgs_in, zgr_in, zgz_n0, zgz_n1, zlit, nI_add, pk_mul, znI_or, znI_and, znI_df, zon_ok, zbt_ok, zlt_t, zlt_f, zle_t, zle_f, zeq_f, hr.2.1, t1, t2, t3, ↓zbd_of u, ↓zbd_of w, n2]
