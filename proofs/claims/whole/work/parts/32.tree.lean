/-! PURE: a leaf comes off, a leaf comes on; tie, hangOn, graft -/
theorem zTR.detach {S S' : Nat → Prop} {tw tw2 : Nat → Nat} {d : Nat → Nat → Nat} (h : zTR S tw d) {p w : Nat} (hp : S p) (hleaf : ∀ r, (tw p).testBit r = true ↔ r = w) (hS : ∀ q, S' q ↔ S q ∧ q ≠ p) (hb : ∀ q r, S' q → ((tw2 q).testBit r = true ↔ (tw q).testBit r = true ∧ r ≠ p)) : zTR S' tw2 d := by
  obtain ⟨h1, h2, h3, h4, h5, h6⟩ := h
  refine ⟨fun q hq => h1 q ((hS q).mp hq).1, fun q r hq hr => ?_, fun q hq => h3 q ((hS q).mp hq).1, fun q r hq hr => h4 q r ((hS q).mp hq).1 ((hS r).mp hr).1, fun r q t hr hq ht => ?_, fun r q hr hq hne => ?_⟩
  · obtain ⟨a1, a2⟩ := (hb q r hq).mp hr
    obtain ⟨b1, b2, b3⟩ := h2 q r ((hS q).mp hq).1 a1
    have hr' : S' r := (hS r).mpr ⟨b1, a2⟩
    exact ⟨hr', (hb r q hr').mpr ⟨b2, ((hS q).mp hq).2⟩, b3⟩
  · exact h5 r q t ((hS r).mp hr).1 ((hS q).mp hq).1 ((hb q t hq).mp ht).1
  · obtain ⟨r1, r2⟩ := (hS r).mp hr
    obtain ⟨q1, q2⟩ := (hS q).mp hq
    obtain ⟨t, t1, t2, t3⟩ := h6 r q r1 q1 hne
    have htp : t ≠ p := by
      intro e
      rw [e] at t1 t2
      obtain ⟨-, b2, -⟩ := h2 q p q1 t1
      have hqw := (hleaf q).mp b2
      obtain ⟨u, u1, u2, -⟩ := h6 r p r1 hp (fun e => r2 e.symm)
      have huw := (hleaf u).mp u1
      rw [huw, ← hqw] at u2
      omega
    exact ⟨t, (hb q t hq).mpr ⟨t1, htp⟩, t2, fun u hu1 hu2 => t3 u ((hb q u hq).mp hu1).1 hu2⟩
theorem zTR.attach {S S' : Nat → Prop} {tw tw2 : Nat → Nat} {d d2 : Nat → Nat → Nat} (h : zTR S tw d) {p on : Nat} (hS : ∀ q, S' q ↔ S q ∨ q = p) (hp8 : p < 8) (hnp : ¬ S p) (hon : S on) (hb : ∀ q r, S q → ((tw2 q).testBit r = true ↔ (tw q).testBit r = true ∨ (q = on ∧ r = p))) (hbp : ∀ r, (tw2 p).testBit r = true ↔ r = on) (hd : ∀ x y, S x → S y → d2 x y = d x y) (hdp : ∀ y, S y → d2 p y = d on y + 1 ∧ d2 y p = d on y + 1) (h0 : d2 p p = 0) : zTR S' tw2 d2 := by
  obtain ⟨h1, h2, h3, h4, h5, h6⟩ := h
  have hne : ∀ q, S q → q ≠ p := fun q hq e => hnp (e ▸ hq)
  refine ⟨fun q hq => ?_, fun q r hq hr => ?_, fun q hq => ?_, fun q r hq hr => ?_, fun r q t hr hq ht => ?_, fun r q hr hq hrq => ?_⟩
  · rcases (hS q).mp hq with e | e
    · exact h1 q e
    · rw [e]; exact hp8
  · rcases (hS q).mp hq with e | e
    · rcases (hb q r e).mp hr with a | ⟨a1, a2⟩
      · obtain ⟨b1, b2, b3⟩ := h2 q r e a
        exact ⟨(hS r).mpr (Or.inl b1), (hb r q b1).mpr (Or.inl b2), b3⟩
      · refine ⟨(hS r).mpr (Or.inr a2), ?_, ?_⟩
        · rw [a2]; exact (hbp q).mpr a1
        · rw [a2]; exact hne q e
    · rw [e] at hr
      have hr := (hbp r).mp hr
      rw [hr, e]
      exact ⟨(hS on).mpr (Or.inl hon), (hb on p hon).mpr (Or.inr ⟨rfl, rfl⟩), fun e => hne on hon e.symm⟩
  · rcases (hS q).mp hq with e | e
    · rw [hd q q e e]; exact h3 q e
    · rw [e]; exact h0
  · rcases (hS q).mp hq with e | e
    · rcases (hS r).mp hr with f | f
      · rw [hd q r e f, hd r q f e]; exact h4 q r e f
      · rw [f, (hdp q e).1, (hdp q e).2]
    · rcases (hS r).mp hr with f | f
      · rw [e, (hdp r f).1, (hdp r f).2]
      · rw [e, f]
  · rcases (hS r).mp hr with e | e
    · rcases (hS q).mp hq with f | f
      · rcases (hb q t f).mp ht with a | ⟨a1, a2⟩
        · have g := (h2 q t f a).1
          rw [hd r t e g, hd r q e f]
          exact h5 r q t e f a
        · rw [a2, a1, (hdp r e).2, hd r on e hon, h4 r on e hon]
          exact Or.inr rfl
      · rw [f] at ht
        have ht := (hbp t).mp ht
        rw [ht, f, (hdp r e).2, hd r on e hon, h4 r on e hon]
        exact Or.inl rfl
    · rcases (hS q).mp hq with f | f
      · rcases (hb q t f).mp ht with a | ⟨a1, a2⟩
        · have g := (h2 q t f a).1
          rw [e, (hdp t g).1, (hdp q f).1]
          have := h5 on q t hon f a
          omega
        · rw [a2, a1, e, h0, (hdp on hon).1, h3 on hon]
          exact Or.inl rfl
      · rw [f] at ht
        have ht := (hbp t).mp ht
        rw [ht, f, e, h0, (hdp on hon).1, h3 on hon]
        exact Or.inr rfl
  · rcases (hS r).mp hr with e | e
    · rcases (hS q).mp hq with f | f
      · obtain ⟨t, t1, t2, t3⟩ := h6 r q e f hrq
        have g := (h2 q t f t1).1
        refine ⟨t, (hb q t f).mpr (Or.inl t1), by rw [hd r t e g, hd r q e f]; exact t2, fun u hu1 hu2 => ?_⟩
        rcases (hb q u f).mp hu1 with a | ⟨a1, a2⟩
        · have g2 := (h2 q u f a).1
          rw [hd r u e g2, hd r q e f] at hu2
          exact t3 u a hu2
        · exfalso
          rw [a2, a1, (hdp r e).2, hd r on e hon, h4 r on e hon] at hu2
          omega
      · refine ⟨on, by rw [f]; exact (hbp on).mpr rfl, by rw [f, (hdp r e).2, hd r on e hon, h4 r on e hon], fun u hu1 _ => by rw [f] at hu1; exact (hbp u).mp hu1⟩
    · rcases (hS q).mp hq with f | f
      · by_cases c : q = on
        · subst c
          refine ⟨p, (hb q p f).mpr (Or.inr ⟨rfl, rfl⟩), by rw [e, h0, (hdp q f).1, h3 q f], fun u hu1 hu2 => ?_⟩
          rcases (hb q u f).mp hu1 with a | ⟨-, a2⟩
          · exfalso
            have g := (h2 q u f a).1
            rw [e, (hdp u g).1, (hdp q f).1, h3 q f] at hu2
            omega
          · exact a2
        · obtain ⟨t, t1, t2, t3⟩ := h6 on q hon f c
          have g := (h2 q t f t1).1
          refine ⟨t, (hb q t f).mpr (Or.inl t1), by rw [e, (hdp t g).1, (hdp q f).1]; omega, fun u hu1 hu2 => ?_⟩
          rcases (hb q u f).mp hu1 with a | ⟨a1, -⟩
          · have g2 := (h2 q u f a).1
            rw [e, (hdp u g2).1, (hdp q f).1] at hu2
            exact t3 u a (by omega)
          · exact absurd a1 c
      · exact absurd (f.trans e.symm) hrq
/-! tie -/
def zT (s : zSt) (b p on i : Nat) : zSt := fun c y => if c = b + 9 + p ∧ y < i ∧ y ≠ p then s (b + 9 + on) y + nI 1 else if b + 9 ≤ c ∧ c < b + 9 + i ∧ c ≠ b + 9 + p ∧ y = p then s (b + 9 + on) (c - (b + 9)) + nI 1 else s c y
theorem zput_at {σ : zSt} {c k c' k' : Nat} {v : Int32} : zsu σ c (upd (σ c) k v) c' k' = if c' = c ∧ k' = k then v else σ c' k' := by
  unfold zsu
  by_cases e : c' = c
  · subst e
    rw [if_pos rfl]
    unfold upd
    by_cases f : k' = k
    · rw [if_pos f, if_pos ⟨rfl, f⟩]
    · rw [if_neg f, if_neg (fun q => f q.2)]
  · rw [if_neg e, if_neg (fun q => e q.1)]
theorem zT_0 {s : zSt} {b p on : Nat} : zT s b p on 0 = s := by
  funext c y
  unfold zT
  rw [if_neg (by omega), if_neg (by omega)]
theorem zT_p {s : zSt} {b p on : Nat} : zT s b p on (p + 1) = zT s b p on p := by
  funext c y
  unfold zT
  by_cases e1 : c = b + 9 + p ∧ y < p ∧ y ≠ p
  · rw [if_pos e1, if_pos (by omega)]
  · rw [if_neg e1, if_neg (by omega)]
    by_cases e2 : b + 9 ≤ c ∧ c < b + 9 + p ∧ c ≠ b + 9 + p ∧ y = p
    · rw [if_pos e2, if_pos (by omega)]
    · rw [if_neg e2, if_neg (by omega)]
theorem zT_s {s : zSt} {b p on i : Nat} (hi : i ≠ p) : (let s1 := zsu (zT s b p on i) (b + 9 + p) (upd (zT s b p on i (b + 9 + p)) i (s (b + 9 + on) i + nI 1)); zsu s1 (b + 9 + i) (upd (s1 (b + 9 + i)) p (s (b + 9 + on) i + nI 1))) = zT s b p on (i + 1) := by
  funext c y
  rw [zput_at, zput_at]
  by_cases e1 : c = b + 9 + i ∧ y = p
  · rw [if_pos e1]
    unfold zT
    rw [if_neg (by omega), if_pos (by omega), e1.1]
    congr 2
    omega
  · rw [if_neg e1]
    by_cases e2 : c = b + 9 + p ∧ y = i
    · rw [if_pos e2]
      unfold zT
      rw [if_pos (by omega), e2.2]
    · rw [if_neg e2]
      unfold zT
      by_cases e3 : c = b + 9 + p ∧ y < i ∧ y ≠ p
      · rw [if_pos e3, if_pos (by omega)]
      · rw [if_neg e3]
        have e5 : ¬ (c = b + 9 + p ∧ y < i + 1 ∧ y ≠ p) := by omega
        by_cases e4 : b + 9 ≤ c ∧ c < b + 9 + i ∧ c ≠ b + 9 + p ∧ y = p
        · rw [if_pos e4, if_neg e5, if_pos (by omega)]
        · have e6 : ¬ (b + 9 ≤ c ∧ c < b + 9 + (i + 1) ∧ c ≠ b + 9 + p ∧ y = p) := by omega
          rw [if_neg e4, if_neg e5, if_neg e6]
theorem tie_loop {s : zSt} {b n p on : Nat} (h0 : s b 0 = nI n) (hn : n ≤ 8) (hp : p < n) (hon : on < n) (hne : p ≠ on) : L_X4_tie_26 b (nI p) (nI on) (nI 0) s = some (zT s b p on n) := by
  have hb : ∀ i, i ≤ n → zT s b p on i b 0 = nI n := fun i hi => by
    unfold zT
    rw [if_neg (by omega), if_neg (by omega)]
    exact h0
  unfold L_X4_tie_26
  refine zloop_for (fun i => (nI i, zT s b p on i)) n ?_ (by omega) (fun rec i hi => ?_) (fun rec => ?_)
  · rw [zT_0]
  · have e0 := hb i (by omega)
    unfold B_X4_tie_26
    by_cases e : i = p
    · subst e
      simp (disch := omega) only [↓reduceIte, ↓znm, ↓zbd_some, ↓zbv_some, ↓zga_in, ↓zgs_in, ↓zgr_in, zga_in, zgs_in, zgr_in, zgz_n0, zgz_n1, zlit, nI_add, pk_mul, pk_sub, znI_or, znI_and, znI_df, zon_ok, zbt_ok, zlt_t, zlt_f, zle_t, zle_f, zeq_f, e0, B_X4_tie_73, zT_p]
    · have e1 : zT s b p on i (b + 9 + on) i = s (b + 9 + on) i := by
        unfold zT
        rw [if_neg (by omega), if_neg (by omega)]
      have e2 := zT_s (s := s) (b := b) (p := p) (on := on) (i := i) e
      dsimp only at e2
      have e3 : zsu (zT s b p on i) (b + 9 + p) (upd (zT s b p on i (b + 9 + p)) i (s (b + 9 + on) i + nI 1)) (b + 9 + p) i = s (b + 9 + on) i + nI 1 := by
        rw [zput_at, if_pos ⟨rfl, rfl⟩]
      simp (disch := omega) only [↓reduceIte, ↓znm, ↓zbd_some, ↓zbv_some, ↓zga_in, ↓zgs_in, ↓zgr_in, zga_in, zgs_in, zgr_in, zgz_n0, zgz_n1, zlit, nI_add, pk_mul, pk_sub, znI_or, znI_and, znI_df, zon_ok, zbt_ok, zlt_t, zlt_f, zle_t, zle_f, zeq_f, e0, e, e1, e3, e2, B_X4_tie_73]
  · unfold B_X4_tie_26
    simp (disch := omega) only [↓reduceIte, ↓znm, ↓zbd_some, ↓zbv_some, ↓zga_in, ↓zgs_in, ↓zgr_in, zga_in, zgs_in, zgr_in, zgz_n0, zgz_n1, zlit, nI_add, pk_mul, pk_sub, znI_or, znI_and, znI_df, zon_ok, zbt_ok, zlt_t, zlt_f, zle_t, zle_f, zeq_f, hb n (Nat.le_refl _)]
def ztw2 (tw : Nat → Nat) (p w on : Nat) : Nat → Nat := fun q => if q = p then 2 ^ on else if q = on then (if q = w then zdf (tw q) (2 ^ p) else tw q) ||| 2 ^ p else if q = w then zdf (tw q) (2 ^ p) else tw q
def zd2 (d : Nat → Nat → Nat) (p on : Nat) : Nat → Nat → Nat := fun x y => if x = p then (if y = p then 0 else d on y + 1) else if y = p then d on x + 1 else d x y
theorem z2p {k : Nat} (h : k < 8) : 2 ^ k < 256 := by
  have := Nat.pow_lt_pow_right (a := 2) (by decide) h
  simpa using this
theorem zpc_one : ∀ m, m < 256 → zpc m = 1 → m = 2 ^ zlo m := by decide +kernel
theorem zbit2 (k r : Nat) : (2 ^ k).testBit r = true ↔ r = k := by
  rw [Nat.testBit_two_pow]
  simp only [decide_eq_true_iff]
  omega
theorem zdf_lt {a b : Nat} (h : a < 256) : zdf a b < 256 := Nat.lt_of_le_of_lt (zdf_le a b) h
theorem zor_lt {a b : Nat} (h1 : a < 256) (h2 : b < 256) : a ||| b < 256 := Nat.or_lt_two_pow (n := 8) h1 h2
/-- a post with one twig hangs elsewhere: a tree still -/
theorem zTR.graft {n : Nat} {tw : Nat → Nat} {d : Nat → Nat → Nat} (hn : n ≤ 8) (h : zTR (fun p => p < n) tw d) {p w on : Nat} (hp : p < n) (hon : on < n) (hne : p ≠ on) (htw : tw p = 2 ^ w) : w < n ∧ w ≠ p ∧ zTR (fun q => q < n) (ztw2 tw p w on) (zd2 d p on) := by
  have hleaf : ∀ r, (tw p).testBit r = true ↔ r = w := fun r => by rw [htw]; exact zbit2 w r
  obtain ⟨w1, w2, w3⟩ := h.2.1 p w hp ((hleaf w).mpr rfl)
  refine ⟨w1, fun e => w3 e.symm, ?_⟩
  have h1 : zTR (fun q => q < n ∧ q ≠ p) (fun q => if q = w then zdf (tw q) (2 ^ p) else tw q) d := by
    refine h.detach (p := p) (w := w) hp hleaf (fun q => Iff.rfl) (fun q r hq => ?_)
    show (if q = w then zdf (tw q) (2 ^ p) else tw q).testBit r = true ↔ _
    by_cases e : q = w
    · rw [if_pos e, zdf_iff, zbit2]
    · rw [if_neg e]
      constructor
      · intro t
        refine ⟨t, fun er => ?_⟩
        rw [er] at t
        exact e ((hleaf q).mp (h.2.1 q p hq.1 t).2.1)
      · exact fun t => t.1
  refine h1.attach (p := p) (on := on) (fun q => ?_) (by omega) (fun q => q.2 rfl) ⟨hon, fun e => hne e.symm⟩ (fun q r hq => ?_) (fun r => ?_) (fun x y hx hy => ?_) (fun y hy => ?_) ?_
  · show q < n ↔ (q < n ∧ q ≠ p) ∨ q = p
    omega
  · show (ztw2 tw p w on q).testBit r = true ↔ (if q = w then zdf (tw q) (2 ^ p) else tw q).testBit r = true ∨ (q = on ∧ r = p)
    unfold ztw2
    rw [if_neg hq.2]
    by_cases e : q = on
    · rw [if_pos e, zor_iff, zbit2]
      exact ⟨fun t => t.imp id (fun t => ⟨e, t⟩), fun t => t.imp id (fun t => t.2)⟩
    · rw [if_neg e]
      exact ⟨fun t => Or.inl t, fun t => t.resolve_right (fun t => e t.1)⟩
  · unfold ztw2
    rw [if_pos rfl]
    exact zbit2 on r
  · unfold zd2
    rw [if_neg hx.2, if_neg hy.2]
  · unfold zd2
    rw [if_pos rfl, if_neg hy.2, if_neg hy.2, if_pos rfl]
    exact ⟨rfl, rfl⟩
  · unfold zd2
    rw [if_pos rfl, if_pos rfl]
theorem zOK.graft {n : Nat} {kd ld tw : Nat → Nat} (h : zOK n kd ld tw) {p w on : Nat} (hp : p < n) (hon : on < n) : zOK n kd ld (ztw2 tw p w on) := by
  refine ⟨h.1, fun q hq => ?_⟩
  have hn := h.1
  obtain ⟨h1, h2, h3⟩ := h.2 q hq
  refine ⟨h1, h2, ?_⟩
  have a1 := zdf_lt (b := 2 ^ p) h3
  have a2 := z2p (k := p) (by omega)
  have a3 := z2p (k := on) (by omega)
  unfold ztw2
  split
  · exact a3
  · split
    · split
      · exact zor_lt a1 a2
      · exact zor_lt h3 a2
    · split
      · exact a1
      · exact h3
theorem tie_ok {σ : zSt} {b n p on : Nat} {tp to' : Nat} (h0 : σ b 0 = nI n) (hn : n ≤ 8) (hp : p < n) (hon : on < n) (hne : p ≠ on) (h1 : σ (b + 3) p = nI tp) (h2 : σ (b + 3) on = nI to') : M_X4_tie b (nI p) (nI on) σ = some (zT (zsu σ (b + 3) (upd (upd (σ (b + 3)) p (nI (tp ||| 2 ^ on))) on (nI (to' ||| 2 ^ p)))) b p on n) := by
  have e1 : upd (σ (b + 3)) p (nI (tp ||| 2 ^ on)) on = nI to' := by rw [upd_ne (fun e => hne e.symm)]; exact h2
  have e0 : zsu σ (b + 3) (upd (upd (σ (b + 3)) p (nI (tp ||| 2 ^ on))) on (nI (to' ||| 2 ^ p))) b 0 = nI n := by rw [zsu_ne (by omega)]; exact h0
  unfold M_X4_tie
  simp (disch := omega) only [↓reduceIte, ↓znm, ↓zbd_some, ↓zbv_some, ↓zga_in, ↓zgs_in, ↓zgr_in, zga_in, zgs_in, zgr_in, zgz_n0, zgz_n1, zlit, nI_add, pk_mul, pk_sub, znI_or, znI_and, znI_df, zon_ok, zbt_ok, zlt_t, zlt_f, zle_t, zle_f, zeq_f, h1, zsu_eq, e1, zsu_su, tie_loop e0 hn hp hon hne]
theorem hangOn_gen {σ : zSt} {b n m : Nat} (hm : m ≤ 8) {kd ld tw : Nat → Nat} {d : Nat → Nat → Nat} (hV : zVX σ b n kd ld tw) (hO : zOK n kd ld tw) (hA : zAX σ b n d) (hdg : ∀ p, p < m → σ (b + 9 + p) p = nI 0) (hT : zTR (fun p => p < n) tw d) {p on : Nat} (hp : p < n) (hon : on < n) (hne : p ≠ on) (h1 : zpc (tw p) = 1) : ∃ σ', M_X4_hangOn b (nI p) (nI on) σ = some (nI (zlo (tw p)), σ') ∧ zVX σ' b n kd ld (ztw2 tw p (zlo (tw p)) on) ∧ zAX σ' b n (zd2 d p on) ∧ (∀ p, p < m → σ' (b + 9 + p) p = nI 0) ∧ ∀ c, c ≠ b + 3 → ¬ (b + 9 ≤ c ∧ c < b + 17) → σ' c = σ c := by
  have hn := hO.1
  obtain ⟨o1, o2, o3⟩ := hO.2 p hp
  obtain ⟨v1, v2, v3⟩ := hV.2 p hp
  have htw := zpc_one (tw p) o3 h1
  obtain ⟨w1, w2, hT2⟩ := hT.graft hn hp hon hne htw
  have w8 := zlo_lt (tw p) o3
  generalize zlo (tw p) = w at *
  obtain ⟨-, -, y3⟩ := hV.2 w w1
  obtain ⟨-, -, x3⟩ := hO.2 w w1
  have hlo : M_X5_leastOf (nI (tw p)) σ = some (nI w, σ) := by
    have e := leastX_ok o3 σ
    rw [htw] at e ⊢
    have key : ∀ k, k < 8 → zlo (2 ^ k) = k := by decide
    rw [key w w8] at e
    exact e
  obtain ⟨s1, hs1⟩ : ∃ s1, s1 = zsu σ (b + 3) (upd (upd (σ (b + 3)) w (nI (zdf (tw w) (2 ^ p)))) p (nI 0)) := ⟨_, rfl⟩
  have s10 : s1 b 0 = nI n := by rw [hs1, zsu_ne (by omega)]; exact hV.1
  have s1p : s1 (b + 3) p = nI 0 := by rw [hs1, zsu_eq, upd_eq]
  have s1q : ∀ q, q < n → q ≠ p → s1 (b + 3) q = nI (if q = w then zdf (tw q) (2 ^ p) else tw q) := by
    intro q hq hqp
    rw [hs1, zsu_eq, upd_ne hqp]
    by_cases e : q = w
    · rw [e, upd_eq, if_pos rfl]
    · rw [upd_ne e, if_neg e]; exact (hV.2 q hq).2.2
  have ht := tie_ok s10 hn hp hon hne s1p (s1q on hon (fun e => hne e.symm))
  rw [Nat.zero_or] at ht
  obtain ⟨s2, hs2⟩ : ∃ s2, s2 = zsu s1 (b + 3) (upd (upd (s1 (b + 3)) p (nI (2 ^ on))) on (nI ((if on = w then zdf (tw on) (2 ^ p) else tw on) ||| 2 ^ p))) := ⟨_, rfl⟩
  rw [← hs2] at ht
  have s2c : ∀ c, c ≠ b + 3 → s2 c = σ c := fun c hc => by rw [hs2, zsu_ne hc, hs1, zsu_ne hc]
  have s2t : ∀ q, q < n → s2 (b + 3) q = nI (ztw2 tw p w on q) := by
    intro q hq
    rw [hs2, zsu_eq]
    unfold ztw2
    by_cases e : q = on
    · rw [e, upd_eq, if_neg (show ¬ on = p from fun q => hne q.symm), if_pos (show on = on from rfl)]
    · rw [upd_ne e]
      by_cases f : q = p
      · rw [f, upd_eq, if_pos rfl]
      · rw [upd_ne f, if_neg f, if_neg e]
        exact s1q q hq f
  have zTc : ∀ c, ¬ (b + 9 ≤ c ∧ c < b + 17) → zT s2 b p on n c = s2 c := by
    intro c hc
    funext y
    unfold zT
    rw [if_neg (by omega), if_neg (by omega)]
  refine ⟨zT s2 b p on n, ?_, ⟨?_, fun q hq => ⟨?_, ?_, ?_⟩⟩, fun x hx y hy => ?_, fun q hq => ?_, fun c h1 h2 => ?_⟩
  · unfold M_X4_hangOn
    simp (disch := omega) only [↓reduceIte, ↓znm, ↓zbd_some, ↓zbv_some, ↓zga_in, ↓zgs_in, ↓zgr_in, zga_in, zgs_in, zgr_in, zgz_n0, zgz_n1, zlit, nI_add, pk_mul, pk_sub, znI_or, znI_and, znI_df, zon_ok, zbt_ok, zlt_t, zlt_f, zle_t, zle_f, zeq_f, v3, ↓zbd_of hlo, y3, zsu_eq, zsu_su, ← hs1, ↓zbv_of ht]
  · rw [zTc b (by omega), s2c b (by omega)]; exact hV.1
  · rw [zTc (b + 1) (by omega), s2c (b + 1) (by omega)]; exact (hV.2 q hq).1
  · rw [zTc (b + 2) (by omega), s2c (b + 2) (by omega)]; exact (hV.2 q hq).2.1
  · rw [zTc (b + 3) (by omega)]; exact s2t q hq
  · unfold zT zd2
    by_cases e : x = p
    · rw [if_pos e]
      by_cases f : y = p
      · rw [if_pos f, if_neg (by omega), if_neg (by omega), s2c _ (by omega), e, f]
        have := hA p hp p hp
        rw [hT.2.2.1 p hp] at this
        exact this
      · rw [if_neg f, if_pos (by omega), s2c _ (by omega), hA on hon y hy, nI_add]
    · rw [if_neg e]
      by_cases f : y = p
      · rw [if_pos f, if_neg (by omega), if_pos (by omega), s2c _ (by omega), show b + 9 + x - (b + 9) = x by omega, hA on hon x hx, nI_add]
      · rw [if_neg f, if_neg (by omega), if_neg (by omega), s2c _ (by omega)]
        exact hA x hx y hy
  · unfold zT
    rw [if_neg (by omega), if_neg (by omega), s2c _ (by omega)]
    exact hdg q hq
  · rw [zTc c h2, s2c c h1]
theorem hangOn_ok {σ : zSt} {b n : Nat} {kd ld tw : Nat → Nat} {d : Nat → Nat → Nat} (hV : zVX σ b n kd ld tw) (hO : zOK n kd ld tw) (hA : zAX σ b n d) (hdg : ∀ p, p < 8 → σ (b + 9 + p) p = nI 0) (hT : zTR (fun p => p < n) tw d) {p on : Nat} (hp : p < n) (hon : on < n) (hne : p ≠ on) (h1 : zpc (tw p) = 1) : ∃ σ', M_X4_hangOn b (nI p) (nI on) σ = some (nI (zlo (tw p)), σ') ∧ zVX σ' b n kd ld (ztw2 tw p (zlo (tw p)) on) ∧ zAX σ' b n (zd2 d p on) ∧ (∀ p, p < 8 → σ' (b + 9 + p) p = nI 0) ∧ ∀ c, c ≠ b + 3 → ¬ (b + 9 ≤ c ∧ c < b + 17) → σ' c = σ c := hangOn_gen (m := 8) (Nat.le_refl 8) hV hO hA hdg hT hp hon hne h1
theorem hangM_ok {τ : zSt} {n : Nat} {kd ld tw : Nat → Nat} (hV : zVM τ n kd ld tw) (hO : zOK n kd ld tw) {p w on : Nat} (hp : p < n) (hw : w < n) (hon : on < n) (hne : p ≠ on) (hwp : w ≠ p) (htw : tw p = 2 ^ w) : ∃ τ1 τ2, M_X6_unjoin (nI p) (nI w) τ = some τ1 ∧ M_X6_join (nI p) (nI on) τ1 = some τ2 ∧ zVM τ2 n kd ld (ztw2 tw p w on) ∧ ∀ c, c ≠ 4 → τ2 c = τ c := by
  have hn := hO.1
  have e1 : zdf (tw p) (2 ^ w) = 0 := by
    rw [htw]
    apply zfun_ext
    intro i
    rw [zdf_iff]
    simp
  obtain ⟨-, -, b1⟩ := hV.2 p hp
  obtain ⟨-, -, b2⟩ := hV.2 w hw
  obtain ⟨τ1, h1⟩ : ∃ τ1, τ1 = zsu τ 4 (upd (upd (τ 4) p (nI 0)) w (nI (zdf (tw w) (2 ^ p)))) := ⟨_, rfl⟩
  have t1p : τ1 4 p = nI 0 := by rw [h1, zsu_eq, upd_ne (fun e => hwp e.symm), upd_eq]
  have t1q : ∀ q, q < n → q ≠ p → τ1 4 q = nI (if q = w then zdf (tw q) (2 ^ p) else tw q) := by
    intro q hq hqp
    rw [h1, zsu_eq]
    by_cases e : q = w
    · rw [e, upd_eq, if_pos rfl]
    · rw [upd_ne e, upd_ne hqp, if_neg e]; exact (hV.2 q hq).2.2
  have t1on := t1q on hon (fun e => hne e.symm)
  obtain ⟨τ2, h2⟩ : ∃ τ2, τ2 = zsu τ1 4 (upd (upd (τ1 4) p (nI (2 ^ on))) on (nI ((if on = w then zdf (tw on) (2 ^ p) else tw on) ||| 2 ^ p))) := ⟨_, rfl⟩
  have t2c : ∀ c, c ≠ 4 → τ2 c = τ c := fun c hc => by rw [h2, zsu_ne hc, h1, zsu_ne hc]
  refine ⟨τ1, τ2, ?_, ?_, ⟨?_, fun q hq => ?_⟩, t2c⟩
  · have e2 : upd (τ 4) p (nI 0) w = nI (tw w) := by rw [upd_ne hwp]; exact b2
    unfold M_X6_unjoin
    simp (disch := omega) only [↓reduceIte, ↓znm, ↓zbd_some, ↓zbv_some, ↓zga_in, ↓zgs_in, ↓zgr_in, zga_in, zgs_in, zgr_in, zgz_n0, zgz_n1, zlit, nI_add, pk_mul, pk_sub, znI_or, znI_and, znI_df, zon_ok, zbt_ok, zlt_t, zlt_f, zle_t, zle_f, zeq_f, b1, e1, zsu_eq, e2, zsu_su, h1]
  · have e2 : upd (τ1 4) p (nI (2 ^ on)) on = nI (if on = w then zdf (tw on) (2 ^ p) else tw on) := by rw [upd_ne (fun e => hne e.symm)]; exact t1on
    unfold M_X6_join
    simp (disch := omega) only [↓reduceIte, ↓znm, ↓zbd_some, ↓zbv_some, ↓zga_in, ↓zgs_in, ↓zgr_in, zga_in, zgs_in, zgr_in, zgz_n0, zgz_n1, zlit, nI_add, pk_mul, pk_sub, znI_or, znI_and, znI_df, zon_ok, zbt_ok, zlt_t, zlt_f, zle_t, zle_f, zeq_f, t1p, Nat.zero_or, zsu_eq, e2, zsu_su, h2]
  · rw [t2c 0 (by decide)]; exact hV.1
  · rw [t2c 5 (by decide), t2c 6 (by decide)]
    refine ⟨(hV.2 q hq).1, (hV.2 q hq).2.1, ?_⟩
    rw [h2, zsu_eq]
    unfold ztw2
    by_cases e : q = on
    · rw [e, upd_eq, if_neg (show ¬ on = p from fun q => hne q.symm), if_pos (show on = on from rfl)]
    · rw [upd_ne e]
      by_cases f : q = p
      · rw [f, upd_eq, if_pos rfl]
      · rw [upd_ne f, if_neg f, if_neg e]
        exact t1q q hq f
theorem sim_graft (p1 p2 : Int32) : zSim (M_X5_graft p1 p2) (M_X6_graft p1 p2) := by
  intro σ τ h
  obtain ⟨⟨n, kd, ld, tw, d, hV, hR⟩, hS, hI, hd⟩ := id h
  obtain ⟨h1, h2, h3, h4, h5, h6⟩ := hV
  have hn := h3.1
  unfold M_X5_graft M_X6_graft
  rcases zpost p1 hn with hp | ⟨a, ha, rfl⟩
  · refine ⟨-nI 1, σ, τ, ?_, ?_, h⟩
    · simp (disch := omega) only [↓reduceIte, ↓znm, ↓zbd_some, ↓zbv_some, ↓zga_in, ↓zgs_in, ↓zgr_in, zga_in, zgs_in, zgr_in, zgz_n0, zgz_n1, zlit, nI_add, pk_mul, pk_sub, znI_or, znI_and, znI_df, zon_ok, zbt_ok, zlt_t, zlt_f, zle_t, zle_f, zeq_f, ↓zbd_of (isPostX_no h1.1 hp)]
    · simp (disch := omega) only [↓reduceIte, ↓znm, ↓zbd_some, ↓zbv_some, ↓zga_in, ↓zgs_in, ↓zgr_in, zga_in, zgs_in, zgr_in, zgz_n0, zgz_n1, zlit, nI_add, pk_mul, pk_sub, znI_or, znI_and, znI_df, zon_ok, zbt_ok, zlt_t, zlt_f, zle_t, zle_f, zeq_f, ↓zbd_of (areTwo_no1 h2.1 hp p2)]
  have u1 := isPostX_yes h1.1 hn ha
  rcases zpost p2 hn with hp | ⟨b, hb, rfl⟩
  · refine ⟨-nI 1, σ, τ, ?_, ?_, h⟩
    · simp (disch := omega) only [↓reduceIte, ↓znm, ↓zbd_some, ↓zbv_some, ↓zga_in, ↓zgs_in, ↓zgr_in, zga_in, zgs_in, zgr_in, zgz_n0, zgz_n1, zlit, nI_add, pk_mul, pk_sub, znI_or, znI_and, znI_df, zon_ok, zbt_ok, zlt_t, zlt_f, zle_t, zle_f, zeq_f, ↓zbd_of u1, ↓zbd_of (isPostX_no h1.1 hp)]
    · simp (disch := omega) only [↓reduceIte, ↓znm, ↓zbd_some, ↓zbv_some, ↓zga_in, ↓zgs_in, ↓zgr_in, zga_in, zgs_in, zgr_in, zgz_n0, zgz_n1, zlit, nI_add, pk_mul, pk_sub, znI_or, znI_and, znI_df, zon_ok, zbt_ok, zlt_t, zlt_f, zle_t, zle_f, zeq_f, ↓zbd_of (areTwo_no2 h2.1 hn ha hp)]
  have w1 := isPostX_yes h1.1 hn hb
  have u2 := areTwo_ok h2.1 hn ha hb
  by_cases hab : a = b
  · subst hab
    rw [if_pos rfl] at u2
    refine ⟨-nI 1, σ, τ, ?_, ?_, h⟩
    · simp (disch := omega) only [↓reduceIte, ↓znm, ↓zbd_some, ↓zbv_some, ↓zga_in, ↓zgs_in, ↓zgr_in, zga_in, zgs_in, zgr_in, zgz_n0, zgz_n1, zlit, nI_add, pk_mul, pk_sub, znI_or, znI_and, znI_df, zon_ok, zbt_ok, zlt_t, zlt_f, zle_t, zle_f, zeq_f, ↓zbd_of u1]
    · simp (disch := omega) only [↓reduceIte, ↓znm, ↓zbd_some, ↓zbv_some, ↓zga_in, ↓zgs_in, ↓zgr_in, zga_in, zgs_in, zgr_in, zgz_n0, zgz_n1, zlit, nI_add, pk_mul, pk_sub, znI_or, znI_and, znI_df, zon_ok, zbt_ok, zlt_t, zlt_f, zle_t, zle_f, zeq_f, ↓zbd_of u2]
  rw [if_neg hab] at u2
  obtain ⟨v1, v2, v3⟩ := h2.2 a ha
  obtain ⟨o1, o2, o3⟩ := h3.2 a ha
  have ie := isEndX_ok h1 h3 ha
  have b8 := zpc_le (tw a)
  by_cases hpc : zpc (tw a) = 1
  · rw [if_pos hpc] at ie
    have htw := zpc_one (tw a) o3 hpc
    obtain ⟨q1, q2, hT2⟩ := h6.graft hn ha hb hab htw
    have hO2 := h3.graft (w := zlo (tw a)) ha hb
    -- the class, with its graft counted first
    have k1 : zVX (zsu σ 0 (upd (σ 0) 5 (σ 0 5 + nI 1))) 10 n kd ld tw := by
      refine ⟨by rw [zsu_ne (by decide)]; exact h1.1, fun p hp => ?_⟩
      rw [zsu_ne (show 10 + 1 ≠ 0 by decide), zsu_ne (show 10 + 2 ≠ 0 by decide), zsu_ne (show 10 + 3 ≠ 0 by decide)]
      exact h1.2 p hp
    have k2 : zAX (zsu σ 0 (upd (σ 0) 5 (σ 0 5 + nI 1))) 10 n d := fun p hp q hq => by rw [zsu_ne (by omega)]; exact h4 p hp q hq
    obtain ⟨σ', r1, r2, r3, r4, r5⟩ := hangOn_ok k1 h3 k2 (fun p hp => by rw [zsu_ne (by omega)]; exact hd p hp) h6 ha hb hab hpc
    obtain ⟨τ1, τ2, s1, s2, s3, s4⟩ := hangM_ok h2 h3 ha q1 hb hab q2 htw
    have hne0 : tw a ≠ 0 := fun e => by rw [e, zpc_0] at hpc; omega
    refine ⟨nI (zlo (tw a)), σ', zsu τ2 0 (upd (τ2 0) 6 (τ2 0 6 + nI 1)), ?_, ?_, ?_⟩
    · simp (disch := omega) only [↓reduceIte, ↓znm, ↓zbd_some, ↓zbv_some, ↓zga_in, ↓zgs_in, ↓zgr_in, zga_in, zgs_in, zgr_in, zgz_n0, zgz_n1, zlit, nI_add, pk_mul, pk_sub, znI_or, znI_and, znI_df, zon_ok, zbt_ok, zlt_t, zlt_f, zle_t, zle_f, zeq_f, ↓zbd_of u1, ↓zbd_of w1, hab, ↓zbd_of ie, ↓zbd_of r1]
    · simp (disch := omega) only [↓reduceIte, ↓znm, ↓zbd_some, ↓zbv_some, ↓zga_in, ↓zgs_in, ↓zgr_in, zga_in, zgs_in, zgr_in, zgz_n0, zgz_n1, zlit, nI_add, pk_mul, pk_sub, znI_or, znI_and, znI_df, zon_ok, zbt_ok, zlt_t, zlt_f, zle_t, zle_f, zeq_f, ↓zbd_of u2, v3, ↓zbd_of (size_ok o3 τ), hpc, ↓zbd_of (leastM_ok o3 hne0 τ), ↓zbv_of s1, ↓zbv_of s2]
    · refine ⟨⟨n, kd, ld, ztw2 tw a (zlo (tw a)) b, zd2 d a b, ⟨r2, ⟨?_, fun p hp => ?_⟩, hO2, r3, h5, hT2⟩, ?_⟩, ?_, ?_, r4⟩
      · rw [zsu_eq, upd_ne (by decide)]; exact s3.1
      · rw [zsu_ne (show 5 ≠ 0 by decide), zsu_ne (show 6 ≠ 0 by decide), zsu_ne (show 4 ≠ 0 by decide)]
        exact s3.2 p hp
      · obtain ⟨c, c1, c2, c3, c4⟩ := hR
        refine ⟨c, c1, ?_, ?_, fun i hi => ?_⟩
        · rw [r5 47 (by decide) (by decide), zsu_ne (by decide)]; exact c2
        · rw [zsu_eq, upd_ne (by decide), s4 0 (by decide)]; exact c3
        · have := c4 i hi
          rw [r5 48 (by decide) (by decide), r5 49 (by decide) (by decide), r5 50 (by decide) (by decide), zsu_ne (show 48 ≠ 0 by decide), zsu_ne (show 49 ≠ 0 by decide), zsu_ne (show 50 ≠ 0 by decide), zsu_ne (show 18 ≠ 0 by decide), zsu_ne (show 19 ≠ 0 by decide), zsu_ne (show 20 ≠ 0 by decide), s4 18 (by decide), s4 19 (by decide), s4 20 (by decide)]
          exact this
      · intro i hi
        have := hS i hi
        unfold zR1 at this ⊢
        rw [r5 (2 + i) (by omega) (by omega), r5 (6 + i) (by omega) (by omega), zsu_ne (show 2 + i ≠ 0 by omega), zsu_ne (show 6 + i ≠ 0 by omega), zsu_ne (show 1 ≠ 0 by decide), zsu_ne (show 2 ≠ 0 by decide), zsu_ne (show 3 ≠ 0 by decide), s4 1 (by decide), s4 2 (by decide), s4 3 (by decide)]
        exact this
      · obtain ⟨i1, i2, i3⟩ := hI
        refine ⟨?_, ?_, ?_⟩
        · rw [r5 0 (by decide) (by decide), zsu_eq, upd_eq, zsu_eq, upd_eq, s4 0 (by decide), i1]
        · rw [r5 0 (by decide) (by decide), zsu_eq, upd_ne (by decide), zsu_eq, upd_ne (by decide), s4 0 (by decide)]; exact i2
        · rw [r5 0 (by decide) (by decide), zsu_eq, upd_ne (by decide), zsu_eq, upd_ne (by decide), s4 0 (by decide)]; exact i3
  · rw [if_neg hpc] at ie
    refine ⟨-nI 3, σ, τ, ?_, ?_, h⟩
    · simp (disch := omega) only [↓reduceIte, ↓znm, ↓zbd_some, ↓zbv_some, ↓zga_in, ↓zgs_in, ↓zgr_in, zga_in, zgs_in, zgr_in, zgz_n0, zgz_n1, zlit, nI_add, pk_mul, pk_sub, znI_or, znI_and, znI_df, zon_ok, zbt_ok, zlt_t, zlt_f, zle_t, zle_f, zeq_f, ↓zbd_of u1, ↓zbd_of w1, hab, ↓zbd_of ie]
    · simp (disch := omega) only [↓reduceIte, ↓znm, ↓zbd_some, ↓zbv_some, ↓zga_in, ↓zgs_in, ↓zgr_in, zga_in, zgs_in, zgr_in, zgz_n0, zgz_n1, zlit, nI_add, pk_mul, pk_sub, znI_or, znI_and, znI_df, zon_ok, zbt_ok, zlt_t, zlt_f, zle_t, zle_f, zeq_f, ↓zbd_of u2, v3, ↓zbd_of (size_ok o3 τ), hpc]
