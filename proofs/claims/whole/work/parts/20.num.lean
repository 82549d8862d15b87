/-! PURE: numbers, masks, loops -/
theorem zlit (n : Nat) : (OfNat.ofNat n : Int32) = nI n := rfl
theorem zloop_succ {α β : Type} {F : (α → Option β) → α → Option β} {n : Nat} {x : α} : zloop F (n + 1) x = F (zloop F n) x := rfl
/-- a loop by its trajectory: steps while i < N, then its end -/
theorem zloop_go {α β : Type} {F : (α → Option β) → α → Option β} {st : Nat → α} {N : Nat} {res : Option β} (hstep : ∀ rec i, i < N → F rec (st i) = rec (st (i + 1))) (hexit : ∀ rec, F rec (st N) = res) : ∀ (n i : Nat), i ≤ N → N - i < n → zloop F n (st i) = res
  | 0, i, _, h => by omega
  | n + 1, i, hi, h => by
    show F (zloop F n) (st i) = res
    by_cases e : i = N
    · subst e
      exact hexit _
    · rw [hstep _ i (by omega)]
      exact zloop_go hstep hexit n (i + 1) (by omega) (by omega)
theorem zloop_for {α β : Type} {F : (α → Option β) → α → Option β} (st : Nat → α) (N : Nat) {res : Option β} {x : α} (hx : x = st 0) (hN : N < 100000) (hstep : ∀ rec i, i < N → F rec (st i) = rec (st (i + 1))) (hexit : ∀ rec, F rec (st N) = res) : zloop F zFU x = res := by
  rw [hx]
  exact zloop_go hstep hexit zFU 0 (Nat.zero_le _) (by have := zFU_ge; omega)
/-- a loop by an invariant and a number that falls -/
theorem zloop_inv {α β : Type} {F : (α → Option β) → α → Option β} {I : α → Prop} {μ : α → Nat} {res : Option β} (hs : ∀ rec x, I x → (∀ y, I y → μ y < μ x → rec y = res) → F rec x = res) : ∀ (n : Nat) (x : α), I x → μ x < n → zloop F n x = res
  | 0, x, _, h => by omega
  | n + 1, x, hx, h => hs _ x hx (fun y hy hm => zloop_inv hs n y hy (by omega))
theorem zsu_eq {σ : zSt} {i : Nat} {φ : Nat → Int32} : zsu σ i φ i = φ := if_pos rfl
theorem zsu_ne {σ : zSt} {i j : Nat} {φ : Nat → Int32} (h : j ≠ i) : zsu σ i φ j = σ j := if_neg h
theorem upd_eq {f : Nat → Int32} {k : Nat} {x : Int32} : upd f k x k = x := if_pos rfl
theorem upd_ne {f : Nat → Int32} {k j : Nat} {x : Int32} (h : j ≠ k) : upd f k x j = f j := if_neg h
theorem zga_in {β : Type} {φ : Nat → Int32} {k n : Nat} {K : Int32 → Option β} (h : k < n) (hn : n ≤ 240) : zga φ (nI k) n K = K (φ k) := by
  unfold zga
  rw [nI_clamp (by omega), if_pos ⟨nI_pos' (by omega), h⟩]
theorem zgs_in {β : Type} {σ : zSt} {i k n : Nat} {v : Int32} {K : zSt → Option β} (h : k < n) (hn : n ≤ 240) : zgs σ i (nI k) n v K = K (zsu σ i (upd (σ i) k v)) := by
  unfold zgs
  rw [nI_clamp (by omega), if_pos ⟨nI_pos' (by omega), h⟩]
theorem zgr_in {β : Type} {k n off : Nat} {K : Nat → Option β} (h : k < n) (hn : n ≤ 240) : zgr (nI k) n off K = K (off + k) := by
  unfold zgr
  rw [nI_clamp (by omega), if_pos ⟨nI_pos' (by omega), h⟩]
theorem zbd_some {α β : Type} {r : α} {σ : zSt} {K : α → zSt → Option β} : zbd (some (r, σ)) K = K r σ := rfl
theorem zbv_some {β : Type} {σ : zSt} {K : zSt → Option β} : zbv (some σ) K = K σ := rfl
theorem zgz_n0 {σ : zSt} : zgz (nI 0) σ = some (nI 0, σ) := rfl
theorem zgz_n1 {σ : zSt} : zgz (nI 1) σ = some (nI 1, σ) := rfl
/-! masks of 8 -/
def zpc (m : Nat) : Nat := (List.range 8).countP (fun i => m.testBit i)
def zlo (m : Nat) : Nat := ((List.range 8).find? (fun i => m.testBit i)).getD 0
def zdf (a b : Nat) : Nat := a ^^^ (a &&& b)
theorem zdf_bit (a b i : Nat) : (zdf a b).testBit i = (a.testBit i && !b.testBit i) := by
  simp only [zdf, Nat.testBit_xor, Nat.testBit_and]
  cases a.testBit i <;> cases b.testBit i <;> rfl
theorem zdf_le (a b : Nat) : zdf a b ≤ a := by
  apply Nat.le_of_testBit
  intro i h
  rw [zdf_bit] at h
  exact (Bool.and_eq_true_iff.mp h).1
theorem znI_and (a b : Nat) : nI a &&& nI b = nI (a &&& b) := by
  show Int32.ofNat a &&& Int32.ofNat b = Int32.ofNat (a &&& b)
  apply Int32.toBitVec_inj.mp
  simp [Int32.toBitVec_and, Int32.toBitVec_ofNat']
theorem znI_or (a b : Nat) : nI a ||| nI b = nI (a ||| b) := by
  show Int32.ofNat a ||| Int32.ofNat b = Int32.ofNat (a ||| b)
  apply Int32.toBitVec_inj.mp
  simp [Int32.toBitVec_or, Int32.toBitVec_ofNat']
theorem znI_df (a b : Nat) : nI a &&& znt (nI b) = nI (zdf a b) := by
  unfold znt
  apply Int32.toBitVec_inj.mp
  apply BitVec.eq_of_getLsbD_eq
  intro i hi
  have h1 : (-1 : Int32).toBitVec = BitVec.allOnes 32 := rfl
  have h2 : ∀ n : Nat, (nI n).toBitVec = BitVec.ofNat 32 n := fun n => by simp [nI, Int32.toBitVec_ofNat']
  simp only [Int32.toBitVec_and, Int32.toBitVec_xor, h1, h2, BitVec.getLsbD_and, BitVec.getLsbD_xor, BitVec.getLsbD_ofNat, BitVec.getLsbD_allOnes, hi, decide_true, Bool.true_and, zdf_bit, Bool.xor_true]
theorem zon_ok {k : Nat} (h : k < 31) : zon (nI k) = nI (2 ^ k) := by
  have key : ∀ k, k < 31 → zon (nI k) = nI (2 ^ k) := by decide +kernel
  exact key k h
theorem znI_shr (m : Nat) (hm : m < 2147483648) {k : Nat} (h : k < 31) : nI m >>> (nI k &&& 31) = nI (m / 2 ^ k) := by
  have key : ∀ k, k < 31 → ((nI k &&& 31).toBitVec.smod 32).toNat = k := by decide +kernel
  exact pk_shrN hm _ k (key k h)
theorem zbt_ok {m k : Nat} (hm : m < 2147483648) (h : k < 31) : zbt (nI m) (nI k) = nI (if m.testBit k = true then 1 else 0) := by
  unfold zbt
  rw [znI_shr m hm h, show (1 : Int32) = nI 1 from rfl, znI_and]
  congr 1
  rw [Nat.and_one_is_mod, Nat.testBit_eq_decide_div_mod_eq]
  by_cases e : m / 2 ^ k % 2 = 1
  · simp [e]
  · have : m / 2 ^ k % 2 = 0 := by omega
    simp [this]
theorem zpc_step : ∀ m, m < 256 → zpc m = m % 2 + zpc (m / 2) := by decide +kernel
theorem zpc_0 : zpc 0 = 0 := by decide
theorem zlo_bit : ∀ m, m < 256 → m ≠ 0 → m.testBit (zlo m) = true ∧ zlo m < 8 ∧ ∀ j, j < zlo m → m.testBit j = false := by decide +kernel
theorem zlo_lt (m : Nat) (h : m < 256) : zlo m < 8 := by
  have key : ∀ m, m < 256 → zlo m < 8 := by decide +kernel
  exact key m h
theorem zpc_le (m : Nat) : zpc m ≤ 8 := by
  have := List.countP_le_length (p := fun i => m.testBit i) (l := List.range 8)
  simpa [zpc] using this
/-! comparisons with literals: all to Nat -/
theorem zlt {a b : Nat} (ha : a < 2147483648) (hb : b < 2147483648) : (nI a < nI b) = (a < b) := propext (nI_ltI ha hb)
theorem zleI {a b : Nat} (ha : a < 2147483648) (hb : b < 2147483648) : (nI a ≤ nI b) = (a ≤ b) := propext (nI_leI ha hb)
theorem zeqI {a b : Nat} (ha : a < 2147483648) (hb : b < 2147483648) : (nI a = nI b) = (a = b) := propext (nI_eq ha hb)
theorem zneg_ne {a b : Nat} (ha : a < 2 ^ 31) (h0 : 0 < b) (hb : b < 2 ^ 31) : ¬ nI a = -nI b := by
  intro h
  have h1 := congrArg Int32.toInt h
  rw [nI_toInt ha, sb_negT hb] at h1
  omega
/-- an int is below 0, or from n on, or a number below n -/
theorem zix (x : Int32) {n : Nat} (hn : n < 2 ^ 31) : x < 0 ∨ nI n ≤ x ∨ ∃ j : Nat, j < n ∧ x = nI j := pk_ix x hn
/-! an int against numbers: below 0, or from m on -/
theorem zneg_lt {x : Int32} (h : x < 0) (k : Nat) (hk : k < 2147483648) : (x < nI k) = True := by
  refine eq_true ?_
  rw [Int32.lt_iff_toInt_lt] at h ⊢
  rw [nI_toInt hk]
  have : (0 : Int32).toInt = 0 := rfl
  omega
theorem zneg_le {x : Int32} (h : x < 0) (k : Nat) (hk : k < 2147483648) : (x ≤ nI k) = True := by
  refine eq_true ?_
  rw [Int32.lt_iff_toInt_lt] at h
  rw [Int32.le_iff_toInt_le, nI_toInt hk]
  have : (0 : Int32).toInt = 0 := rfl
  omega
theorem zneg_gt {x : Int32} (h : x < 0) (k : Nat) (hk : k < 2147483648) : (nI k < x) = False := by
  refine eq_false (fun q => ?_)
  rw [Int32.lt_iff_toInt_lt] at h q
  rw [nI_toInt hk] at q
  have : (0 : Int32).toInt = 0 := rfl
  omega
theorem zneg_ge {x : Int32} (h : x < 0) (k : Nat) (hk : k < 2147483648) : (nI k ≤ x) = False := by
  refine eq_false (fun q => ?_)
  rw [Int32.lt_iff_toInt_lt] at h
  rw [Int32.le_iff_toInt_le, nI_toInt hk] at q
  have : (0 : Int32).toInt = 0 := rfl
  omega
theorem zneg_eq {x : Int32} (h : x < 0) (k : Nat) (hk : k < 2147483648) : (x = nI k) = False := by
  refine eq_false (fun q => ?_)
  rw [q] at h
  exact nI_pos hk h
theorem zbig_lt {x : Int32} {m : Nat} (hm : m < 2147483648) (h : nI m ≤ x) (k : Nat) (hk : k ≤ m) : (x < nI k) = False := by
  refine eq_false (fun q => ?_)
  rw [Int32.le_iff_toInt_le, nI_toInt hm] at h
  rw [Int32.lt_iff_toInt_lt, nI_toInt (by omega)] at q
  omega
theorem zbig_le {x : Int32} {m : Nat} (hm : m < 2147483648) (h : nI m ≤ x) (k : Nat) (hk : k < m) : (x ≤ nI k) = False := by
  refine eq_false (fun q => ?_)
  rw [Int32.le_iff_toInt_le, nI_toInt hm] at h
  rw [Int32.le_iff_toInt_le, nI_toInt (by omega)] at q
  omega
theorem zbig_gt {x : Int32} {m : Nat} (hm : m < 2147483648) (h : nI m ≤ x) (k : Nat) (hk : k < m) : (nI k < x) = True := by
  refine eq_true ?_
  rw [Int32.le_iff_toInt_le, nI_toInt hm] at h
  rw [Int32.lt_iff_toInt_lt, nI_toInt (by omega)]
  omega
theorem zbig_ge {x : Int32} {m : Nat} (hm : m < 2147483648) (h : nI m ≤ x) (k : Nat) (hk : k ≤ m) : (nI k ≤ x) = True := by
  refine eq_true ?_
  rw [Int32.le_iff_toInt_le, nI_toInt hm] at h
  rw [Int32.le_iff_toInt_le, nI_toInt (by omega)]
  omega
theorem zbig_eq {x : Int32} {m : Nat} (hm : m < 2147483648) (h : nI m ≤ x) (k : Nat) (hk : k < m) : (x = nI k) = False := by
  refine eq_false (fun q => ?_)
  rw [q, Int32.le_iff_toInt_le, nI_toInt hm, nI_toInt (by omega)] at h
  omega
theorem zlt_t {a b : Nat} (h : a < b) (hb : b < 2147483648) : (nI a < nI b) = True := eq_true (nI_lt h hb)
theorem zlt_f {a b : Nat} (h : b ≤ a) (ha : a < 2147483648) : (nI a < nI b) = False := eq_false (nI_nlt h ha)
theorem zle_t {a b : Nat} (h : a ≤ b) (hb : b < 2147483648) : (nI a ≤ nI b) = True := eq_true (nI_le h hb)
theorem zle_f {a b : Nat} (h : b < a) (ha : a < 2147483648) : (nI a ≤ nI b) = False := eq_false (nI_ge h ha)
theorem zeq_f {a b : Nat} (h : a ≠ b) (ha : a < 2147483648) (hb : b < 2147483648) : (nI a = nI b) = False := eq_false (fun q => h ((nI_eq ha hb).mp q))
theorem zbd_of {α β : Type} {mo : Option (α × zSt)} {r : α} {σ : zSt} (h : mo = some (r, σ)) {K : α → zSt → Option β} : zbd mo K = K r σ := by rw [h]; rfl
theorem zbv_of {β : Type} {mo : Option zSt} {σ : zSt} (h : mo = some σ) {K : zSt → Option β} : zbv mo K = K σ := by rw [h]; rfl
