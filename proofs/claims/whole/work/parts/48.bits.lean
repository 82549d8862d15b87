/-! PURE: bits of 16 -/
def zbcN (m : Nat) : Nat :=
  let x1 := m - ((m / 2 ^ 1) &&& 1431655765)
  let x2 := (x1 &&& 858993459) + ((x1 / 2 ^ 2) &&& 858993459)
  let x3 := (x2 + x2 / 2 ^ 4) &&& 252645135
  let x4 := x3 + x3 / 2 ^ 8
  let x5 := x4 + x4 / 2 ^ 16
  x5 &&& 63
theorem zbcN_ok {m : Nat} (h : m < 16384) : zbcf (nI m) = nI (zbcN m) := by
  unfold zbcf zbcN
  dsimp only
  have us : ∀ (n : Nat) (s : Int32) (k : Nat), n < 2 ^ 32 → ((s.toUInt32 &&& Int32.toUInt32 31).toBitVec % 32).toNat = k → ((nI n).toUInt32 >>> (s.toUInt32 &&& Int32.toUInt32 31)).toInt32 = nI (n / 2 ^ k) := fun n s k h1 h2 => pk_ushrN h1 s k h2
  have l1 : (m / 2 ^ 1) &&& 1431655765 ≤ m / 2 ^ 1 := Nat.and_le_left
  rw [us m 1 1 (by omega) (by decide), show (1431655765 : Int32) = nI 1431655765 from rfl, znI_and, pk_sub (by omega)]
  have b1 : m - (m / 2 ^ 1 &&& 1431655765) < 16384 := by omega
  generalize m - (m / 2 ^ 1 &&& 1431655765) = x1 at *
  have l2 : (x1 / 2 ^ 2) &&& 858993459 ≤ x1 / 2 ^ 2 := Nat.and_le_left
  have l3 : x1 &&& 858993459 ≤ x1 := Nat.and_le_left
  rw [us x1 2 2 (by omega) (by decide), show (858993459 : Int32) = nI 858993459 from rfl, znI_and, znI_and, nI_add]
  have b2 : (x1 &&& 858993459) + (x1 / 2 ^ 2 &&& 858993459) < 65536 := by omega
  generalize (x1 &&& 858993459) + (x1 / 2 ^ 2 &&& 858993459) = x2 at *
  rw [us x2 4 4 (by omega) (by decide), show (252645135 : Int32) = nI 252645135 from rfl, nI_add, znI_and]
  have b3 : (x2 + x2 / 2 ^ 4) &&& 252645135 ≤ x2 + x2 / 2 ^ 4 := Nat.and_le_left
  generalize (x2 + x2 / 2 ^ 4) &&& 252645135 = x3 at *
  have b4 : x3 < 200000 := by omega
  rw [us x3 8 8 (by omega) (by decide), nI_add]
  have b5 : x3 + x3 / 2 ^ 8 < 1000000 := by omega
  generalize x3 + x3 / 2 ^ 8 = x4 at *
  rw [us x4 16 16 (by omega) (by decide), nI_add, show (63 : Int32) = nI 63 from rfl, znI_and]
def zpq (m : Nat) : Nat := m / 1 % 2 + m / 2 % 2 + m / 4 % 2 + m / 8 % 2 + m / 16 % 2 + m / 32 % 2 + m / 64 % 2 + m / 128 % 2 + m / 256 % 2 + m / 512 % 2 + m / 1024 % 2 + m / 2048 % 2 + m / 4096 % 2 + m / 8192 % 2 + m / 16384 % 2 + m / 32768 % 2
theorem zbi_dm (m i : Nat) : zbi m i = m / 2 ^ i % 2 := by
  unfold zbi
  rw [Nat.testBit_eq_decide_div_mod_eq]
  rcases Nat.mod_two_eq_zero_or_one (m / 2 ^ i) with e | e <;> simp [e]
theorem zpq_ok (m : Nat) : zpk m = zpq m := by
  unfold zpk zon2 zpq
  simp only [zsum, zbi_dm]
  simp only [Nat.reducePow, Nat.zero_add]
theorem zbcf_a : ∀ a, a < 128 → ∀ b, b < 128 → Nat.beq (zbcN (128 * a + b)) (zpq (128 * a + b)) = true := by decide +kernel
theorem zbcf_16 {m : Nat} (h : m < 16384) : zbcf (nI m) = nI (zpk m) := by
  rw [zbcN_ok h, zpq_ok]
  congr 1
  have := zbcf_a (m / 128) (by omega) (m % 128) (by omega)
  rw [show 128 * (m / 128) + m % 128 = m by omega] at this
  exact Nat.eq_of_beq_eq_true this
theorem bitCount_16 {m : Nat} (h : m < 16384) (σ : zSt) : M_J6_bitCount_0f7a4 (nI m) σ = some (nI (zpk m), σ) := by
  rw [← zbcf_16 h]; rfl
theorem znI_shl (a : Nat) {k : Nat} (h : k < 31) : nI a <<< (nI k &&& 31) = nI (2 ^ k * a) := by
  have key : ∀ k, k < 31 → ((nI k &&& 31).toBitVec.smod 32).toNat = k := by decide +kernel
  have e : (nI a <<< (nI k &&& 31)).toBitVec = (nI a).toBitVec <<< k := by
    show (nI a).toBitVec <<< ((nI k &&& 31).toBitVec.smod 32) = _
    rw [BitVec.shiftLeft_eq', key k h]
  apply Int32.toBitVec_inj.mp
  rw [e]
  have h2 : ∀ n : Nat, (nI n).toBitVec = BitVec.ofNat 32 n := fun n => by simp [nI, Int32.toBitVec_ofNat']
  rw [h2, h2]
  apply BitVec.eq_of_toNat_eq
  rw [BitVec.toNat_shiftLeft, BitVec.toNat_ofNat, BitVec.toNat_ofNat, Nat.shiftLeft_eq, Nat.mul_comm]
  rw [Nat.mul_mod, Nat.mod_mod, ← Nat.mul_mod]
