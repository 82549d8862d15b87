/-! THE TWO WORLDS. X: 0 the object; 1 sheets; 2..5 Sheet, 6..9 its cells; 10 now, 27 trial (b): b+1 kinds, b+2 loads, b+3 twigs, b+4 away, b+5 taken, b+6 hung, b+7 with, b+8 without, b+9.. rows of away; 44 Shape, 45 signs, 46 below; 47 Readings, 48 starts, 49 goals, 50 values. M: 0 the reference; 1.. its arrays -/
def ztys (cI cO cA : ClassId) : List (ClassId × FieldType) := [(cI, .int), (cO, .object "VineRows$Sheet"), (cA, .array .int)]
def fX (a : Nat → Nat) (cI cO cA : ClassId) (i : Nat) (φ : Nat → Int32) : va_E :=
  if i = 0 then .inr (4, [.ref (a 10), .ref (a 27), .ref (a 44), .ref (a 47), .ref (a 1), .int (φ 5), .int (φ 6), .int (φ 7)])
  else if i = 1 then .inl (cO, 4, .inr (.inr (.inr (.inr (fun j => some (a (2 + j)))))))
  else if i < 6 then .inr (2, [.ref (a (i + 4)), .int (φ 1), .int (φ 2)])
  else if i < 10 then .inl (cI, 60, .inl φ)
  else if i = 10 ∨ i = 27 then .inr (3, [.int (φ 0), .ref (a (i + 1)), .ref (a (i + 2)), .ref (a (i + 3)), .ref (a (i + 4)), .ref (a (i + 5)), .ref (a (i + 6)), .ref (a (i + 7)), .ref (a (i + 8))])
  else if i = 14 ∨ i = 31 then .inl (cA, 8, .inr (.inr (.inr (.inr (fun j => some (a (i + 5 + j)))))))
  else if i = 44 then .inr (1, [.ref (a 45), .ref (a 46), .int (φ 2)])
  else if i = 47 then .inr (0, [.int (φ 0), .ref (a 48), .ref (a 49), .ref (a 50)])
  else .inl (cI, 8, .inl φ)
def zmlen (i : Nat) : Nat := ([0, 4, 4, 240, 8, 8, 8, 6, 8, 8, 64, 6, 8, 8, 8, 8, 7, 7, 8, 8, 8] : List Nat).getD i 0
def fM (a : Nat → Nat) (cI : ClassId) (i : Nat) (φ : Nat → Int32) : va_E :=
  if i = 0 then .inr (5, [.int (φ 0), .int (φ 1), .ref (a 1), .ref (a 2), .ref (a 3), .int (φ 5), .int (φ 6), .ref (a 4), .ref (a 5), .ref (a 6), .int (φ 10), .int (φ 11), .ref (a 7), .ref (a 8), .ref (a 9), .ref (a 10), .ref (a 11), .ref (a 12), .ref (a 13), .ref (a 14), .ref (a 15), .ref (a 16), .ref (a 17), .int (φ 23), .ref (a 18), .ref (a 19), .ref (a 20)])
  else .inl (cI, zmlen i, .inl φ)
section ZF
variable {a : Nat → Nat} {cI cO cA : ClassId} {φ : Nat → Int32}
theorem fX_0 : fX a cI cO cA 0 φ = .inr (4, [.ref (a 10), .ref (a 27), .ref (a 44), .ref (a 47), .ref (a 1), .int (φ 5), .int (φ 6), .int (φ 7)]) := rfl
theorem fX_sheet {q : Nat} (h : 2 ≤ q ∧ q < 6) : fX a cI cO cA q φ = .inr (2, [.ref (a (q + 4)), .int (φ 1), .int (φ 2)]) := by unfold fX; rw [if_neg (by omega), if_neg (by omega), if_pos (by omega)]
theorem fX_vine {b : Nat} (h : b = 10 ∨ b = 27) : fX a cI cO cA b φ = .inr (3, [.int (φ 0), .ref (a (b + 1)), .ref (a (b + 2)), .ref (a (b + 3)), .ref (a (b + 4)), .ref (a (b + 5)), .ref (a (b + 6)), .ref (a (b + 7)), .ref (a (b + 8))]) := by rcases h with rfl | rfl <;> rfl
theorem fX_44 : fX a cI cO cA 44 φ = .inr (1, [.ref (a 45), .ref (a 46), .int (φ 2)]) := rfl
theorem fX_47 : fX a cI cO cA 47 φ = .inr (0, [.int (φ 0), .ref (a 48), .ref (a 49), .ref (a 50)]) := rfl
theorem fM_0 : fM a cI 0 φ = .inr (5, [.int (φ 0), .int (φ 1), .ref (a 1), .ref (a 2), .ref (a 3), .int (φ 5), .int (φ 6), .ref (a 4), .ref (a 5), .ref (a 6), .int (φ 10), .int (φ 11), .ref (a 7), .ref (a 8), .ref (a 9), .ref (a 10), .ref (a 11), .ref (a 12), .ref (a 13), .ref (a 14), .ref (a 15), .ref (a 16), .ref (a 17), .int (φ 23), .ref (a 18), .ref (a 19), .ref (a 20)]) := rfl
theorem aX_cells {q : Nat} (h : 2 ≤ q ∧ q < 6) : zA 51 (fX a cI cO cA) cI (q + 4) 60 := ⟨by omega, fun φ => by unfold fX; rw [if_neg (by omega), if_neg (by omega), if_neg (by omega), if_pos (by omega)]⟩
theorem aX_v1 {b : Nat} (h : b = 10 ∨ b = 27) : zA 51 (fX a cI cO cA) cI (b + 1) 8 := ⟨by omega, fun φ => by rcases h with rfl | rfl <;> rfl⟩
theorem aX_v2 {b : Nat} (h : b = 10 ∨ b = 27) : zA 51 (fX a cI cO cA) cI (b + 2) 8 := ⟨by omega, fun φ => by rcases h with rfl | rfl <;> rfl⟩
theorem aX_v3 {b : Nat} (h : b = 10 ∨ b = 27) : zA 51 (fX a cI cO cA) cI (b + 3) 8 := ⟨by omega, fun φ => by rcases h with rfl | rfl <;> rfl⟩
theorem aX_v5 {b : Nat} (h : b = 10 ∨ b = 27) : zA 51 (fX a cI cO cA) cI (b + 5) 8 := ⟨by omega, fun φ => by rcases h with rfl | rfl <;> rfl⟩
theorem aX_v6 {b : Nat} (h : b = 10 ∨ b = 27) : zA 51 (fX a cI cO cA) cI (b + 6) 8 := ⟨by omega, fun φ => by rcases h with rfl | rfl <;> rfl⟩
theorem aX_v7 {b : Nat} (h : b = 10 ∨ b = 27) : zA 51 (fX a cI cO cA) cI (b + 7) 8 := ⟨by omega, fun φ => by rcases h with rfl | rfl <;> rfl⟩
theorem aX_v8 {b : Nat} (h : b = 10 ∨ b = 27) : zA 51 (fX a cI cO cA) cI (b + 8) 8 := ⟨by omega, fun φ => by rcases h with rfl | rfl <;> rfl⟩
theorem aX_away {b : Nat} (h : b = 10 ∨ b = 27) : zB 51 a (fX a cI cO cA) cA (b + 4) 8 (b + 9) := ⟨by omega, fun φ => by rcases h with rfl | rfl <;> rfl⟩
theorem aX_row {b q : Nat} (h : b = 10 ∨ b = 27) (h1 : b + 9 ≤ q) (h2 : q < b + 9 + 8) : zA 51 (fX a cI cO cA) cI q 8 := by
  refine ⟨by omega, fun φ => ?_⟩
  unfold fX
  rw [if_neg (by omega), if_neg (by omega), if_neg (by omega), if_neg (by omega), if_neg (by omega), if_neg (by omega), if_neg (by omega), if_neg (by omega)]
theorem aX_sheets : zB 51 a (fX a cI cO cA) cO 1 4 2 := ⟨by decide, fun φ => rfl⟩
theorem aX_45 : zA 51 (fX a cI cO cA) cI 45 8 := ⟨by decide, fun φ => rfl⟩
theorem aX_46 : zA 51 (fX a cI cO cA) cI 46 8 := ⟨by decide, fun φ => rfl⟩
theorem aX_48 : zA 51 (fX a cI cO cA) cI 48 8 := ⟨by decide, fun φ => rfl⟩
theorem aX_49 : zA 51 (fX a cI cO cA) cI 49 8 := ⟨by decide, fun φ => rfl⟩
theorem aX_50 : zA 51 (fX a cI cO cA) cI 50 8 := ⟨by decide, fun φ => rfl⟩
theorem aM_1 : zA 21 (fM a cI) cI 1 4 := ⟨by decide, fun φ => rfl⟩
theorem aM_2 : zA 21 (fM a cI) cI 2 4 := ⟨by decide, fun φ => rfl⟩
theorem aM_3 : zA 21 (fM a cI) cI 3 240 := ⟨by decide, fun φ => rfl⟩
theorem aM_4 : zA 21 (fM a cI) cI 4 8 := ⟨by decide, fun φ => rfl⟩
theorem aM_5 : zA 21 (fM a cI) cI 5 8 := ⟨by decide, fun φ => rfl⟩
theorem aM_6 : zA 21 (fM a cI) cI 6 8 := ⟨by decide, fun φ => rfl⟩
theorem aM_7 : zA 21 (fM a cI) cI 7 6 := ⟨by decide, fun φ => rfl⟩
theorem aM_8 : zA 21 (fM a cI) cI 8 8 := ⟨by decide, fun φ => rfl⟩
theorem aM_9 : zA 21 (fM a cI) cI 9 8 := ⟨by decide, fun φ => rfl⟩
theorem aM_10 : zA 21 (fM a cI) cI 10 64 := ⟨by decide, fun φ => rfl⟩
theorem aM_11 : zA 21 (fM a cI) cI 11 6 := ⟨by decide, fun φ => rfl⟩
theorem aM_12 : zA 21 (fM a cI) cI 12 8 := ⟨by decide, fun φ => rfl⟩
theorem aM_13 : zA 21 (fM a cI) cI 13 8 := ⟨by decide, fun φ => rfl⟩
theorem aM_14 : zA 21 (fM a cI) cI 14 8 := ⟨by decide, fun φ => rfl⟩
theorem aM_15 : zA 21 (fM a cI) cI 15 8 := ⟨by decide, fun φ => rfl⟩
theorem aM_16 : zA 21 (fM a cI) cI 16 7 := ⟨by decide, fun φ => rfl⟩
theorem aM_17 : zA 21 (fM a cI) cI 17 7 := ⟨by decide, fun φ => rfl⟩
theorem aM_18 : zA 21 (fM a cI) cI 18 8 := ⟨by decide, fun φ => rfl⟩
theorem aM_19 : zA 21 (fM a cI) cI 19 8 := ⟨by decide, fun φ => rfl⟩
theorem aM_20 : zA 21 (fM a cI) cI 20 8 := ⟨by decide, fun φ => rfl⟩
end ZF
def zloop {α β : Type} (F : (α → Option β) → α → Option β) : Nat → α → Option β
  | 0, _ => none
  | n + 1, x => F (zloop F n) x
theorem zloop_ind {α β : Type} {F : (α → Option β) → α → Option β} {G : α → Prop} {o : β} (hs : ∀ rec : α → Option β, (∀ x, rec x = some o → G x) → ∀ x, F rec x = some o → G x) : ∀ (n : Nat) (x : α), zloop F n x = some o → G x
  | 0, x, h => by cases h
  | n + 1, x, h => hs (zloop F n) (fun y hy => zloop_ind hs n y hy) x h
def zbt (x y : Int32) : Int32 := (x >>> (y &&& 31)) &&& 1
def zon (y : Int32) : Int32 := (1 : Int32) <<< (y &&& 31)
def znt (x : Int32) : Int32 := x ^^^ (-1)
theorem zFU_ex : ∃ n : Nat, 100000 ≤ n := ⟨100000, Nat.le_refl _⟩
/-- fuel: nobody computes with it -/
noncomputable def zFU : Nat := Classical.choose zFU_ex
theorem zFU_ge : 100000 ≤ zFU := Classical.choose_spec zFU_ex
theorem zne {x k : Int32} {n : Int} (h : ¬ x = k) (hk : k.toInt = n) : x.toInt ≠ n := fun q => h (Int32.toInt_inj.mp (q.trans hk.symm))
