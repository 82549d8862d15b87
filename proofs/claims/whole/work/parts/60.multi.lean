/-! a new int[8][8]: one instruction, nine cells -/
def zmf (h k : Nat) : Nat → Value := fun j => if j < k then .ref (h + 1 + j) else .null
def zmk (cA cI : ClassId) (s : State) : Nat → State
  | 0 => s.pushCell (arrV cA 8 (fun _ => .null))
  | k + 1 => ((zmk cA cI s k).pushCell (arrV cI 8 (fun _ => .int 0))).setCell s.heap.size (arrV cA 8 (zmf s.heap.size (k + 1)))
theorem zmf_0 (h : Nat) : zmf h 0 = fun _ => Value.null := by
  funext j
  simp [zmf]
theorem zmf_s (h k : Nat) : updV (zmf h k) k (.ref (h + 1 + k)) = zmf h (k + 1) := by
  funext j
  by_cases hj : j = k
  · subst hj
    simp [updV, zmf]
  · by_cases hl : j < k
    · simp [updV, zmf, hj, hl, Nat.lt_succ_of_lt hl]
    · simp [updV, zmf, hj, hl, show ¬ j < k + 1 by omega]
section ZMU
variable {cA cI : ClassId} {s : State}
theorem zmk_size : ∀ k, (zmk cA cI s k).heap.size = s.heap.size + 1 + k
  | 0 => by simp [zmk, State.pushCell]
  | k + 1 => by
    have := zmk_size k
    simp [zmk, State.pushCell, State.setCell, this]
    omega
theorem zmk_vm : ∀ k, (zmk cA cI s k).vm = s.vm
  | 0 => rfl
  | k + 1 => zmk_vm k
theorem zmk_used : ∀ k, (zmk cA cI s k).slotsUsed = s.slotsUsed + 8 + 8 * k
  | 0 => by simp [zmk, State.pushCell, arrV_size]
  | k + 1 => by
    have := zmk_used k
    simp [zmk, State.pushCell, State.setCell, this, arrV_size]
    omega
theorem zmk_out : ∀ k, (zmk cA cI s k).heap[s.heap.size]? = some (arrV cA 8 (zmf s.heap.size k))
  | 0 => by simp [zmk, State.pushCell, zmf_0]
  | k + 1 => by
    have := zmk_size (cA := cA) (cI := cI) (s := s) k
    rw [zmk]
    exact heapAt_setCell_self _ (by show _ < ((zmk cA cI s k).heap.push _).size; rw [Array.size_push]; omega)
theorem zmk_old {q : Nat} (hq : q < s.heap.size) : ∀ k, (zmk cA cI s k).heap[q]? = s.heap[q]?
  | 0 => by
    rw [zmk]
    simp [State.pushCell, Array.getElem?_push, Nat.ne_of_lt hq]
  | k + 1 => by
    have h1 := zmk_size (cA := cA) (cI := cI) (s := s) k
    have h2 := zmk_old hq k
    rw [zmk, heapAt_setCell_ne _ (show s.heap.size ≠ q by omega)]
    rw [show ((zmk cA cI s k).pushCell (arrV cI 8 (fun _ => .int 0))).heap = (zmk cA cI s k).heap.push (arrV cI 8 (fun _ => .int 0)) from rfl, Array.getElem?_push, if_neg (by omega)]
    exact h2
theorem zmk_row {j : Nat} : ∀ k, j < k → (zmk cA cI s k).heap[s.heap.size + 1 + j]? = some (arrV cI 8 (fun _ => .int 0))
  | 0, h => absurd h (Nat.not_lt_zero j)
  | k + 1, h => by
    have h1 := zmk_size (cA := cA) (cI := cI) (s := s) k
    rw [zmk, heapAt_setCell_ne _ (show s.heap.size ≠ s.heap.size + 1 + j by omega)]
    rw [show ((zmk cA cI s k).pushCell (arrV cI 8 (fun _ => .int 0))).heap = (zmk cA cI s k).heap.push (arrV cI 8 (fun _ => .int 0)) from rfl, Array.getElem?_push]
    by_cases hj : j = k
    · subst hj
      rw [if_pos h1.symm]
    · rw [if_neg (by omega)]
      exact zmk_row k (by omega)
theorem zmk_top {g : JFrame} : ∀ k, zmk cA cI (s.setTop g) k = (zmk cA cI s k).setTop g
  | 0 => by
    rw [zmk, zmk, State.pushCell_setTop]
  | k + 1 => by
    rw [zmk, zmk, zmk_top k, State.heap_setTop, State.pushCell_setTop, State.setCell_setTop]
end ZMU
theorem zmk_stand {p : Program} {l : Launch} {e : Env} {R : Room} {s : State} {m : MethodId} {args : Array Value} {below : List Frame} {meth : Method} {c : Code} {T : State} {locs : List Loc} {cells slots : Nat} {cA cI : ClassId} (X : Stand p l e R s m args below meth c T locs cells slots) :
    ∀ k, ∃ locs1 : List Loc, (∀ q ∈ locs1, q ∈ locs ∨ q.base = T.heap.size) ∧ Stand p l e R s m args below meth c (zmk cA cI T k) locs1 (cells + 1 + k) (slots + 8 + 8 * k)
  | 0 => ⟨locs, fun q hq => Or.inl hq, by
      have h := X.pushed (arrV cA 8 (fun _ => .null))
      rw [arrV_size] at h
      exact h⟩
  | k + 1 => by
    obtain ⟨locs1, h1, X1⟩ := zmk_stand (cA := cA) (cI := cI) X k
    have X2 := X1.pushed (arrV cI 8 (fun _ => .int 0))
    rw [arrV_size] at X2
    have hs := zmk_size (cA := cA) (cI := cI) (s := T) k
    have hc : ((zmk cA cI T k).pushCell (arrV cI 8 (fun _ => .int 0))).heap[T.heap.size]? = some (arrV cA 8 (zmf T.heap.size k)) := by
      rw [show ((zmk cA cI T k).pushCell (arrV cI 8 (fun _ => .int 0))).heap = (zmk cA cI T k).heap.push (arrV cI 8 (fun _ => .int 0)) from rfl, Array.getElem?_push, if_neg (by omega)]
      exact zmk_out k
    have X3 := X2.stored hc k (.ref (T.heap.size + 1 + k))
    rw [arrV_store, zmf_s] at X3
    refine ⟨_, fun q hq => ?_, X3⟩
    rcases List.mem_append.mp hq with h | h
    · exact h1 q h
    · rw [List.mem_singleton.mp h]
      exact Or.inr rfl
section ZMW
variable {E : CtlPost} {e : Env} {d : Bool} {acts : List Action} {s : State}
theorem zwp_row {cI comp : ClassId} {kI : Class} (hk : s.vm.classes[cI]? = some kI) (hkind : kI.kind = .array comp .int) (hl : 8 ≤ e.platform.arrayLengthLimit) (hh : 32 ≤ e.platform.maxHeapBytes) (h1 : s.heap.size < e.platform.maxCells) (h2 : s.slotsUsed + 8 ≤ e.platform.maxSlots) {Q : Addr → Pre} (hq : ∀ acts', Q s.heap.size d acts' (s.pushCell (arrV cI 8 (fun _ => .int 0)))) : wp (Jvm.Op.multianewarray.make cI [8]) Q E e d acts s := by
  rw [Jvm.Op.multianewarray.make]
  simp only [wp_bind', W.ite, show ¬ (8 : Int32) < 0 by decide, if_false, wp_pure', W.theClass, hk, hkind, Option.some.injEq, exists_eq_left']
  refine W.newArray_of hk hkind (by rw [show (8 : Int32).toNatClampNeg = 8 by decide]; omega) (by rw [show (8 : Int32).toNatClampNeg = 8 by decide]; show ¬ 8 * 4 > _; omega) h1 (by rw [show (8 : Int32).toNatClampNeg = 8 by decide]; exact h2) rfl (fun acts' => ?_)
  have := hq acts'
  rw [← arrV_new] at this
  exact this
theorem zwp_make {cA cI comp : ClassId} {kA kI : Class} (hkA : s.vm.classes[cA]? = some kA) (hkindA : kA.kind = .array cI (.array .int)) (hkI : s.vm.classes[cI]? = some kI) (hkindI : kI.kind = .array comp .int) (hl : 8 ≤ e.platform.arrayLengthLimit) (hh : 32 ≤ e.platform.maxHeapBytes) (h1 : s.heap.size + 9 ≤ e.platform.maxCells) (h2 : s.slotsUsed + 72 ≤ e.platform.maxSlots) {Q : Addr → Pre} (hq : ∀ d' acts', Q s.heap.size d' acts' (zmk cA cI s 8)) : wp (Jvm.Op.multianewarray.make cA [8, 8]) Q E e d acts s := by
  rw [Jvm.Op.multianewarray.make]
  simp only [wp_bind', W.ite, show ¬ (8 : Int32) < 0 by decide, if_false, wp_pure', W.theClass, hkA, hkindA, Option.some.injEq, exists_eq_left']
  refine W.newArray_of hkA hkindA (by rw [show (8 : Int32).toNatClampNeg = 8 by decide]; omega) (by rw [show (8 : Int32).toNatClampNeg = 8 by decide]; show ¬ 8 * 4 > _; omega) (by omega) (by rw [show (8 : Int32).toNatClampNeg = 8 by decide]; omega) rfl (fun acts' => ?_)
  rw [if_neg (by decide), wp_bind', Std.Legacy.Range.forIn_eq_forIn_range']
  show wp (forIn (List.range' 0 8 1) PUnit.unit _) _ E e d acts' _
  refine wp_forIn_inv (fun rest s' => ∃ k, k + rest.length = 8 ∧ rest = List.range' k (8 - k) 1 ∧ s' = zmk cA cI s k) _ _ ⟨0, by simp, rfl, by rw [zmk, ← arrV_new]; rfl⟩ ?_ ?_
  · rintro x rest s' d' acts'' Q' ⟨k, hk, hr, rfl⟩ hn
    have hk8 : k < 8 := by
      rw [List.length_cons] at hk
      omega
    rw [show 8 - k = (8 - (k + 1)) + 1 by omega, List.range'_succ] at hr
    obtain ⟨rfl, rfl⟩ := List.cons.inj hr
    have e1 := zmk_size (cA := cA) (cI := cI) (s := s) x
    have e2 := zmk_used (cA := cA) (cI := cI) (s := s) x
    have e3 := zmk_vm (cA := cA) (cI := cI) (s := s) x
    simp only [wp_bind']
    refine zwp_row (by rw [e3]; exact hkI) hkindI hl hh (by omega) (by omega) (fun acts3 => ?_)
    simp only [wp_bind', W.writeLoc, wp_pure']
    refine ⟨arrV cA 8 (zmf s.heap.size x), ?_, (by simp [arrV]), (by rw [arrV_size]; exact hk8), ?_, hn _ _ _ ⟨x + 1, by simp; omega, rfl, ?_⟩⟩
    · rw [show ((zmk cA cI s x).pushCell (arrV cI 8 (fun _ => .int 0))).heap = (zmk cA cI s x).heap.push (arrV cI 8 (fun _ => .int 0)) from rfl, Array.getElem?_push, if_neg (by omega)]
      exact zmk_out x
    · simp [State.fitsSlot, State.slotType?, arrV, State.pushCell, e3, hkA, hkindA, fits]
    · rw [arrV_store, e1, zmf_s]
      rfl
  · rintro s' d' acts'' ⟨k, hk, hr, rfl⟩
    have hk8 : k = 8 := by simpa using hk
    subst hk8
    simp only [wp_pure']
    exact hq _ _
end ZMW
