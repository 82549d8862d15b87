/-! a new int[8][8]: one instruction, nine cells: the state with k rows in place is said at once, as a heap -/
def zmf (h k : Nat) : Nat → Value := fun j => if j < k then .ref (h + 1 + j) else .null
def z88 (cA cI : ClassId) (s : State) (k : Nat) : State :=
  { s with heap := s.heap.push (arrV cA 8 (zmf s.heap.size k)) ++ Array.replicate k (arrV cI 8 (fun _ => .int 0)), slotsUsed := s.slotsUsed + 8 + 8 * k }
section Z88
variable {cA cI : ClassId} {s : State}
theorem z88_size (k : Nat) : (z88 cA cI s k).heap.size = s.heap.size + 1 + k := by
  show (s.heap.push _ ++ Array.replicate k _).size = _
  rw [Array.size_append, Array.size_push, Array.size_replicate]
theorem z88_at (k q : Nat) : (z88 cA cI s k).heap[q]? = if q < s.heap.size then s.heap[q]? else if q = s.heap.size then some (arrV cA 8 (zmf s.heap.size k)) else if q < s.heap.size + 1 + k then some (arrV cI 8 (fun _ => .int 0)) else none := by
  show (s.heap.push _ ++ Array.replicate k _)[q]? = _
  rw [Array.getElem?_append, Array.size_push, Array.getElem?_push, Array.getElem?_replicate]
  by_cases h1 : q < s.heap.size
  · rw [if_pos (by omega), if_neg (by omega), if_pos h1]
  · rw [if_neg h1]
    by_cases h2 : q = s.heap.size
    · rw [if_pos (by omega), if_pos h2, if_pos h2]
    · rw [if_neg (by omega), if_neg h2]
      by_cases h3 : q < s.heap.size + 1 + k
      · rw [if_pos (by omega), if_pos h3]
      · rw [if_neg (by omega), if_neg h3]
theorem z88_out (k : Nat) : (z88 cA cI s k).heap[s.heap.size]? = some (arrV cA 8 (zmf s.heap.size k)) := by
  rw [z88_at, if_neg (Nat.lt_irrefl _), if_pos rfl]
theorem z88_old {q : Nat} (hq : q < s.heap.size) (k : Nat) : (z88 cA cI s k).heap[q]? = s.heap[q]? := by
  rw [z88_at, if_pos hq]
theorem z88_row {j : Nat} (k : Nat) (hj : j < k) : (z88 cA cI s k).heap[s.heap.size + 1 + j]? = some (arrV cI 8 (fun _ => .int 0)) := by
  rw [z88_at, if_neg (by omega), if_neg (by omega), if_pos (by omega)]
theorem z88_0 : z88 cA cI s 0 = s.pushCell (arrV cA 8 (fun _ => .null)) := by
  have h : zmf s.heap.size 0 = fun _ => Value.null := funext fun j => if_neg (Nat.not_lt_zero j)
  show ({ s with heap := s.heap.push (arrV cA 8 (zmf s.heap.size 0)) ++ Array.replicate 0 _, slotsUsed := s.slotsUsed + 8 + 8 * 0 } : State) = { s with heap := s.heap.push _, slotsUsed := s.slotsUsed + (arrV cA 8 _).slots.size }
  rw [h, arrV_size, Array.replicate_zero, Array.append_empty]
/- one row more: a cell behind, and its address in the first -/
theorem z88_more (k : Nat) : ((z88 cA cI s k).pushCell (arrV cI 8 (fun _ => .int 0))).setCell s.heap.size ((arrV cA 8 (zmf s.heap.size k)).setSlot k (.ref (z88 cA cI s k).heap.size)) = z88 cA cI s (k + 1) := by
  have hf : updV (zmf s.heap.size k) k (.ref (s.heap.size + 1 + k)) = zmf s.heap.size (k + 1) := by
    funext j
    show (if j = k then _ else if j < k then _ else _) = if j < k + 1 then _ else _
    by_cases h1 : j = k
    · rw [if_pos h1, if_pos (by omega), h1]
    · rw [if_neg h1]
      by_cases h2 : j < k
      · rw [if_pos h2, if_pos (by omega)]
      · rw [if_neg h2, if_neg (by omega)]
  rw [arrV_store, z88_size, hf]
  have hh : (((z88 cA cI s k).heap.push (arrV cI 8 (fun _ => .int 0))).setIfInBounds s.heap.size (arrV cA 8 (zmf s.heap.size (k + 1)))) = (z88 cA cI s (k + 1)).heap := by
    apply Array.ext_getElem?
    intro q
    rw [Array.getElem?_setIfInBounds, Array.size_push, Array.getElem?_push, z88_size, z88_at, z88_at]
    by_cases h1 : q < s.heap.size
    · rw [if_neg (by omega), if_neg (by omega), if_pos h1, if_pos h1]
    · by_cases h2 : q = s.heap.size
      · rw [if_pos h2.symm, if_pos (by omega), if_neg h1, if_pos h2]
      · rw [if_neg (Ne.symm h2), if_neg h1, if_neg h1, if_neg h2, if_neg h2]
        by_cases h3 : q = s.heap.size + 1 + k
        · rw [if_pos h3, if_pos (by omega)]
        · rw [if_neg h3]
          by_cases h4 : q < s.heap.size + 1 + k
          · rw [if_pos h4, if_pos (by omega)]
          · rw [if_neg h4, if_neg (by omega)]
  show ({ s with heap := ((z88 cA cI s k).heap.push (arrV cI 8 (fun _ => .int 0))).setIfInBounds s.heap.size (arrV cA 8 (zmf s.heap.size (k + 1))), slotsUsed := s.slotsUsed + 8 + 8 * k + (arrV cI 8 (fun _ => Value.int 0)).slots.size } : State) = { s with heap := (z88 cA cI s (k + 1)).heap, slotsUsed := s.slotsUsed + 8 + 8 * (k + 1) }
  rw [hh, arrV_size, show s.slotsUsed + 8 + 8 * k + 8 = s.slotsUsed + 8 + 8 * (k + 1) by omega]
theorem z88_top {g : JFrame} (k : Nat) : z88 cA cI (s.setTop g) k = (z88 cA cI s k).setTop g := rfl
end Z88
theorem z88_stand {p : Program} {l : Launch} {e : Env} {R : Room} {s : State} {m : MethodId} {args : Array Value} {below : List Frame} {meth : Method} {c : Code} {T : State} {locs : List Loc} {cells slots : Nat} {cA cI : ClassId} (X : Stand p l e R s m args below meth c T locs cells slots) (k : Nat) :
    ∃ locs1 : List Loc, (∀ q ∈ locs1, q ∈ locs ∨ q.base = T.heap.size) ∧ Stand p l e R s m args below meth c (z88 cA cI T k) locs1 (cells + 1 + k) (slots + 8 + 8 * k) := by
  induction k with
  | zero =>
    have h := X.pushed (arrV cA 8 (fun _ => .null))
    rw [arrV_size, ← z88_0 (cI := cI)] at h
    exact ⟨locs, fun q hq => Or.inl hq, h⟩
  | succ k ih =>
    obtain ⟨locs1, h1, X1⟩ := ih
    have X2 := X1.pushed (arrV cI 8 (fun _ => .int 0))
    rw [arrV_size] at X2
    have hc : ((z88 cA cI T k).pushCell (arrV cI 8 (fun _ => .int 0))).heap[T.heap.size]? = some (arrV cA 8 (zmf T.heap.size k)) := by
      show ((z88 cA cI T k).heap.push _)[T.heap.size]? = _
      rw [Array.getElem?_push, z88_size, if_neg (by omega), z88_out]
    have X3 := X2.stored hc k (.ref (z88 cA cI T k).heap.size)
    rw [z88_more] at X3
    refine ⟨_, fun q hq => ?_, X3⟩
    rcases List.mem_append.mp hq with h | h
    · exact h1 q h
    · exact Or.inr (by rw [List.mem_singleton.mp h])
section ZMW
variable {E : CtlPost} {e : Env} {d : Bool} {acts : List Action} {s : State}
/- the rounds of a count: from k on, n of them, each from one state of a row of states to the next -/
theorem zwp_rounds {N : Nat} {S : Nat → State} {f : Nat → PUnit → Sem (ForInStep PUnit)}
    (hf : ∀ k, k < N → ∀ (d : Bool) (acts : List Action) (Q : ForInStep PUnit → Pre), (∀ d' acts', Q (.yield PUnit.unit) d' acts' (S (k + 1))) → wp (f k PUnit.unit) Q E e d acts (S k)) {Q : PUnit → Pre} (hq : ∀ d' acts', Q PUnit.unit d' acts' (S N)) (n : Nat) :
    ∀ (k : Nat) (d : Bool) (acts : List Action), k + n = N → wp (forIn (List.range' k n 1) PUnit.unit f) Q E e d acts (S k) := by
  induction n with
  | zero =>
    intro k d acts h
    cases h
    rw [List.range'_zero, List.forIn_nil, wp_pure']
    exact hq d acts
  | succ n ih =>
    intro k d acts h
    rw [List.range'_succ, List.forIn_cons, wp_bind']
    exact hf k (by omega) d acts _ (fun d' acts' => ih (k + 1) d' acts' (by omega))
theorem zwp_new8 {c comp : ClassId} {kc : Class} {t : FieldType} {v : Value} (hk : s.vm.classes[c]? = some kc) (hkind : kc.kind = .array comp t) (hfit : fits t v = true) (hb : componentBytes t = 4) (hl : 8 ≤ e.platform.arrayLengthLimit) (hh : 32 ≤ e.platform.maxHeapBytes) (h1 : s.heap.size < e.platform.maxCells) (h2 : s.slotsUsed + 8 ≤ e.platform.maxSlots) {Q : Addr → Pre}
    (hq : ∀ acts', Q s.heap.size d acts' (s.pushCell (arrV c 8 (fun _ => v)))) : wp (Jvm.newArray c 8 v) Q E e d acts s :=
  W.newArray_of hk hkind (Nat.not_lt.mpr hl) (by rw [hb]; exact Nat.not_lt.mpr hh) h1 h2 hfit (fun acts' => by
    have h := hq acts'
    rw [← arrV_new] at h
    exact h)
theorem zwp_one {c comp : ClassId} {kc : Class} {t : FieldType} (hk : s.vm.classes[c]? = some kc) (hkind : kc.kind = .array comp t) {Q : Addr → Pre} (h : wp (Jvm.newArray c 8 (defaultValue t)) Q E e d acts s) : wp (Jvm.Op.multianewarray.make c [8]) Q E e d acts s := by
  unfold Jvm.Op.multianewarray.make
  simpa [W.theClass, hk, hkind, show ¬ (8 : Int32) < 0 by decide, show (8 : Int32).toNatClampNeg = 8 by decide] using h
theorem zwp_two {c comp : ClassId} {kc : Class} {t : FieldType} (hk : s.vm.classes[c]? = some kc) (hkind : kc.kind = .array comp t) {Q : Addr → Pre}
    (h : wp (Jvm.newArray c 8 .null) (fun a => wp (forIn (List.range' 0 8 1) PUnit.unit (fun i _ => do Jvm.writeLoc a i (.ref (← Jvm.Op.multianewarray.make comp [8])); Pure.pure (ForInStep.yield PUnit.unit)) >>= fun _ => Pure.pure a) Q E e) E e d acts s) : wp (Jvm.Op.multianewarray.make c [8, 8]) Q E e d acts s := by
  unfold Jvm.Op.multianewarray.make
  simpa [W.theClass, hk, hkind, show ¬ (8 : Int32) < 0 by decide, show (8 : Int32).toNatClampNeg = 8 by decide, show ((8 : Int32) == 0) = false by decide] using h
theorem zwp_make {cA cI comp : ClassId} {kA kI : Class} (hkA : s.vm.classes[cA]? = some kA) (hkindA : kA.kind = .array cI (.array .int)) (hkI : s.vm.classes[cI]? = some kI) (hkindI : kI.kind = .array comp .int) (hl : 8 ≤ e.platform.arrayLengthLimit) (hh : 32 ≤ e.platform.maxHeapBytes) (h1 : s.heap.size + 9 ≤ e.platform.maxCells) (h2 : s.slotsUsed + 72 ≤ e.platform.maxSlots) {Q : Addr → Pre} (hq : ∀ d' acts', Q s.heap.size d' acts' (z88 cA cI s 8)) : wp (Jvm.Op.multianewarray.make cA [8, 8]) Q E e d acts s := by
  refine zwp_two hkA hkindA (zwp_new8 hkA hkindA rfl rfl hl hh (by omega) (by omega) (fun acts' => ?_))
  rw [← z88_0 (cI := cI), wp_bind']
  refine zwp_rounds (N := 8) (S := z88 cA cI s) (fun k hk d acts Q hn => ?_) (fun d' acts'' => by rw [wp_pure']; exact hq d' acts'') 8 0 d acts' rfl
  have hs := z88_size (cA := cA) (cI := cI) (s := s) k
  have hu : (z88 cA cI s k).slotsUsed = s.slotsUsed + 8 + 8 * k := rfl
  rw [wp_bind']
  refine zwp_one (s := z88 cA cI s k) hkI hkindI (zwp_new8 (s := z88 cA cI s k) hkI hkindI rfl rfl hl hh (by omega) (by omega) (fun acts' => ?_))
  have hc : ((z88 cA cI s k).pushCell (arrV cI 8 (fun _ => .int 0))).heap[s.heap.size]? = some (arrV cA 8 (zmf s.heap.size k)) := by
    show ((z88 cA cI s k).heap.push _)[s.heap.size]? = _
    rw [Array.getElem?_push, hs, if_neg (by omega), z88_out]
  have hfit : ((z88 cA cI s k).pushCell (arrV cI 8 (fun _ => .int 0))).fitsSlot cA .none k (.ref (z88 cA cI s k).heap.size) = true := by
    have hkA' : ((z88 cA cI s k).pushCell (arrV cI 8 (fun _ => .int 0))).vm.classes[cA]? = some kA := hkA
    unfold State.fitsSlot State.slotType?
    rw [hkA']
    simp [hkindA, fits]
  rw [wp_bind', W.writeLoc]
  refine ⟨_, hc, (by simp [arrV]), by rw [arrV_size]; exact hk, hfit, ?_⟩
  rw [wp_pure']
  have h := hn true (writeActs ⟨s.heap.size, k⟩ .plain (.ref (z88 cA cI s k).heap.size) acts')
  rw [← z88_more] at h
  exact h
end ZMW
