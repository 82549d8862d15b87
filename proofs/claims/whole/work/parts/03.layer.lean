/-! THE LAYER: a world of fixed cells whose ints change; one judgement zV over (state, pc, locals, stack) -/
abbrev zSt : Type := Nat → Nat → Int32
def zsu (σ : zSt) (i : Nat) (φ : Nat → Int32) : zSt := fun a => if a = i then φ else σ a
def zwd (N : Nat) (a : Nat → Nat) (f : Nat → (Nat → Int32) → va_E) (σ : zSt) : va_W := (List.range N).map (fun i => (a i, f i (σ i)))
def zAA (N : Nat) (a : Nat → Nat) : Nat → Prop := fun q => ∃ i, i < N ∧ q = a i
theorem zwd_get {N : Nat} {a : Nat → Nat} {f : Nat → (Nat → Int32) → va_E} {σ : zSt} {i : Nat} (h : i < N) : (zwd N a f σ)[i]? = some (a i, f i (σ i)) := by
  simp [zwd, h]
theorem zwd_some {N : Nat} {a : Nat → Nat} {f : Nat → (Nat → Int32) → va_E} {σ : zSt} {i : Nat} {q : Nat × va_E} (h : (zwd N a f σ)[i]? = some q) : i < N ∧ q = (a i, f i (σ i)) := by
  have hl : i < N := by
    have h1 := (List.getElem?_eq_some_iff.mp h).1
    simpa [zwd] using h1
  refine ⟨hl, ?_⟩
  rw [zwd_get hl] at h
  exact (Option.some.inj h).symm
theorem zwd_set {N : Nat} {a : Nat → Nat} {f : Nat → (Nat → Int32) → va_E} {σ : zSt} {i : Nat} {φ : Nat → Int32} (h : i < N) : (zwd N a f σ).set i (a i, f i φ) = zwd N a f (zsu σ i φ) := by
  apply List.ext_getElem?
  intro j
  by_cases hj : j = i
  · subst hj
    rw [List.getElem?_set_self (by simpa [zwd] using h), zwd_get h]
    simp [zsu]
  · rw [List.getElem?_set_ne (Ne.symm hj)]
    by_cases hjN : j < N
    · rw [zwd_get hjN, zwd_get hjN]
      simp [zsu, hj]
    · rw [List.getElem?_eq_none (by simpa [zwd] using hjN), List.getElem?_eq_none (by simpa [zwd] using hjN)]
theorem zwd_D {N : Nat} {a : Nat → Nat} {f : Nat → (Nat → Int32) → va_E} {σ : zSt} (hinj : ∀ i j, i < N → j < N → a i = a j → i = j) : va_D (zAA N a) (zwd N a f σ) := by
  refine ⟨fun i j x y hi hj hxy => ?_, fun k q hk => ?_⟩
  · obtain ⟨h1, rfl⟩ := zwd_some hi
    obtain ⟨h2, rfl⟩ := zwd_some hj
    exact hinj i j h1 h2 hxy
  · obtain ⟨h1, rfl⟩ := zwd_some hk
    exact ⟨k, h1, rfl⟩
/-! locals, by place -/
def zlp : Nat → List (Option Value) → List (Nat × Value)
  | _, [] => []
  | k, none :: t => zlp (k + 1) t
  | k, some v :: t => (k, v) :: zlp (k + 1) t
theorem zlp_mem : ∀ (lv : List (Option Value)) (k i : Nat) (v : Value), (i, v) ∈ zlp k lv ↔ ∃ j, i = k + j ∧ lv[j]? = some (some v)
  | [], k, i, v => by simp [zlp]
  | none :: t, k, i, v => by
    rw [zlp, zlp_mem t (k + 1) i v]
    constructor
    · rintro ⟨j, h1, h2⟩
      exact ⟨j + 1, by omega, by simpa using h2⟩
    · rintro ⟨j, h1, h2⟩
      cases j with
      | zero => simp at h2
      | succ j => exact ⟨j, by omega, by simpa using h2⟩
  | some w :: t, k, i, v => by
    rw [zlp, List.mem_cons, zlp_mem t (k + 1) i v]
    constructor
    · rintro (h | ⟨j, h1, h2⟩)
      · obtain ⟨rfl, rfl⟩ := Prod.mk.inj h
        exact ⟨0, rfl, rfl⟩
      · exact ⟨j + 1, by omega, by simpa using h2⟩
    · rintro ⟨j, h1, h2⟩
      cases j with
      | zero =>
        have e : some w = some v := by simpa using h2
        cases e
        exact Or.inl (by rw [h1]; rfl)
      | succ j => exact Or.inr ⟨j, by omega, by simpa using h2⟩
def zlx (ls : Array Slot) (nL : Nat) (lv : List (Option Value)) : Prop := lv_has ls nL (zlp 0 lv)
theorem zlx_at {ls : Array Slot} {nL : Nat} {lv : List (Option Value)} (h : zlx ls nL lv) {i : Nat} {v : Value} (hk : lv[i]? = some (some v)) : ls[i]? = some (.val v) := h.2.2 (i, v) ((zlp_mem lv 0 i v).mpr ⟨i, by omega, hk⟩)
def zle : List (Option Value) → List (Option Value) → Prop
  | [], _ => True
  | none :: t, x => zle t x.tail
  | some v :: t, x => x.head? = some (some v) ∧ zle t x.tail
theorem zle_get : ∀ (lv' lv : List (Option Value)), zle lv' lv → ∀ (i : Nat) (v : Value), lv'[i]? = some (some v) → lv[i]? = some (some v)
  | [], _, _, i, v, h => by simp at h
  | none :: t, x, hz, i, v, h => by
    cases i with
    | zero => simp at h
    | succ i =>
      have := zle_get t x.tail hz i v (by simpa using h)
      simpa using this
  | some w :: t, x, hz, i, v, h => by
    cases i with
    | zero =>
      have e : some w = some v := by simpa using h
      cases e
      have := hz.1
      cases x with
      | nil => simp at this
      | cons y x => simpa using this
    | succ i =>
      have := zle_get t x.tail hz.2 i v (by simpa using h)
      simpa using this
theorem zlx_le {ls : Array Slot} {nL : Nat} {lv lv' : List (Option Value)} (h : zlx ls nL lv) (hz : zle lv' lv) : zlx ls nL lv' := by
  refine ⟨h.1, h.2.1, fun q hq => ?_⟩
  obtain ⟨i, v⟩ := q
  obtain ⟨j, h1, h2⟩ := (zlp_mem lv' 0 i v).mp hq
  have : i = j := by omega
  subst this
  exact zlx_at h (zle_get lv' lv hz i v h2)
/-- no long stands in the place before -/
def zpre (lv : List (Option Value)) (i : Nat) : Bool := match i with
  | 0 => true
  | k + 1 => match lv[k]? with
    | some (some v) => v.category == 1
    | _ => true
theorem zpre_ne {lv : List (Option Value)} {i j : Nat} {w : Value} (hp : zpre lv i = true) (h : lv[j]? = some (some w)) : (!(j + 1 == i && w.category == 2)) = true := by
  by_cases hj : j + 1 = i
  · subst hj
    have h1 : w.category = 1 := by simpa [zpre, h] using hp
    simp [h1]
  · simp [hj]
theorem zlx_st1 {ls : Array Slot} {nL : Nat} {lv : List (Option Value)} {i : Nat} {v : Value} (hp : zpre lv i = true) (h : lv_has ls nL ((i, v) :: (zlp 0 lv).filter (fun q => !(q.1 == i) && !(q.1 + 1 == i && q.2.category == 2)))) : zlx ls nL (lv.set i (some v)) := by
  refine ⟨h.1, h.2.1, fun q hq => h.2.2 q ?_⟩
  obtain ⟨k, w⟩ := q
  obtain ⟨j, h1, h2⟩ := (zlp_mem _ 0 k w).mp hq
  have e : k = j := by omega
  subst e
  by_cases hk : k = i
  · subst hk
    have hlt : k < lv.length := by
      have := (List.getElem?_eq_some_iff.mp h2).1
      simpa using this
    rw [List.getElem?_set_self hlt] at h2
    cases h2
    exact List.mem_cons_self
  · rw [List.getElem?_set_ne (Ne.symm hk)] at h2
    refine List.mem_cons_of_mem _ (List.mem_filter.mpr ⟨(zlp_mem lv 0 k w).mpr ⟨k, by omega, h2⟩, ?_⟩)
    rw [Bool.and_eq_true]
    exact ⟨by simp [hk], zpre_ne hp h2⟩
theorem zlx_st2 {ls : Array Slot} {nL : Nat} {lv : List (Option Value)} {i : Nat} {v : Value} (hp : zpre lv i = true) (h : lv_has ls nL ((i, v) :: (zlp 0 lv).filter (fun q => !(q.1 == i) && (!(q.1 == i + 1) && !(q.1 + 1 == i && q.2.category == 2))))) : zlx ls nL ((lv.set i (some v)).set (i + 1) none) := by
  refine ⟨h.1, h.2.1, fun q hq => h.2.2 q ?_⟩
  obtain ⟨k, w⟩ := q
  obtain ⟨j, h1, h2⟩ := (zlp_mem _ 0 k w).mp hq
  have e : k = j := by omega
  subst e
  by_cases hk1 : k = i + 1
  · subst hk1
    by_cases hlt : i + 1 < (lv.set i (some v)).length
    · rw [List.getElem?_set_self hlt] at h2
      cases h2
    · rw [List.getElem?_eq_none (by simpa using hlt)] at h2
      cases h2
  · rw [List.getElem?_set_ne (Ne.symm hk1)] at h2
    by_cases hk : k = i
    · subst hk
      have hlt : k < lv.length := by
        have := (List.getElem?_eq_some_iff.mp h2).1
        simpa using this
      rw [List.getElem?_set_self hlt] at h2
      cases h2
      exact List.mem_cons_self
    · rw [List.getElem?_set_ne (Ne.symm hk)] at h2
      refine List.mem_cons_of_mem _ (List.mem_filter.mpr ⟨(zlp_mem lv 0 k w).mpr ⟨k, by omega, h2⟩, ?_⟩)
      rw [Bool.and_eq_true, Bool.and_eq_true]
      exact ⟨by simp [hk], by simp [hk1], zpre_ne hp h2⟩
/-! the words -/
def zbig : List Cond := lw_tbl.filter goodWord
theorem zbigM {w : Cond} (i : Nat) (h : lw_tbl[i]? = some w) (g : goodWord w = true) : w ∈ zbig := List.mem_filter.mpr ⟨List.mem_of_getElem? h, g⟩
theorem zgood {w c : Cond} (h : c ∈ zbig) (hw : w ∈ c :: zbig) : w ∈ zbig ∧ ((w.onTables && w.keeps) = true ∨ ∃ ty, w = .arrayClass ty) := by
  have h1 : w ∈ zbig := by
    rcases List.mem_cons.mp hw with e | e
    · rw [e]; exact h
    · exact e
  exact ⟨h1, good_of_word (List.mem_filter.mp h1).2⟩
/-! partial steps of the pure pictures -/
def znm {α β : Type} (v : α) (K : α → Option β) : Option β := K v
def zga {β : Type} (φ : Nat → Int32) (x : Int32) (n : Nat) (K : Int32 → Option β) : Option β := if 0 ≤ x ∧ x.toNatClampNeg < n then K (φ x.toNatClampNeg) else none
def zgs {β : Type} (σ : zSt) (i : Nat) (x : Int32) (n : Nat) (v : Int32) (K : zSt → Option β) : Option β := if 0 ≤ x ∧ x.toNatClampNeg < n then K (zsu σ i (upd (σ i) x.toNatClampNeg v)) else none
def zgr {β : Type} (x : Int32) (n off : Nat) (K : Nat → Option β) : Option β := if 0 ≤ x ∧ x.toNatClampNeg < n then K (off + x.toNatClampNeg) else none
def zdv {β : Type} (x y : Int32) (K : Int32 → Option β) : Option β := if y = 0 then none else K (x / y)
def zrm {β : Type} (x y : Int32) (K : Int32 → Option β) : Option β := if y = 0 then none else K (x - x / y * y)
def zdvL {β : Type} (x y : Int64) (K : Int64 → Option β) : Option β := if y = 0 then none else K (x / y)
def zrmL {β : Type} (x y : Int64) (K : Int64 → Option β) : Option β := if y = 0 then none else K (x - x / y * y)
def zgz (v : Int32) (σ : zSt) : Option (Int32 × zSt) := if v = 0 ∨ v = 1 then some (v, σ) else none
def zbd {α β : Type} (o : Option (α × zSt)) (K : α → zSt → Option β) : Option β := match o with
  | some (r, σ) => K r σ
  | none => none
def zbv {β : Type} (o : Option zSt) (K : zSt → Option β) : Option β := match o with
  | some σ => K σ
  | none => none
def zcp {β : Type} (σ : zSt) (i j : Nat) (ni nj : Nat) (sp dp n : Int32) (K : zSt → Option β) : Option β := if (0 ≤ sp ∧ 0 ≤ dp ∧ 0 ≤ n) ∧ sp.toNatClampNeg + n.toNatClampNeg ≤ ni ∧ dp.toNatClampNeg + n.toNatClampNeg ≤ nj then K (zsu σ j (va_cpy (σ i) (σ j) sp.toNatClampNeg dp.toNatClampNeg n.toNatClampNeg)) else none
theorem znn {x : Int32} (h : 0 ≤ x) : ¬ x < 0 := fun q => by
  rw [Int32.le_iff_toInt_le] at h
  rw [Int32.lt_iff_toInt_lt] at q
  omega
theorem zin {x : Int32} {n : Nat} (h : 0 ≤ x ∧ x.toNatClampNeg < n) : vp_in x n := fun q => q.elim (znn h.1) (fun q => absurd h.2 (Nat.not_lt.mpr q))
/-! the classes whose objects the worlds hold; the links to nest mates -/
def zcl : List vw_C := [(RX0, TX0, 4), (RX1, TX1, 3), (RX2, TX2, 3), (RX4, TX4, 9), (RX5, TX5, 8), (RX6, TX6, 27)]
def znests : List Cond := [.methodLinkNest RX4 48 yX5_worthOf "VineRows", .methodLinkNest RX4 97 yX5_leastOf "VineRows"]
theorem znests_on : znests.all Cond.onTables = true := rfl
theorem znests_warm {s U : State} (hW : s.WarmedH U.vm) (h : ∀ w ∈ znests, va_Nw w s) : ∀ w ∈ znests, va_Nw w U := by
  intro w hw
  have h1 := h w hw
  rcases List.mem_cons.mp hw with rfl | hw
  · exact va_Nw.warmM hW h1
  · rcases List.mem_cons.mp hw with rfl | hw
    · exact va_Nw.warmM hW h1
    · exact absurd hw List.not_mem_nil
/-! the judgement -/
def zV (p : Program) (l : Launch) (e : Env) (R : Room) (s : State) (m : MethodId) (args : Array Value) (below : List Frame) (meth : Method) (c : Code) (D : va_G) (N : Nat) (a : Nat → Nat) (f : Nat → (Nat → Int32) → va_E) (nL : Nat) (Q : State → Prop) (σ : zSt) (pc : Nat) (lv : List (Option Value)) (st : List Value) : Prop :=
  ∀ (H : Heap) (locs : List Loc) (ls : Array Slot), va_P D zcl (zwd N a f σ) H → va_S (zAA N a) s.heap H locs → zlx ls nL lv → W p l e R s m args below meth c H locs 0 0 Q (F0 m pc ls st)
def zC (p : Program) (s : State) (m : MethodId) (args : Array Value) (meth : Method) (c : Code) (D : va_G) (tys : List (ClassId × FieldType)) (N : Nat) (a : Nat → Nat) (cc : ByteArray) (nL : Nat) (own : String) (ret : Option FieldType) : Prop :=
  p.tables.exec = Jvm.exec ∧ c.code = cc ∧ c.maxLocals = nL ∧ s.vm.findClass own = some m.cls ∧ (∀ w ∈ zbig, w.before args s = true) ∧ va_K D zcl tys s ∧ (∀ w ∈ znests, va_Nw w s) ∧ (∀ i j, i < N → j < N → a i = a j → i = j) ∧ meth.locks = false ∧ meth.sig.returnType = ret
def zQi (below : List Frame) (args : Array Value) (s : State) (D : va_G) (N : Nat) (a : Nat → Nat) (f : Nat → (Nat → Int32) → va_E) (out : Int32 × zSt) : State → Prop := MQ below (va_Qi (fun (r : Int32) (u : zSt) => (r, u) = out) (fun u t => va_P D zcl (zwd N a f u) t.heap) (zAA N a)) args s 0 0 (zAA N a)
def zQl (below : List Frame) (args : Array Value) (s : State) (D : va_G) (N : Nat) (a : Nat → Nat) (f : Nat → (Nat → Int32) → va_E) (out : Int64 × zSt) : State → Prop := MQ below (va_Ql (fun (r : Int64) (u : zSt) => (r, u) = out) (fun u t => va_P D zcl (zwd N a f u) t.heap) (zAA N a)) args s 0 0 (zAA N a)
def zQv (below : List Frame) (args : Array Value) (s : State) (D : va_G) (N : Nat) (a : Nat → Nat) (f : Nat → (Nat → Int32) → va_E) (out : zSt) : State → Prop := MQ below (va_Qv (fun (u : zSt) => u = out) (fun u t => va_P D zcl (zwd N a f u) t.heap) (zAA N a)) args s 0 0 (zAA N a)
def zPc (D : va_G) (tys : List (ClassId × FieldType)) (N : Nat) (a : Nat → Nat) (f : Nat → (Nat → Int32) → va_E) (av : List Value) (σ : zSt) : Array Value → State → Prop := va_Pc av (fun U => va_P D zcl (zwd N a f σ) U.heap ∧ va_K D zcl tys U ∧ (∀ w ∈ znests, va_Nw w U))
def zMi (l : Launch) (D : va_G) (tys : List (ClassId × FieldType)) (N : Nat) (a : Nat → Nat) (f : Nat → (Nat → Int32) → va_E) (y : MethodName) (cc : ByteArray) (nL : Nat) (ret : Option FieldType) (rm : Room) (av : List Value) (σ : zSt) (out : Int32 × zSt) : Prop :=
  Met l y (.code y cc nL ret :: zbig) rm (zPc D tys N a f av σ) (va_Qi (fun (r : Int32) (u : zSt) => (r, u) = out) (fun u t => va_P D zcl (zwd N a f u) t.heap) (zAA N a)) 0 0 (zAA N a)
def zMl (l : Launch) (D : va_G) (tys : List (ClassId × FieldType)) (N : Nat) (a : Nat → Nat) (f : Nat → (Nat → Int32) → va_E) (y : MethodName) (cc : ByteArray) (nL : Nat) (ret : Option FieldType) (rm : Room) (av : List Value) (σ : zSt) (out : Int64 × zSt) : Prop :=
  Met l y (.code y cc nL ret :: zbig) rm (zPc D tys N a f av σ) (va_Ql (fun (r : Int64) (u : zSt) => (r, u) = out) (fun u t => va_P D zcl (zwd N a f u) t.heap) (zAA N a)) 0 0 (zAA N a)
def zMv (l : Launch) (D : va_G) (tys : List (ClassId × FieldType)) (N : Nat) (a : Nat → Nat) (f : Nat → (Nat → Int32) → va_E) (y : MethodName) (cc : ByteArray) (nL : Nat) (ret : Option FieldType) (rm : Room) (av : List Value) (σ : zSt) (out : zSt) : Prop :=
  Met l y (.code y cc nL ret :: zbig) rm (zPc D tys N a f av σ) (va_Qv (fun (u : zSt) => u = out) (fun u t => va_P D zcl (zwd N a f u) t.heap) (zAA N a)) 0 0 (zAA N a)
theorem zPc_blind {D : va_G} {tys : List (ClassId × FieldType)} {N : Nat} {a : Nat → Nat} {f : Nat → (Nat → Int32) → va_E} {av : List Value} {σ : zSt} : FrameBlind (zPc D tys N a f av σ) := by
  intro v U g mk q
  obtain ⟨q0, qP, qK, qN⟩ := q
  exact ⟨q0, qP, va_K.moved (u := U) (U := U.calling g mk v) (Vm.Alike.refl U.vm) qK, fun w hw => va_Nw.same (u := U) (U := U.calling g mk v) (List.all_eq_true.mp znests_on w hw) rfl (qN w hw)⟩
