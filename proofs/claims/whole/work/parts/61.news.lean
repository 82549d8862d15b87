/-! cells that come: rows over lists of cells -/
def zAO (cA cI : ClassId) (U : State) : Prop := ∃ kA : Class, U.vm.classes[cA]? = some kA ∧ kA.kind = .array cI (.array .int)
theorem zAO.moved {cA cI : ClassId} {u U : State} (hvm : u.vm.Alike U.vm) (h : zAO cA cI u) : zAO cA cI U := by
  obtain ⟨k, h1, h2⟩ := h
  obtain ⟨k', hk', he⟩ := hvm.2.2 _ _ h1
  exact ⟨k', hk', by rw [he]; exact h2⟩
theorem zarr_eq {cA : ClassId} {n : Nat} {f g : Nat → Value} (h : ∀ j, j < n → f j = g j) : arrV cA n f = arrV cA n g := by
  unfold arrV
  congr 1
  congr 1
  funext j
  exact h j.val j.isLt
theorem z88_tj {cA cI : ClassId} {s : State} (k : Nat) : (z88 cA cI s k).topJava? = s.topJava? := rfl
section ZMS
variable {E : CtlPost} {e : Env} {d : Bool} {acts : List Action} {s : State}
theorem zwp_sem {Q : Unit → Pre} {index : Nat} {cA cI comp : ClassId} {kA kI : Class} {f : JFrame} {rest : List Value} (hs : s.topJava?.isSome) (hr : s.vm.classReady f.method.cls index cA) (hstack : f.stack = .int 8 :: .int 8 :: rest)
    (hkA : s.vm.classes[cA]? = some kA) (hkindA : kA.kind = .array cI (.array .int)) (hkI : s.vm.classes[cI]? = some kI) (hkindI : kI.kind = .array comp .int) (hl : 8 ≤ e.platform.arrayLengthLimit) (hh : 32 ≤ e.platform.maxHeapBytes) (h1 : s.heap.size + 9 ≤ e.platform.maxCells) (h2 : s.slotsUsed + 72 ≤ e.platform.maxSlots)
    (hq : ∀ d' acts', Q () d' acts' ((z88 cA cI s 8).setTop { f with stack := .ref s.heap.size :: rest })) : wp (Jvm.Op.multianewarray.sem index 2) Q E e d acts (s.setTop f) := by
  simp only [Jvm.Op.multianewarray.sem, wp_bind', W.resolveClassAt_ready (State.method?_setTop f hs) hr, Jvm.popN, W.pop, wp_pure', State.topJava?_setTop' _ hs, Option.some.injEq, exists_eq_left', hstack, List.cons.injEq, exists_cons_eq, State.setTop_setTop, List.nil_append, List.cons_append, List.mapM_cons, List.mapM_nil]
  refine zwp_make (s := s.setTop { f with stack := rest }) hkA hkindA hkI hkindI hl hh (by rw [State.heap_setTop]; exact h1) (by rw [State.slotsUsed_setTop]; exact h2) (fun d' acts' => ?_)
  simp only [W.mark, W.pushRef, z88_top, State.heap_setTop]
  have ht : (z88 cA cI s 8).topJava?.isSome := by
    rw [z88_tj]
    exact hs
  refine ⟨_, State.topJava?_setTop' _ ht, ?_⟩
  rw [State.setTop_setTop]
  exact hq _ _
theorem zwp_cold {Q : Unit → Pre} {f : JFrame} {index c : Nat} {vm' : Vm} (hs : s.topJava?.isSome) (hg : (Jvm.resolveClass f.method.cls index).Gives e.toSetting s.vm (.ok c) vm') (hr : vm'.classReady f.method.cls index c) (hsz : vm'.classes.size ≤ s.vm.classes.size := by no_record) :
    wp (Jvm.Op.multianewarray.sem index 2) Q E e d acts (s.setTop f) ↔ wp (Jvm.Op.multianewarray.sem index 2) Q E e d acts ((s.setVm vm').setTop f) := by
  simp only [Jvm.Op.multianewarray.sem, wp_bind']
  exact W.resolveClassAt_transfer (s := s.setTop f) (State.method?_setTop f hs) hg hr hsz
end ZMS
section ZNW
variable {p : Program} {l : Launch} {e : Env} {R : Room} {s : State} {m : MethodId} {args : Array Value} {below : List Frame} {meth : Method} {c : Code} {H H0 : Heap} {locs : List Loc} {cells slots : Nat} {Q : State → Prop} {D : va_G} {cl : List vw_C} {tys : List (ClassId × FieldType)} {ws : va_W} {A : Nat → Prop}
variable {cc : ByteArray} {pc : Nat} {ls : Array Slot} {rest : List Value} {cI cO cA : ClassId}
def zmc (cA cI : ClassId) (q : Nat) : va_W := (q, .inl (cA, 8, .inr (.inr (.inr (.inr (fun j => some (q + 1 + j))))))) :: (List.range 8).map (fun j => (q + 1 + j, .inl (cI, 8, .inl (fun _ => 0))))
theorem zmc_get {cA cI : ClassId} {q k : Nat} {x : Nat × va_E} (h : (zmc cA cI q)[k]? = some x) : (k = 0 ∧ x = (q, .inl (cA, 8, .inr (.inr (.inr (.inr (fun j => some (q + 1 + j)))))))) ∨ ∃ j, j < 8 ∧ k = j + 1 ∧ x = (q + 1 + j, .inl (cI, 8, .inl (fun _ => 0))) := by
  cases k with
  | zero =>
    left
    exact ⟨rfl, (Option.some.inj h).symm⟩
  | succ k =>
    right
    have h : ((List.range 8).map (fun j => (q + 1 + j, (Sum.inl (cI, 8, .inl (fun _ => 0)) : va_E))))[k]? = some x := h
    have hk : k < 8 := by
      have := (List.getElem?_eq_some_iff.mp h).1
      simpa using this
    refine ⟨k, hk, rfl, ?_⟩
    rw [List.getElem?_map, List.getElem?_range hk] at h
    exact (Option.some.inj h).symm
theorem zn_multi (hexec : p.tables.exec = Jvm.exec) (hb : c.code = cc) {own : String} {index : Nat} (hown : s.vm.findClass own = some m.cls) (hclink : (Cond.classLink own index "[[I").before args s = true) (hO : zAO cA cI s) (hK : va_K D cl (ztys cI cO cA) s) (hP : va_P D cl ws H) (hD : va_D A ws) (hS : va_S A H0 H locs) (hA : ∀ q, H0.size ≤ q → A q) (hcells : cells + 9 ≤ R.cells) (hslots : slots + 72 ≤ R.slots) (hdg : decode cc pc = .ok (.multianewarray index 2, 4))
    (kk : ∀ (q : Nat) (H1 : Heap) (locs1 : List Loc), va_P D cl (ws ++ zmc cA cI q) H1 → va_D A (ws ++ zmc cA cI q) → va_S A H0 H1 locs1 → W p l e R s m args below meth c H1 locs1 (cells + 9) (slots + 72) Q (F0 m (pc + 4) ls (.ref q :: rest))) : W p l e R s m args below meth c H locs cells slots Q (F0 m pc ls (.int 8 :: .int 8 :: rest)) := by
  intro T hT X
  subst hT; subst hb
  have hpl : e.platform.magicAccessors = ({} : Platform).magicAccessors := by rw [X.admits.platform]
  obtain ⟨kA, hkA, hkindA⟩ := hO
  obtain ⟨-, kI, hkI, comp, hkindI⟩ := (hK.2 0 (cI, .int) rfl).1 8 (fun _ => .int 0)
  have hfA : s.vm.findClass "[[I" = some cA := (hK.2 2 (cA, .array .int) rfl).2
  obtain ⟨cc', hfcc, hcl⟩ := Cond.classLink_spec hown hclink e.platform hpl
  cases hfA.symm.trans hfcc
  obtain ⟨hg₁, hwarm₁, hready₁⟩ := State.classEntry (e := e) X.warmed hcl
  generalize T.vm.noted m.cls index (.cls cA) = vm₁ at hg₁ hwarm₁ hready₁
  have hal : s.vm.Alike vm₁ := hwarm₁.alike
  obtain ⟨kA₁, hkA₁, heA⟩ := hal.2.2 _ _ hkA
  have hkindA₁ : kA₁.kind = .array cI (.array .int) := by rw [heA]; exact hkindA
  obtain ⟨kI₁, hkI₁, heI⟩ := hal.2.2 _ _ hkI
  have hkindI₁ : kI₁.kind = .array comp .int := by rw [heI]; exact hkindI
  have hlimit : 8 ≤ e.platform.arrayLengthLimit := by rw [Launch.admits_arrayLengthLimit X.admits]; omega
  have hheap : 32 ≤ e.platform.maxHeapBytes := by
    rw [Launch.admits_maxHeapBytes X.admits]; omega
  obtain ⟨locs1, hl1, X1⟩ := z88_stand (cA := cA) (cI := cI) (X.noted hwarm₁) 8
  obtain ⟨hr1, hr2⟩ := X.roomAbove hcells hslots
  have hsz : (z88 cA cI (T.setVm vm₁) 8).heap.size = T.heap.size + 9 := z88_size 8
  have hold : ∀ q, q < T.heap.size → (z88 cA cI (T.setVm vm₁) 8).heap[q]? = T.heap[q]? := fun q hq => z88_old (s := T.setVm vm₁) hq 8
  have hk : ∀ (k : Nat) (x : Nat × va_E), ws[k]? = some x → (z88 cA cI (T.setVm vm₁) 8).heap[x.1]? = T.heap[x.1]? := fun k x hx => hold x.1 ((hP k x hx).lt)
  have hP2 : va_P D cl (zmc cA cI T.heap.size) (z88 cA cI (T.setVm vm₁) 8).heap := by
    intro k x hx
    rcases zmc_get hx with ⟨-, rfl⟩ | ⟨j, hj, -, rfl⟩
    · show _ = some (vp_cell _ _)
      rw [vp_cell_q]
      have := z88_out (cA := cA) (cI := cI) (s := T.setVm vm₁) 8
      rw [show (T.setVm vm₁).heap.size = T.heap.size from rfl] at this
      rw [this]
      exact congrArg some (zarr_eq (fun j hj => by simp [zmf, hj, va_rf]))
    · exact z88_row (cA := cA) (cI := cI) (s := T.setVm vm₁) 8 hj
  have hD2 : va_D A (ws ++ zmc cA cI T.heap.size) := by
    refine hD.app ⟨fun i j x y hx hy hxy => ?_, fun k x hx => ?_⟩ (fun i j x y hx hy hxy => ?_)
    · rcases zmc_get hx with ⟨h1, rfl⟩ | ⟨a, ha, h1, rfl⟩ <;> rcases zmc_get hy with ⟨h2, rfl⟩ | ⟨b, hb, h2, rfl⟩ <;> dsimp only at hxy <;> omega
    · rcases zmc_get hx with ⟨h1, rfl⟩ | ⟨a, ha, h1, rfl⟩
      · exact hA _ hS.1
      · exact hA _ (Nat.le_trans hS.1 (by dsimp only; omega))
    · have h1 := (hP i x hx).lt
      rcases zmc_get hy with ⟨h2, rfl⟩ | ⟨b, hb, h2, rfl⟩ <;> dsimp only at hxy <;> omega
  obtain ⟨t', a1, b1⟩ := kk T.heap.size (z88 cA cI (T.setVm vm₁) 8).heap locs1 ((hP.kept hk).app hP2) hD2 ⟨by rw [hsz]; have := hS.1; omega, fun q h1 h2 => (hold q (Nat.lt_of_lt_of_le h1 hS.1)).trans (hS.2.1 q h1 h2), fun q hq => by
    rcases hl1 q hq with h | h
    · exact hS.2.2 q h
    · rw [h]; exact hA _ hS.1⟩ (z88 cA cI (T.setVm vm₁) 8) rfl X1
  refine ⟨t', ?_, b1⟩
  jvm_step X.here [hexec, hdg]
  refine (zwp_cold (f := F0 m pc ls (.int 8 :: .int 8 :: rest)) X.here.top hg₁ hready₁).mpr ?_
  refine zwp_sem (s := T.setVm vm₁) (f := F0 m pc ls (.int 8 :: .int 8 :: rest)) (rest := rest) X.here.top hready₁ rfl hkA₁ hkindA₁ hkI₁ hkindI₁ hlimit hheap hr1 hr2 (fun d' acts' acts2 => ?_)
  rw [afterInstr_ok]
  exact a1
end ZNW
