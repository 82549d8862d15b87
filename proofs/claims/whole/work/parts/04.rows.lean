/-! ROWS over zV: one an instruction -/
/-- the cell i is an array of n ints -/
def zA (N : Nat) (f : Nat → (Nat → Int32) → va_E) (cI : ClassId) (i n : Nat) : Prop := i < N ∧ ∀ φ, f i φ = .inl (cI, n, .inl φ)
/-- the cell i is an array of n references, to the cells off .. -/
def zB (N : Nat) (a : Nat → Nat) (f : Nat → (Nat → Int32) → va_E) (cA : ClassId) (i n off : Nat) : Prop := i < N ∧ ∀ φ, f i φ = .inl (cA, n, .inr (.inr (.inr (.inr (fun j => some (a (off + j)))))))
section ZR
variable {p : Program} {l : Launch} {e : Env} {R : Room} {s : State} {m : MethodId} {args : Array Value} {below : List Frame} {meth : Method} {c : Code} {D : va_G} {tys : List (ClassId × FieldType)} {N : Nat} {a : Nat → Nat} {f : Nat → (Nat → Int32) → va_E} {cc : ByteArray} {nL : Nat} {own : String} {ret : Option FieldType} {Q : State → Prop} {σ : zSt} {pc : Nat} {lv lv' : List (Option Value)} {st : List Value} {β : Type} {o : β}
theorem r_iconst (C : zC p s m args meth c D tys N a cc nL own ret) {n : Int} {v : Int32} (hd : decode cc pc = .ok (.iconst n, 1)) (hv : Int32.ofInt n = v) (k : zV p l e R s m args below meth c D N a f nL Q σ (pc + 1) lv (.int v :: st)) : zV p l e R s m args below meth c D N a f nL Q σ pc lv st := fun H locs ls hP hS hl => lv_iconst C.1 C.2.1 hd hv (k H locs ls hP hS hl)
theorem r_bipush (C : zC p s m args meth c D tys N a cc nL own ret) {n : Int} {v : Int32} (hd : decode cc pc = .ok (.bipush n, 2)) (hv : (Int8.ofInt n).toInt32 = v) (k : zV p l e R s m args below meth c D N a f nL Q σ (pc + 2) lv (.int v :: st)) : zV p l e R s m args below meth c D N a f nL Q σ pc lv st := fun H locs ls hP hS hl => lv_bipush C.1 C.2.1 hd hv (k H locs ls hP hS hl)
theorem r_sipush (C : zC p s m args meth c D tys N a cc nL own ret) {n : Int} {v : Int32} (hd : decode cc pc = .ok (.sipush n, 3)) (hv : (Int16.ofInt n).toInt32 = v) (k : zV p l e R s m args below meth c D N a f nL Q σ (pc + 3) lv (.int v :: st)) : zV p l e R s m args below meth c D N a f nL Q σ pc lv st := fun H locs ls hP hS hl => lv_sipush C.1 C.2.1 hd hv (k H locs ls hP hS hl)
theorem r_lconst (C : zC p s m args meth c D tys N a cc nL own ret) {n : Fin 2} {v : Int64} (hd : decode cc pc = .ok (.lconst n, 1)) (hv : Int64.ofNat (n : Nat) = v) (k : zV p l e R s m args below meth c D N a f nL Q σ (pc + 1) lv (.long v :: st)) : zV p l e R s m args below meth c D N a f nL Q σ pc lv st := fun H locs ls hP hS hl => lv_lconst C.1 C.2.1 hd hv (k H locs ls hP hS hl)
theorem r_iload_n (C : zC p s m args meth c D tys N a cc nL own ret) {k : Fin 4} {x : Int32} (hd : decode cc pc = .ok (.iload_n k, 1)) (hl : lv[(k : Nat)]? = some (some (.int x))) (kk : zV p l e R s m args below meth c D N a f nL Q σ (pc + 1) lv (.int x :: st)) : zV p l e R s m args below meth c D N a f nL Q σ pc lv st := fun H locs ls hP hS hL => lv_iload_n C.1 C.2.1 hd rfl (zlx_at hL hl) (kk H locs ls hP hS hL)
theorem r_iload (C : zC p s m args meth c D tys N a cc nL own ret) {k : Nat} {x : Int32} (hd : decode cc pc = .ok (.iload k, 2)) (hl : lv[k]? = some (some (.int x))) (kk : zV p l e R s m args below meth c D N a f nL Q σ (pc + 2) lv (.int x :: st)) : zV p l e R s m args below meth c D N a f nL Q σ pc lv st := fun H locs ls hP hS hL => lv_iload C.1 C.2.1 hd (zlx_at hL hl) (kk H locs ls hP hS hL)
theorem r_lload_n (C : zC p s m args meth c D tys N a cc nL own ret) {k : Fin 4} {x : Int64} (hd : decode cc pc = .ok (.lload_n k, 1)) (hl : lv[(k : Nat)]? = some (some (.long x))) (kk : zV p l e R s m args below meth c D N a f nL Q σ (pc + 1) lv (.long x :: st)) : zV p l e R s m args below meth c D N a f nL Q σ pc lv st := fun H locs ls hP hS hL => lv_lload_n C.1 C.2.1 hd rfl (zlx_at hL hl) (kk H locs ls hP hS hL)
theorem r_lload (C : zC p s m args meth c D tys N a cc nL own ret) {k : Nat} {x : Int64} (hd : decode cc pc = .ok (.lload k, 2)) (hl : lv[k]? = some (some (.long x))) (kk : zV p l e R s m args below meth c D N a f nL Q σ (pc + 2) lv (.long x :: st)) : zV p l e R s m args below meth c D N a f nL Q σ pc lv st := fun H locs ls hP hS hL => lv_lload C.1 C.2.1 hd (zlx_at hL hl) (kk H locs ls hP hS hL)
theorem r_aload_n (C : zC p s m args meth c D tys N a cc nL own ret) {k : Fin 4} {x : Nat} (hd : decode cc pc = .ok (.aload_n k, 1)) (hl : lv[(k : Nat)]? = some (some (.ref x))) (kk : zV p l e R s m args below meth c D N a f nL Q σ (pc + 1) lv (.ref x :: st)) : zV p l e R s m args below meth c D N a f nL Q σ pc lv st := fun H locs ls hP hS hL => lv_aload_n C.1 C.2.1 hd rfl (zlx_at hL hl) (kk H locs ls hP hS hL)
theorem r_aload (C : zC p s m args meth c D tys N a cc nL own ret) {k : Nat} {x : Nat} (hd : decode cc pc = .ok (.aload k, 2)) (hl : lv[k]? = some (some (.ref x))) (kk : zV p l e R s m args below meth c D N a f nL Q σ (pc + 2) lv (.ref x :: st)) : zV p l e R s m args below meth c D N a f nL Q σ pc lv st := fun H locs ls hP hS hL => lv_aload C.1 C.2.1 hd (zlx_at hL hl) (kk H locs ls hP hS hL)
theorem r_istore_n (C : zC p s m args meth c D tys N a cc nL own ret) {k : Fin 4} {x : Int32} (hd : decode cc pc = .ok (.istore_n k, 1)) (hn : (k : Nat) < nL) (hp : zpre lv (k : Nat) = true) (hs : lv.set (k : Nat) (some (.int x)) = lv') (kk : zV p l e R s m args below meth c D N a f nL Q σ (pc + 1) lv' st) : zV p l e R s m args below meth c D N a f nL Q σ pc lv (.int x :: st) := fun H locs ls hP hS hL => lv_istore_n C.1 C.2.1 hd rfl hL hn rfl (fun ls' h => kk H locs ls' hP hS (hs ▸ zlx_st1 hp h))
theorem r_istore (C : zC p s m args meth c D tys N a cc nL own ret) {k : Nat} {x : Int32} (hd : decode cc pc = .ok (.istore k, 2)) (hn : k < nL) (hp : zpre lv k = true) (hs : lv.set k (some (.int x)) = lv') (kk : zV p l e R s m args below meth c D N a f nL Q σ (pc + 2) lv' st) : zV p l e R s m args below meth c D N a f nL Q σ pc lv (.int x :: st) := fun H locs ls hP hS hL => lv_istore C.1 C.2.1 hd hL hn rfl (fun ls' h => kk H locs ls' hP hS (hs ▸ zlx_st1 hp h))
theorem r_astore_n (C : zC p s m args meth c D tys N a cc nL own ret) {k : Fin 4} {x : Nat} (hd : decode cc pc = .ok (.astore_n k, 1)) (hn : (k : Nat) < nL) (hp : zpre lv (k : Nat) = true) (hs : lv.set (k : Nat) (some (.ref x)) = lv') (kk : zV p l e R s m args below meth c D N a f nL Q σ (pc + 1) lv' st) : zV p l e R s m args below meth c D N a f nL Q σ pc lv (.ref x :: st) := fun H locs ls hP hS hL => lv_astore_n C.1 C.2.1 hd rfl hL hn rfl (fun ls' h => kk H locs ls' hP hS (hs ▸ zlx_st1 hp h))
theorem r_astore (C : zC p s m args meth c D tys N a cc nL own ret) {k : Nat} {x : Nat} (hd : decode cc pc = .ok (.astore k, 2)) (hn : k < nL) (hp : zpre lv k = true) (hs : lv.set k (some (.ref x)) = lv') (kk : zV p l e R s m args below meth c D N a f nL Q σ (pc + 2) lv' st) : zV p l e R s m args below meth c D N a f nL Q σ pc lv (.ref x :: st) := fun H locs ls hP hS hL => lv_astore C.1 C.2.1 hd hL hn rfl (fun ls' h => kk H locs ls' hP hS (hs ▸ zlx_st1 hp h))
theorem r_lstore_n (C : zC p s m args meth c D tys N a cc nL own ret) {k : Fin 4} {x : Int64} (hd : decode cc pc = .ok (.lstore_n k, 1)) (hn : (k : Nat) + 1 < nL) (hp : zpre lv (k : Nat) = true) (hs : (lv.set (k : Nat) (some (.long x))).set ((k : Nat) + 1) none = lv') (kk : zV p l e R s m args below meth c D N a f nL Q σ (pc + 1) lv' st) : zV p l e R s m args below meth c D N a f nL Q σ pc lv (.long x :: st) := fun H locs ls hP hS hL => lv_lstore_n C.1 C.2.1 hd rfl hL hn rfl (fun ls' h => kk H locs ls' hP hS (hs ▸ zlx_st2 hp h))
theorem r_lstore (C : zC p s m args meth c D tys N a cc nL own ret) {k : Nat} {x : Int64} (hd : decode cc pc = .ok (.lstore k, 2)) (hn : k + 1 < nL) (hp : zpre lv k = true) (hs : (lv.set k (some (.long x))).set (k + 1) none = lv') (kk : zV p l e R s m args below meth c D N a f nL Q σ (pc + 2) lv' st) : zV p l e R s m args below meth c D N a f nL Q σ pc lv (.long x :: st) := fun H locs ls hP hS hL => lv_lstore C.1 C.2.1 hd hL hn rfl (fun ls' h => kk H locs ls' hP hS (hs ▸ zlx_st2 hp h))
theorem r_iinc (C : zC p s m args meth c D tys N a cc nL own ret) {i : Nat} {n : Int} {x v : Int32} (hd : decode cc pc = .ok (.iinc i n, 3)) (hl : lv[i]? = some (some (.int x))) (hv : x + Int32.ofInt n = v) (hn : i < nL) (hp : zpre lv i = true) (hs : lv.set i (some (.int v)) = lv') (kk : zV p l e R s m args below meth c D N a f nL Q σ (pc + 3) lv' st) : zV p l e R s m args below meth c D N a f nL Q σ pc lv st := by
  intro H locs ls hP hS hL
  obtain ⟨k, hk⟩ := List.getElem?_of_mem ((zlp_mem lv 0 i (.int x)).mpr ⟨i, by omega, hl⟩)
  exact lv_iinc C.1 C.2.1 hd hL hk hv hn rfl (fun ls' h => kk H locs ls' hP hS (hs ▸ zlx_st1 hp h))
theorem r_iadd (C : zC p s m args meth c D tys N a cc nL own ret) {x y : Int32} (hd : decode cc pc = .ok (.iadd, 1)) (k : zV p l e R s m args below meth c D N a f nL Q σ (pc + 1) lv (.int (x + y) :: st)) : zV p l e R s m args below meth c D N a f nL Q σ pc lv (.int y :: .int x :: st) := fun H locs ls hP hS hl => lv_iadd C.1 C.2.1 hd (k H locs ls hP hS hl)
theorem r_isub (C : zC p s m args meth c D tys N a cc nL own ret) {x y : Int32} (hd : decode cc pc = .ok (.isub, 1)) (k : zV p l e R s m args below meth c D N a f nL Q σ (pc + 1) lv (.int (x - y) :: st)) : zV p l e R s m args below meth c D N a f nL Q σ pc lv (.int y :: .int x :: st) := fun H locs ls hP hS hl => lv_isub C.1 C.2.1 hd (k H locs ls hP hS hl)
theorem r_imul (C : zC p s m args meth c D tys N a cc nL own ret) {x y : Int32} (hd : decode cc pc = .ok (.imul, 1)) (k : zV p l e R s m args below meth c D N a f nL Q σ (pc + 1) lv (.int (x * y) :: st)) : zV p l e R s m args below meth c D N a f nL Q σ pc lv (.int y :: .int x :: st) := fun H locs ls hP hS hl => lv_imul C.1 C.2.1 hd (k H locs ls hP hS hl)
theorem r_iand (C : zC p s m args meth c D tys N a cc nL own ret) {x y : Int32} (hd : decode cc pc = .ok (.iand, 1)) (k : zV p l e R s m args below meth c D N a f nL Q σ (pc + 1) lv (.int (x &&& y) :: st)) : zV p l e R s m args below meth c D N a f nL Q σ pc lv (.int y :: .int x :: st) := fun H locs ls hP hS hl => lv_iand C.1 C.2.1 hd (k H locs ls hP hS hl)
theorem r_ior (C : zC p s m args meth c D tys N a cc nL own ret) {x y : Int32} (hd : decode cc pc = .ok (.ior, 1)) (k : zV p l e R s m args below meth c D N a f nL Q σ (pc + 1) lv (.int (x ||| y) :: st)) : zV p l e R s m args below meth c D N a f nL Q σ pc lv (.int y :: .int x :: st) := fun H locs ls hP hS hl => lv_ior C.1 C.2.1 hd (k H locs ls hP hS hl)
theorem r_ixor (C : zC p s m args meth c D tys N a cc nL own ret) {x y : Int32} (hd : decode cc pc = .ok (.ixor, 1)) (k : zV p l e R s m args below meth c D N a f nL Q σ (pc + 1) lv (.int (x ^^^ y) :: st)) : zV p l e R s m args below meth c D N a f nL Q σ pc lv (.int y :: .int x :: st) := fun H locs ls hP hS hl => lv_ixor C.1 C.2.1 hd (k H locs ls hP hS hl)
theorem r_ishl (C : zC p s m args meth c D tys N a cc nL own ret) {x y : Int32} (hd : decode cc pc = .ok (.ishl, 1)) (k : zV p l e R s m args below meth c D N a f nL Q σ (pc + 1) lv (.int (x <<< (y &&& 31)) :: st)) : zV p l e R s m args below meth c D N a f nL Q σ pc lv (.int y :: .int x :: st) := fun H locs ls hP hS hl => lv_ishl C.1 C.2.1 hd (k H locs ls hP hS hl)
theorem r_ishr (C : zC p s m args meth c D tys N a cc nL own ret) {x y : Int32} (hd : decode cc pc = .ok (.ishr, 1)) (k : zV p l e R s m args below meth c D N a f nL Q σ (pc + 1) lv (.int (x >>> (y &&& 31)) :: st)) : zV p l e R s m args below meth c D N a f nL Q σ pc lv (.int y :: .int x :: st) := fun H locs ls hP hS hl => lv_ishr C.1 C.2.1 hd (k H locs ls hP hS hl)
theorem r_iushr (C : zC p s m args meth c D tys N a cc nL own ret) {x y : Int32} (hd : decode cc pc = .ok (.iushr, 1)) (k : zV p l e R s m args below meth c D N a f nL Q σ (pc + 1) lv (.int ((x.toUInt32 >>> (y.toUInt32 &&& Int32.toUInt32 31)).toInt32) :: st)) : zV p l e R s m args below meth c D N a f nL Q σ pc lv (.int y :: .int x :: st) := fun H locs ls hP hS hl => lv_iushr C.1 C.2.1 hd rfl (k H locs ls hP hS hl)
theorem r_idiv (C : zC p s m args meth c D tys N a cc nL own ret) {x y : Int32} {K : Int32 → Option β} (hd : decode cc pc = .ok (.idiv, 1)) (h : zdv x y K = some o) (k : ∀ v, K v = some o → zV p l e R s m args below meth c D N a f nL Q σ (pc + 1) lv (.int v :: st)) : zV p l e R s m args below meth c D N a f nL Q σ pc lv (.int y :: .int x :: st) := by
  intro H locs ls hP hS hl
  unfold zdv at h
  by_cases hy : y = 0
  · rw [if_pos hy] at h; cases h
  · rw [if_neg hy] at h
    exact lv_idiv C.1 C.2.1 hd hy (k _ h H locs ls hP hS hl)
theorem r_irem (C : zC p s m args meth c D tys N a cc nL own ret) {x y : Int32} {K : Int32 → Option β} (hd : decode cc pc = .ok (.irem, 1)) (h : zrm x y K = some o) (k : ∀ v, K v = some o → zV p l e R s m args below meth c D N a f nL Q σ (pc + 1) lv (.int v :: st)) : zV p l e R s m args below meth c D N a f nL Q σ pc lv (.int y :: .int x :: st) := by
  intro H locs ls hP hS hl
  unfold zrm at h
  by_cases hy : y = 0
  · rw [if_pos hy] at h; cases h
  · rw [if_neg hy] at h
    exact lv_irem C.1 C.2.1 hd hy (k _ h H locs ls hP hS hl)
theorem r_ldiv (C : zC p s m args meth c D tys N a cc nL own ret) {x y : Int64} {K : Int64 → Option β} (hd : decode cc pc = .ok (.ldiv, 1)) (h : zdvL x y K = some o) (k : ∀ v, K v = some o → zV p l e R s m args below meth c D N a f nL Q σ (pc + 1) lv (.long v :: st)) : zV p l e R s m args below meth c D N a f nL Q σ pc lv (.long y :: .long x :: st) := by
  intro H locs ls hP hS hl
  unfold zdvL at h
  by_cases hy : y = 0
  · rw [if_pos hy] at h; cases h
  · rw [if_neg hy] at h
    exact lv_ldiv C.1 C.2.1 hd hy (k _ h H locs ls hP hS hl)
theorem r_lrem (C : zC p s m args meth c D tys N a cc nL own ret) {x y : Int64} {K : Int64 → Option β} (hd : decode cc pc = .ok (.lrem, 1)) (h : zrmL x y K = some o) (k : ∀ v, K v = some o → zV p l e R s m args below meth c D N a f nL Q σ (pc + 1) lv (.long v :: st)) : zV p l e R s m args below meth c D N a f nL Q σ pc lv (.long y :: .long x :: st) := by
  intro H locs ls hP hS hl
  unfold zrmL at h
  by_cases hy : y = 0
  · rw [if_pos hy] at h; cases h
  · rw [if_neg hy] at h
    exact lv_lrem C.1 C.2.1 hd hy (k _ h H locs ls hP hS hl)
theorem r_i2l (C : zC p s m args meth c D tys N a cc nL own ret) {x : Int32} (hd : decode cc pc = .ok (.i2l, 1)) (k : zV p l e R s m args below meth c D N a f nL Q σ (pc + 1) lv (.long x.toInt64 :: st)) : zV p l e R s m args below meth c D N a f nL Q σ pc lv (.int x :: st) := fun H locs ls hP hS hl => lv_i2l C.1 C.2.1 hd rfl (k H locs ls hP hS hl)
theorem r_i2b (C : zC p s m args meth c D tys N a cc nL own ret) {x : Int32} (hd : decode cc pc = .ok (.i2b, 1)) (k : zV p l e R s m args below meth c D N a f nL Q σ (pc + 1) lv (.int x.toInt8.toInt32 :: st)) : zV p l e R s m args below meth c D N a f nL Q σ pc lv (.int x :: st) := fun H locs ls hP hS hl => lv_i2b C.1 C.2.1 hd rfl (k H locs ls hP hS hl)
theorem r_i2s (C : zC p s m args meth c D tys N a cc nL own ret) {x : Int32} (hd : decode cc pc = .ok (.i2s, 1)) (k : zV p l e R s m args below meth c D N a f nL Q σ (pc + 1) lv (.int x.toInt16.toInt32 :: st)) : zV p l e R s m args below meth c D N a f nL Q σ pc lv (.int x :: st) := fun H locs ls hP hS hl => lv_i2s C.1 C.2.1 hd rfl (k H locs ls hP hS hl)
theorem r_lcmp (C : zC p s m args meth c D tys N a cc nL own ret) {x y : Int64} (hd : decode cc pc = .ok (.lcmp, 1)) (k : zV p l e R s m args below meth c D N a f nL Q σ (pc + 1) lv (.int (lg_cmp x y) :: st)) : zV p l e R s m args below meth c D N a f nL Q σ pc lv (.long y :: .long x :: st) := fun H locs ls hP hS hl => W.lcmp C.1 C.2.1 hd (k H locs ls hP hS hl)
theorem r_dup (C : zC p s m args meth c D tys N a cc nL own ret) {v : Value} (hd : decode cc pc = .ok (.dup, 1)) (hv : v.category = 1) (k : zV p l e R s m args below meth c D N a f nL Q σ (pc + 1) lv (v :: v :: st)) : zV p l e R s m args below meth c D N a f nL Q σ pc lv (v :: st) := fun H locs ls hP hS hl => lv_dup C.1 C.2.1 hd hv (k H locs ls hP hS hl)
theorem r_pop (C : zC p s m args meth c D tys N a cc nL own ret) {v : Value} (hd : decode cc pc = .ok (.pop, 1)) (hv : v.category = 1) (k : zV p l e R s m args below meth c D N a f nL Q σ (pc + 1) lv st) : zV p l e R s m args below meth c D N a f nL Q σ pc lv (v :: st) := fun H locs ls hP hS hl => lv_pop C.1 C.2.1 hd hv (k H locs ls hP hS hl)
theorem r_dup2 (C : zC p s m args meth c D tys N a cc nL own ret) {v w : Value} (hd : decode cc pc = .ok (.dup2, 1)) (hv : v.category = 1) (hw : w.category = 1) (k : zV p l e R s m args below meth c D N a f nL Q σ (pc + 1) lv (v :: w :: v :: w :: st)) : zV p l e R s m args below meth c D N a f nL Q σ pc lv (v :: w :: st) := fun H locs ls hP hS hl => lv_dup2_11 C.1 C.2.1 hd hv hw (k H locs ls hP hS hl)
theorem r_goto (C : zC p s m args meth c D tys N a cc nL own ret) {off : Int} {tgt : Nat} (hd : decode cc pc = .ok (.goto off, 3)) (ht : (pc : Int) + off = (tgt : Int)) (k : zV p l e R s m args below meth c D N a f nL Q σ tgt lv st) : zV p l e R s m args below meth c D N a f nL Q σ pc lv st := fun H locs ls hP hS hl => lv_goto C.1 C.2.1 hd ht (k H locs ls hP hS hl)
theorem r_icmp_eq (C : zC p s m args meth c D tys N a cc nL own ret) {x y : Int32} {off : Int} {tgt : Nat} {A B : Option β} (hd : decode cc pc = .ok (.if_icmp .eq off, 3)) (ht : (pc : Int) + off = (tgt : Int)) (h : (if x = y then A else B) = some o) (kt : A = some o → zV p l e R s m args below meth c D N a f nL Q σ tgt lv st) (kf : B = some o → zV p l e R s m args below meth c D N a f nL Q σ (pc + 3) lv st) : zV p l e R s m args below meth c D N a f nL Q σ pc lv (.int y :: .int x :: st) := fun H locs ls hP hS hl => lv_icmp_eq C.1 C.2.1 hd ht (fun q => kt (by rw [if_pos q] at h; exact h) H locs ls hP hS hl) (fun q => kf (by rw [if_neg q] at h; exact h) H locs ls hP hS hl)
theorem r_if_eq (C : zC p s m args meth c D tys N a cc nL own ret) {x : Int32} {off : Int} {tgt : Nat} {A B : Option β} (hd : decode cc pc = .ok (.ifCond .eq off, 3)) (ht : (pc : Int) + off = (tgt : Int)) (h : (if x = 0 then A else B) = some o) (kt : A = some o → zV p l e R s m args below meth c D N a f nL Q σ tgt lv st) (kf : B = some o → zV p l e R s m args below meth c D N a f nL Q σ (pc + 3) lv st) : zV p l e R s m args below meth c D N a f nL Q σ pc lv (.int x :: st) := fun H locs ls hP hS hl => lv_if_eq C.1 C.2.1 hd ht (fun q => kt (by rw [if_pos q] at h; exact h) H locs ls hP hS hl) (fun q => kf (by rw [if_neg q] at h; exact h) H locs ls hP hS hl)
theorem r_icmp_ne (C : zC p s m args meth c D tys N a cc nL own ret) {x y : Int32} {off : Int} {tgt : Nat} {A B : Option β} (hd : decode cc pc = .ok (.if_icmp .ne off, 3)) (ht : (pc : Int) + off = (tgt : Int)) (h : (if x = y then A else B) = some o) (kt : B = some o → zV p l e R s m args below meth c D N a f nL Q σ tgt lv st) (kf : A = some o → zV p l e R s m args below meth c D N a f nL Q σ (pc + 3) lv st) : zV p l e R s m args below meth c D N a f nL Q σ pc lv (.int y :: .int x :: st) := fun H locs ls hP hS hl => lv_icmp_ne C.1 C.2.1 hd ht (fun q => kt (by rw [if_neg q] at h; exact h) H locs ls hP hS hl) (fun q => kf (by rw [if_pos q] at h; exact h) H locs ls hP hS hl)
theorem r_if_ne (C : zC p s m args meth c D tys N a cc nL own ret) {x : Int32} {off : Int} {tgt : Nat} {A B : Option β} (hd : decode cc pc = .ok (.ifCond .ne off, 3)) (ht : (pc : Int) + off = (tgt : Int)) (h : (if x = 0 then A else B) = some o) (kt : B = some o → zV p l e R s m args below meth c D N a f nL Q σ tgt lv st) (kf : A = some o → zV p l e R s m args below meth c D N a f nL Q σ (pc + 3) lv st) : zV p l e R s m args below meth c D N a f nL Q σ pc lv (.int x :: st) := fun H locs ls hP hS hl => lv_if_ne C.1 C.2.1 hd ht (fun q => kt (by rw [if_neg q] at h; exact h) H locs ls hP hS hl) (fun q => kf (by rw [if_pos q] at h; exact h) H locs ls hP hS hl)
theorem r_icmp_lt (C : zC p s m args meth c D tys N a cc nL own ret) {x y : Int32} {off : Int} {tgt : Nat} {A B : Option β} (hd : decode cc pc = .ok (.if_icmp .lt off, 3)) (ht : (pc : Int) + off = (tgt : Int)) (h : (if x < y then A else B) = some o) (kt : A = some o → zV p l e R s m args below meth c D N a f nL Q σ tgt lv st) (kf : B = some o → zV p l e R s m args below meth c D N a f nL Q σ (pc + 3) lv st) : zV p l e R s m args below meth c D N a f nL Q σ pc lv (.int y :: .int x :: st) := fun H locs ls hP hS hl => lv_icmp_lt C.1 C.2.1 hd ht (fun q => kt (by rw [if_pos q] at h; exact h) H locs ls hP hS hl) (fun q => kf (by rw [if_neg q] at h; exact h) H locs ls hP hS hl)
theorem r_if_lt (C : zC p s m args meth c D tys N a cc nL own ret) {x : Int32} {off : Int} {tgt : Nat} {A B : Option β} (hd : decode cc pc = .ok (.ifCond .lt off, 3)) (ht : (pc : Int) + off = (tgt : Int)) (h : (if x < 0 then A else B) = some o) (kt : A = some o → zV p l e R s m args below meth c D N a f nL Q σ tgt lv st) (kf : B = some o → zV p l e R s m args below meth c D N a f nL Q σ (pc + 3) lv st) : zV p l e R s m args below meth c D N a f nL Q σ pc lv (.int x :: st) := fun H locs ls hP hS hl => lv_if_lt C.1 C.2.1 hd ht (fun q => kt (by rw [if_pos q] at h; exact h) H locs ls hP hS hl) (fun q => kf (by rw [if_neg q] at h; exact h) H locs ls hP hS hl)
theorem r_icmp_ge (C : zC p s m args meth c D tys N a cc nL own ret) {x y : Int32} {off : Int} {tgt : Nat} {A B : Option β} (hd : decode cc pc = .ok (.if_icmp .ge off, 3)) (ht : (pc : Int) + off = (tgt : Int)) (h : (if y ≤ x then A else B) = some o) (kt : A = some o → zV p l e R s m args below meth c D N a f nL Q σ tgt lv st) (kf : B = some o → zV p l e R s m args below meth c D N a f nL Q σ (pc + 3) lv st) : zV p l e R s m args below meth c D N a f nL Q σ pc lv (.int y :: .int x :: st) := fun H locs ls hP hS hl => lv_icmp_ge C.1 C.2.1 hd ht (fun q => kt (by rw [if_pos q] at h; exact h) H locs ls hP hS hl) (fun q => kf (by rw [if_neg q] at h; exact h) H locs ls hP hS hl)
theorem r_if_ge (C : zC p s m args meth c D tys N a cc nL own ret) {x : Int32} {off : Int} {tgt : Nat} {A B : Option β} (hd : decode cc pc = .ok (.ifCond .ge off, 3)) (ht : (pc : Int) + off = (tgt : Int)) (h : (if 0 ≤ x then A else B) = some o) (kt : A = some o → zV p l e R s m args below meth c D N a f nL Q σ tgt lv st) (kf : B = some o → zV p l e R s m args below meth c D N a f nL Q σ (pc + 3) lv st) : zV p l e R s m args below meth c D N a f nL Q σ pc lv (.int x :: st) := fun H locs ls hP hS hl => lv_if_ge C.1 C.2.1 hd ht (fun q => kt (by rw [if_pos q] at h; exact h) H locs ls hP hS hl) (fun q => kf (by rw [if_neg q] at h; exact h) H locs ls hP hS hl)
theorem r_icmp_gt (C : zC p s m args meth c D tys N a cc nL own ret) {x y : Int32} {off : Int} {tgt : Nat} {A B : Option β} (hd : decode cc pc = .ok (.if_icmp .gt off, 3)) (ht : (pc : Int) + off = (tgt : Int)) (h : (if y < x then A else B) = some o) (kt : A = some o → zV p l e R s m args below meth c D N a f nL Q σ tgt lv st) (kf : B = some o → zV p l e R s m args below meth c D N a f nL Q σ (pc + 3) lv st) : zV p l e R s m args below meth c D N a f nL Q σ pc lv (.int y :: .int x :: st) := fun H locs ls hP hS hl => lv_icmp_gt C.1 C.2.1 hd ht (fun q => kt (by rw [if_pos q] at h; exact h) H locs ls hP hS hl) (fun q => kf (by rw [if_neg q] at h; exact h) H locs ls hP hS hl)
theorem r_if_gt (C : zC p s m args meth c D tys N a cc nL own ret) {x : Int32} {off : Int} {tgt : Nat} {A B : Option β} (hd : decode cc pc = .ok (.ifCond .gt off, 3)) (ht : (pc : Int) + off = (tgt : Int)) (h : (if 0 < x then A else B) = some o) (kt : A = some o → zV p l e R s m args below meth c D N a f nL Q σ tgt lv st) (kf : B = some o → zV p l e R s m args below meth c D N a f nL Q σ (pc + 3) lv st) : zV p l e R s m args below meth c D N a f nL Q σ pc lv (.int x :: st) := fun H locs ls hP hS hl => lv_if_gt C.1 C.2.1 hd ht (fun q => kt (by rw [if_pos q] at h; exact h) H locs ls hP hS hl) (fun q => kf (by rw [if_neg q] at h; exact h) H locs ls hP hS hl)
theorem r_icmp_le (C : zC p s m args meth c D tys N a cc nL own ret) {x y : Int32} {off : Int} {tgt : Nat} {A B : Option β} (hd : decode cc pc = .ok (.if_icmp .le off, 3)) (ht : (pc : Int) + off = (tgt : Int)) (h : (if x ≤ y then A else B) = some o) (kt : A = some o → zV p l e R s m args below meth c D N a f nL Q σ tgt lv st) (kf : B = some o → zV p l e R s m args below meth c D N a f nL Q σ (pc + 3) lv st) : zV p l e R s m args below meth c D N a f nL Q σ pc lv (.int y :: .int x :: st) := fun H locs ls hP hS hl => lv_icmp_le C.1 C.2.1 hd ht (fun q => kt (by rw [if_pos q] at h; exact h) H locs ls hP hS hl) (fun q => kf (by rw [if_neg q] at h; exact h) H locs ls hP hS hl)
theorem r_if_le (C : zC p s m args meth c D tys N a cc nL own ret) {x : Int32} {off : Int} {tgt : Nat} {A B : Option β} (hd : decode cc pc = .ok (.ifCond .le off, 3)) (ht : (pc : Int) + off = (tgt : Int)) (h : (if x ≤ 0 then A else B) = some o) (kt : A = some o → zV p l e R s m args below meth c D N a f nL Q σ tgt lv st) (kf : B = some o → zV p l e R s m args below meth c D N a f nL Q σ (pc + 3) lv st) : zV p l e R s m args below meth c D N a f nL Q σ pc lv (.int x :: st) := fun H locs ls hP hS hl => lv_if_le C.1 C.2.1 hd ht (fun q => kt (by rw [if_pos q] at h; exact h) H locs ls hP hS hl) (fun q => kf (by rw [if_neg q] at h; exact h) H locs ls hP hS hl)
theorem r_le (hz : zle lv' lv) (k : zV p l e R s m args below meth c D N a f nL Q σ pc lv' st) : zV p l e R s m args below meth c D N a f nL Q σ pc lv st := fun H locs ls hP hS hl => k H locs ls hP hS (zlx_le hl hz)
theorem r_nm {v : Int32} {K : Int32 → Option β} (h : znm v K = some o) (k : ∀ x, K x = some o → zV p l e R s m args below meth c D N a f nL Q σ pc lv (.int x :: st)) : zV p l e R s m args below meth c D N a f nL Q σ pc lv (.int v :: st) := k v h
theorem r_nmL {v : Int64} {K : Int64 → Option β} (h : znm v K = some o) (k : ∀ x, K x = some o → zV p l e R s m args below meth c D N a f nL Q σ pc lv (.long x :: st)) : zV p l e R s m args below meth c D N a f nL Q σ pc lv (.long v :: st) := k v h
theorem r_gen {G : Prop} {v : Int32} {K : Int32 → Option β} (h : znm v K = some o) (k : ∀ x, v = x → K x = some o → G) : G := k v rfl h
theorem r_ldc2 (C : zC p s m args meth c D tys N a cc nL own ret) {index : Nat} {v : Int64} (hw : Cond.constantLong own index v ∈ zbig) (hd : decode cc pc = .ok (.ldc2_w index, 3)) (k : zV p l e R s m args below meth c D N a f nL Q σ (pc + 3) lv (.long v :: st)) : zV p l e R s m args below meth c D N a f nL Q σ pc lv st := fun H locs ls hP hS hl => lv_ldc2 C.1 C.2.1 C.2.2.2.1 (C.2.2.2.2.1 _ hw) hd (k H locs ls hP hS hl)
theorem r_ldcw (C : zC p s m args meth c D tys N a cc nL own ret) {index : Nat} {v : Int32} (hw : Cond.constant own index v ∈ zbig) (hd : decode cc pc = .ok (.ldc_w index, 3)) (k : zV p l e R s m args below meth c D N a f nL Q σ (pc + 3) lv (.int v :: st)) : zV p l e R s m args below meth c D N a f nL Q σ pc lv st := fun H locs ls hP hS hl => lv_ldcw C.1 C.2.1 C.2.2.2.1 (C.2.2.2.2.1 _ hw) hd (k H locs ls hP hS hl)
theorem r_lookup (C : zC p s m args meth c D tys N a cc nL own ret) {dflt : Int} {ps : Array (Int × Int)} {len : Nat} {x : Int32} {off : Int} {tgt : Nat} (hd : decode cc pc = .ok (.lookupswitch dflt ps, len)) (hp : (ps.toList.zip (ps.toList.drop 1)).all (fun (a, next) => a.1 < next.1) = true) (ho : Op.lookupswitch.offset ps.toList dflt x.toInt = off) (ht : (pc : Int) + off = (tgt : Int)) (k : zV p l e R s m args below meth c D N a f nL Q σ tgt lv st) : zV p l e R s m args below meth c D N a f nL Q σ pc lv (.int x :: st) := fun H locs ls hP hS hl => lv_lookup C.1 C.2.1 hd hp ho ht (k H locs ls hP hS hl)
theorem r_tableOut (C : zC p s m args meth c D tys N a cc nL own ret) {dflt lo hi : Int} {offs : Array Int} {len : Nat} {x : Int32} {tgt : Nat} (hd : decode cc pc = .ok (.tableswitch dflt lo hi offs, len)) (h : x.toInt < lo ∨ hi < x.toInt) (ht : (pc : Int) + dflt = (tgt : Int)) (k : zV p l e R s m args below meth c D N a f nL Q σ tgt lv st) : zV p l e R s m args below meth c D N a f nL Q σ pc lv (.int x :: st) := fun H locs ls hP hS hl => lv_tableOut C.1 C.2.1 hd h ht (k H locs ls hP hS hl)
theorem r_tableIn (C : zC p s m args meth c D tys N a cc nL own ret) {dflt lo hi : Int} {offs : Array Int} {len : Nat} {x : Int32} {off : Int} {tgt : Nat} (hd : decode cc pc = .ok (.tableswitch dflt lo hi offs, len)) (h1 : ¬ x.toInt < lo) (h2 : ¬ hi < x.toInt) (ho : offs[(x.toInt - lo).toNat]? = some off) (ht : (pc : Int) + off = (tgt : Int)) (k : zV p l e R s m args below meth c D N a f nL Q σ tgt lv st) : zV p l e R s m args below meth c D N a f nL Q σ pc lv (.int x :: st) := fun H locs ls hP hS hl => lv_tableIn C.1 C.2.1 hd h1 h2 ho ht (k H locs ls hP hS hl)
/-- a field is read: fs are the fields of the cell i -/
theorem r_get (C : zC p s m args meth c D tys N a cc nL own ret) {Cn : String} {T : u_T} {n ci index : Nat} {fs : List Value} {v : Value} (i : Nat) (hi : i < N) (hf : f i (σ i) = .inr (ci, fs)) (hc : zcl[ci]? = some (Cn, T, n)) (hin : ∀ w ∈ u_ws Cn T n, w ∈ zbig) (k : Nat) (hk : k < n) (hlink : Cond.fieldLink own index (T k).1 (T k).2.1 (T k).2.2.1 ∈ zbig) (hv : fs[k]? = some v) (hd : decode cc pc = .ok (.getfield index, 3)) (kk : zV p l e R s m args below meth c D N a f nL Q σ (pc + 3) lv (v :: st)) : zV p l e R s m args below meth c D N a f nL Q σ pc lv (.ref (a i) :: st) :=
  fun H locs ls hP hS hl => va_get (D := D) (C := Cn) (T := T) (N := n) C.1 C.2.1 C.2.2.2.2.1 hin C.2.2.2.1 C.2.2.2.2.2.1 hP i (by rw [zwd_get hi, hf]) hc k hk (C.2.2.2.2.1 _ hlink) (fun _ h9 => h9) hv hd (kk H locs ls hP hS hl)
theorem r_put (C : zC p s m args meth c D tys N a cc nL own ret) {Cn : String} {T : u_T} {n ci index : Nat} {fs : List Value} {v : Int32} {φ : Nat → Int32} {K : zSt → Option β} (i : Nat) (hi : i < N) (hf : f i (σ i) = .inr (ci, fs)) (hc : zcl[ci]? = some (Cn, T, n)) (hin : ∀ w ∈ u_ws Cn T n, w ∈ zbig) (ty0 : Nat → FieldType) (hty : ∀ k, k < n → parseFieldDescriptor (T k).2.2.1 = some (ty0 k)) (hnm : ∀ a, a < n → ∀ b, b < n → a ≠ b → (T a).2.1 ≠ (T b).2.1) (k : Nat) (hk : k < n) (hlink : Cond.fieldLink own index (T k).1 (T k).2.1 (T k).2.2.1 ∈ zbig) (hfin : (T k).2.2.2 = false) (hdd : parseFieldDescriptor (T k).2.2.1 = some .int) (hfl : k < fs.length) (hset : f i φ = .inr (ci, fs.set k (.int v))) (hd : decode cc pc = .ok (.putfield index, 3)) (h : znm (zsu σ i φ) K = some o) (kk : ∀ σ', K σ' = some o → zV p l e R s m args below meth c D N a f nL Q σ' (pc + 3) lv st) : zV p l e R s m args below meth c D N a f nL Q σ pc lv (.int v :: .ref (a i) :: st) :=
  fun H locs ls hP hS hl => va_put (D := D) (A := zAA N a) (C := Cn) (T := T) (N := n) C.1 C.2.1 C.2.2.2.2.1 hin ty0 hty hnm C.2.2.2.1 C.2.2.2.2.2.1 hP (zwd_D C.2.2.2.2.2.2.2.1) hS i (by rw [zwd_get hi, hf]) hc k hk (C.2.2.2.2.1 _ hlink) (fun _ h9 => h9) hfin hdd rfl rfl hfl hd (fun H1 locs1 hP1 _ hS1 => kk _ h H1 locs1 ls (by rw [← hset, zwd_set hi] at hP1; exact hP1) hS1 hl)
theorem r_iald (C : zC p s m args meth c D tys N a cc nL own ret) {n t0 : Nat} {cA : ClassId} {x : Int32} {K : Int32 → Option β} (i : Nat) (hA : zA N f cA i n) (ht : tys[t0]? = some (cA, .int)) (hd : decode cc pc = .ok (.iaload, 1)) (h : zga (σ i) x n K = some o) (kk : ∀ v, K v = some o → zV p l e R s m args below meth c D N a f nL Q σ (pc + 1) lv (.int v :: st)) : zV p l e R s m args below meth c D N a f nL Q σ pc lv (.int x :: .ref (a i) :: st) := by
  obtain ⟨hi, hf⟩ := hA
  intro H locs ls hP hS hl
  unfold zga at h
  by_cases hq : 0 ≤ x ∧ x.toNatClampNeg < n
  · rw [if_pos hq] at h
    exact va_iald (D := D) C.1 C.2.1 C.2.2.2.2.2.1 hP i t0 (by rw [zwd_get hi, hf]) ht (zin hq) hd (kk _ h H locs ls hP hS hl)
  · rw [if_neg hq] at h; cases h
theorem r_iast (C : zC p s m args meth c D tys N a cc nL own ret) {n t0 : Nat} {cA : ClassId} {x v : Int32} {K : zSt → Option β} (i : Nat) (hA : zA N f cA i n) (ht : tys[t0]? = some (cA, .int)) (hd : decode cc pc = .ok (.iastore, 1)) (h : zgs σ i x n v K = some o) (kk : ∀ σ', K σ' = some o → zV p l e R s m args below meth c D N a f nL Q σ' (pc + 1) lv st) : zV p l e R s m args below meth c D N a f nL Q σ pc lv (.int v :: .int x :: .ref (a i) :: st) := by
  obtain ⟨hi, hf⟩ := hA
  intro H locs ls hP hS hl
  unfold zgs at h
  by_cases hq : 0 ≤ x ∧ x.toNatClampNeg < n
  · rw [if_pos hq] at h
    exact va_iast (D := D) (A := zAA N a) C.1 C.2.1 C.2.2.2.2.2.1 hP (zwd_D C.2.2.2.2.2.2.2.1) hS i t0 (by rw [zwd_get hi, hf]) ht (zin hq) hd (fun H1 locs1 hP1 _ hS1 => kk _ h H1 locs1 ls (by rw [← hf, zwd_set hi] at hP1; exact hP1) hS1 hl)
  · rw [if_neg hq] at h; cases h
theorem r_aald (C : zC p s m args meth c D tys N a cc nL own ret) {n t0 off : Nat} {cA : ClassId} {ty : FieldType} {x : Int32} {K : Nat → Option β} (i : Nat) (hA : zB N a f cA i n off) (ht : tys[t0]? = some (cA, ty)) (hty : ty.isReference = true) (hd : decode cc pc = .ok (.aaload, 1)) (h : zgr x n off K = some o) (kk : ∀ q, off ≤ q → q < off + n → K q = some o → zV p l e R s m args below meth c D N a f nL Q σ (pc + 1) lv (.ref (a q) :: st)) : zV p l e R s m args below meth c D N a f nL Q σ pc lv (.int x :: .ref (a i) :: st) := by
  obtain ⟨hi, hf⟩ := hA
  intro H locs ls hP hS hl
  unfold zgr at h
  by_cases hq : 0 ≤ x ∧ x.toNatClampNeg < n
  · rw [if_pos hq] at h
    have ha : (zwd N a f σ)[i]? = some (a i, .inl (cA, n, .inr (.inr (.inr (.inr (fun j => some (a (off + j)))))))) := by rw [zwd_get hi, hf]
    exact W.aald (v := .ref (a (off + x.toNatClampNeg))) (ty := ty) C.1 C.2.1 (hP i _ ha) ((C.2.2.2.2.2.1.2 t0 _ ht).1 n (fun j => va_rf (some (a (off + j))))) hty (fun q => by cases q) (by show ¬ (x < 0 ∨ (arrV _ _ _).slots.size ≤ _); rw [arrV_size]; exact zin hq) (by show (arrV _ _ _).slots[_]? = _; rw [arrV_read _ _ hq.2]; rfl) rfl rfl hd (kk _ (by omega) (by omega) h H locs ls hP hS hl)
  · rw [if_neg hq] at h; cases h

/-- the words of a call -/
def zwB (y : MethodName) (yc : ByteArray) (yL : Nat) (yret : Option FieldType) (n : Nat) : Prop := Cond.initialized y.cls ∈ zbig ∧ Cond.code y yc yL yret ∈ zbig ∧ (y.cls ≠ "java/lang/invoke/MethodHandle" ∧ y.cls ≠ "java/lang/invoke/VarHandle" ∧ (parseMethodDescriptor y.desc).map (fun d => d.parameters.length) = some n)
def zwV (ow : String) (idx : Nat) (y : MethodName) : Prop := Cond.methodLink ow idx y ∈ zbig ∧ Cond.instanceMethod y ∈ zbig ∧ Cond.selects y.cls y y ∈ zbig
def zwS (ow : String) (idx : Nat) (y : MethodName) : Prop := Cond.methodLink ow idx y ∈ zbig ∧ Cond.static y ∈ zbig
def zrm_ok (rm R : Room) (yL : Nat) : Prop := rm.cells = 0 ∧ rm.slots = 0 ∧ rm.frames + 1 ≤ R.frames ∧ 8 + (yL + 11) + rm.locals ≤ R.locals
theorem zcallB {y : MethodName} {yc : ByteArray} {yL n idx : Nat} {yret : Option FieldType} {rm : Room} (ht : ∀ w ∈ zbig, w.before args s = true) (hB : zwB y yc yL yret n) (hl : Cond.methodLink own idx y ∈ zbig) (hr : zrm_ok rm R yL) : CallB R s args own idx y yc yL yret (.code y yc yL yret :: zbig) rm 0 0 n := by
  refine ⟨hr.1, hr.2.1, hr.2.2.1, hr.2.2.2, pay_in ht (fun w hw => zgood hB.2.1 hw), List.mem_cons_self, ht _ hB.2.1, ht _ hB.1, ⟨hB.2.2.1, hB.2.2.2.1⟩, fun sig h => ?_, ht _ hl⟩
  have h2 := hB.2.2.2.2
  rw [h] at h2
  exact (Option.some.inj h2).symm
theorem zpreS {av : List Value} {H : Heap} (hP : va_P D zcl (zwd N a f σ) H) (hK : va_K D zcl tys s) (hN : ∀ w ∈ znests, va_Nw w s) : PreS s H (zPc D tys N a f av σ) av := ⟨zPc_blind, fun U hU hW => ⟨rfl, by rw [hU]; exact hP, va_K.moved hW.alike hK, znests_warm hW hN⟩⟩
theorem zpreV {As : List Value} {H : Heap} {b ci : Nat} {fs : List Value} {q : vw_C} (hP : va_P D zcl (zwd N a f σ) H) (hK : va_K D zcl tys s) (hN : ∀ w ∈ znests, va_Nw w s) (hb : b < N) (hf : f b (σ b) = .inr (ci, fs)) (hc : zcl[ci]? = some q) : PreV s H q.1 (a b) (zPc D tys N a f (.ref (a b) :: As) σ) As := ⟨zPc_blind, va_recv hK hP hc (by rw [zwd_get hb, hf]), fun U hU hW => ⟨rfl, by rw [hU]; exact hP, va_K.moved hW.alike hK, znests_warm hW hN⟩⟩
theorem r_callVi (C : zC p s m args meth c D tys N a cc nL own ret) {y : MethodName} {yc : ByteArray} {yL n idx : Nat} {yret : Option FieldType} {rm : Room} {mo : Option (Int32 × zSt)} {K : Int32 → zSt → Option β} (As rest : List Value) {b ci : Nat} {fs : List Value} {q : vw_C} (hb : b < N) (hf : f b (σ b) = .inr (ci, fs)) (hc : zcl[ci]? = some q) (hq : y.cls = q.1) (hw : zwV own idx y) (hB : zwB y yc yL yret n) (hr : zrm_ok rm R yL) (hM : ∀ out, mo = some out → zMi l D tys N a f y yc yL yret rm (.ref (a b) :: As) σ out) (hn : As.length = n) (hst : st = As.reverse ++ .ref (a b) :: rest) (hcat : (rest.map fun v => v.category).sum ≤ 8) (hd : decode cc pc = .ok (.invokevirtual idx, 3)) (h : zbd mo K = some o) (kk : ∀ r σ', K r σ' = some o → zV p l e R s m args below meth c D N a f nL Q σ' (pc + 3) lv (.int r :: rest)) : zV p l e R s m args below meth c D N a f nL Q σ pc lv st := by
  intro H locs ls hP hS hl
  obtain ⟨hx, hbb, hml, hown, ht, hK, hN, hinj, hlk, hret⟩ := C
  cases mo with
  | none => cases h
  | some out =>
    obtain ⟨r0, σ0⟩ := out
    have hM := hM (r0, σ0) rfl
    have h : K r0 σ0 = some o := h
    have cw : CallW R s args own y.cls idx y yc yL yret (.code y yc yL yret :: zbig) rm 0 0 n := ⟨zcallB ht hB hw.1 hr, ht _ hw.2.1, ht _ hw.2.2⟩
    have hp : PreV s H y.cls (a b) (zPc D tys N a f (.ref (a b) :: As) σ) As := by rw [hq]; exact zpreV hP hK hN hb hf hc
    refine va_calli (A0 := zAA N a) (va_runV (As := As) (rest := rest) ⟨hx, hbb, hml, hown, ht⟩ hM cw hp rfl hn hl.1 hst (lv_room hcat) hd ⟨Nat.zero_le _, Nat.zero_le _⟩) hS (fun q _ h => h) (fun q h => h) (fun r u t H1 locs1 ht1 hvm hw1 hB1 hz1 hk1 hS1 => ?_)
    cases hw1
    exact kk r0 σ0 h H1 locs1 ls (by rw [← ht1]; exact hB1) hS1 hl
theorem r_callSi (C : zC p s m args meth c D tys N a cc nL own ret) {y : MethodName} {yc : ByteArray} {yL n idx : Nat} {yret : Option FieldType} {rm : Room} {mo : Option (Int32 × zSt)} {K : Int32 → zSt → Option β} (As rest : List Value) (hw : zwS own idx y) (hB : zwB y yc yL yret n) (hr : zrm_ok rm R yL) (hM : ∀ out, mo = some out → zMi l D tys N a f y yc yL yret rm As σ out) (hn : As.length = n) (hst : st = As.reverse ++ rest) (hcat : (rest.map fun v => v.category).sum ≤ 8) (hd : decode cc pc = .ok (.invokestatic idx, 3)) (h : zbd mo K = some o) (kk : ∀ r σ', K r σ' = some o → zV p l e R s m args below meth c D N a f nL Q σ' (pc + 3) lv (.int r :: rest)) : zV p l e R s m args below meth c D N a f nL Q σ pc lv st := by
  intro H locs ls hP hS hl
  obtain ⟨hx, hbb, hml, hown, ht, hK, hN, hinj, hlk, hret⟩ := C
  cases mo with
  | none => cases h
  | some out =>
    obtain ⟨r0, σ0⟩ := out
    have hM := hM (r0, σ0) rfl
    have h : K r0 σ0 = some o := h
    refine va_calli (A0 := zAA N a) (va_runS (As := As) (rest := rest) ⟨hx, hbb, hml, hown, ht⟩ hM ⟨zcallB ht hB hw.1 hr, ht _ hw.2⟩ (zpreS hP hK hN) rfl hn hl.1 hst (lv_room hcat) hd ⟨Nat.zero_le _, Nat.zero_le _⟩) hS (fun q _ h => h) (fun q h => h) (fun r u t H1 locs1 ht1 hvm hw1 hB1 hz1 hk1 hS1 => ?_)
    cases hw1
    exact kk r0 σ0 h H1 locs1 ls (by rw [← ht1]; exact hB1) hS1 hl
theorem r_callNi (C : zC p s m args meth c D tys N a cc nL own ret) {y : MethodName} {yc : ByteArray} {yL n idx : Nat} {yret : Option FieldType} {rm : Room} {mo : Option (Int32 × zSt)} {K : Int32 → zSt → Option β} (As rest : List Value) (host : String) (hnl : Cond.methodLinkNest own idx y host ∈ znests) (hw : Cond.static y ∈ zbig) (hB : zwB y yc yL yret n) (hr : zrm_ok rm R yL) (hM : ∀ out, mo = some out → zMi l D tys N a f y yc yL yret rm As σ out) (hn : As.length = n) (hst : st = As.reverse ++ rest) (hcat : (rest.map fun v => v.category).sum ≤ 8) (hd : decode cc pc = .ok (.invokestatic idx, 3)) (h : zbd mo K = some o) (kk : ∀ r σ', K r σ' = some o → zV p l e R s m args below meth c D N a f nL Q σ' (pc + 3) lv (.int r :: rest)) : zV p l e R s m args below meth c D N a f nL Q σ pc lv st := by
  intro H locs ls hP hS hl
  obtain ⟨hx, hbb, hml, hown, ht, hK, hN, hinj, hlk, hret⟩ := C
  cases mo with
  | none => cases h
  | some out =>
    obtain ⟨r0, σ0⟩ := out
    have hM := hM (r0, σ0) rfl
    have h : K r0 σ0 = some o := h
    have hcn : va_CN R s args own idx y host yc yL yret (.code y yc yL yret :: zbig) rm 0 0 n := va_cnB n ht (fun w hw => zgood hB.2.1 hw) rfl hr.1 hr.2.1 (hN _ hnl) (ht _ hB.1) hB.2.2 ⟨hr.2.2.1, hr.2.2.2⟩
    refine va_calli (A0 := zAA N a) (va_runSN (As := As) (rest := rest) (Ts := zbig) ⟨hx, hbb, hml, hown, ht⟩ hM ⟨hcn, ht _ hw, trivial⟩ (zpreS hP hK hN) rfl hn hl.1 hst (lv_room hcat) hd ⟨Nat.zero_le _, Nat.zero_le _⟩) hS (fun q _ h => h) (fun q h => h) (fun r u t H1 locs1 ht1 hvm hw1 hB1 hz1 hk1 hS1 => ?_)
    cases hw1
    exact kk r0 σ0 h H1 locs1 ls (by rw [← ht1]; exact hB1) hS1 hl
theorem r_callVl (C : zC p s m args meth c D tys N a cc nL own ret) {y : MethodName} {yc : ByteArray} {yL n idx : Nat} {yret : Option FieldType} {rm : Room} {mo : Option (Int64 × zSt)} {K : Int64 → zSt → Option β} (As rest : List Value) {b ci : Nat} {fs : List Value} {q : vw_C} (hb : b < N) (hf : f b (σ b) = .inr (ci, fs)) (hc : zcl[ci]? = some q) (hq : y.cls = q.1) (hw : zwV own idx y) (hB : zwB y yc yL yret n) (hr : zrm_ok rm R yL) (hM : ∀ out, mo = some out → zMl l D tys N a f y yc yL yret rm (.ref (a b) :: As) σ out) (hn : As.length = n) (hst : st = As.reverse ++ .ref (a b) :: rest) (hcat : (rest.map fun v => v.category).sum ≤ 8) (hd : decode cc pc = .ok (.invokevirtual idx, 3)) (h : zbd mo K = some o) (kk : ∀ r σ', K r σ' = some o → zV p l e R s m args below meth c D N a f nL Q σ' (pc + 3) lv (.long r :: rest)) : zV p l e R s m args below meth c D N a f nL Q σ pc lv st := by
  intro H locs ls hP hS hl
  obtain ⟨hx, hbb, hml, hown, ht, hK, hN, hinj, hlk, hret⟩ := C
  cases mo with
  | none => cases h
  | some out =>
    obtain ⟨r0, σ0⟩ := out
    have hM := hM (r0, σ0) rfl
    have h : K r0 σ0 = some o := h
    have cw : CallW R s args own y.cls idx y yc yL yret (.code y yc yL yret :: zbig) rm 0 0 n := ⟨zcallB ht hB hw.1 hr, ht _ hw.2.1, ht _ hw.2.2⟩
    have hp : PreV s H y.cls (a b) (zPc D tys N a f (.ref (a b) :: As) σ) As := by rw [hq]; exact zpreV hP hK hN hb hf hc
    refine va_calll (A0 := zAA N a) (va_runV (As := As) (rest := rest) ⟨hx, hbb, hml, hown, ht⟩ hM cw hp rfl hn hl.1 hst (lv_room hcat) hd ⟨Nat.zero_le _, Nat.zero_le _⟩) hS (fun q _ h => h) (fun q h => h) (fun r u t H1 locs1 ht1 hvm hw1 hB1 hz1 hk1 hS1 => ?_)
    cases hw1
    exact kk r0 σ0 h H1 locs1 ls (by rw [← ht1]; exact hB1) hS1 hl
theorem r_callSl (C : zC p s m args meth c D tys N a cc nL own ret) {y : MethodName} {yc : ByteArray} {yL n idx : Nat} {yret : Option FieldType} {rm : Room} {mo : Option (Int64 × zSt)} {K : Int64 → zSt → Option β} (As rest : List Value) (hw : zwS own idx y) (hB : zwB y yc yL yret n) (hr : zrm_ok rm R yL) (hM : ∀ out, mo = some out → zMl l D tys N a f y yc yL yret rm As σ out) (hn : As.length = n) (hst : st = As.reverse ++ rest) (hcat : (rest.map fun v => v.category).sum ≤ 8) (hd : decode cc pc = .ok (.invokestatic idx, 3)) (h : zbd mo K = some o) (kk : ∀ r σ', K r σ' = some o → zV p l e R s m args below meth c D N a f nL Q σ' (pc + 3) lv (.long r :: rest)) : zV p l e R s m args below meth c D N a f nL Q σ pc lv st := by
  intro H locs ls hP hS hl
  obtain ⟨hx, hbb, hml, hown, ht, hK, hN, hinj, hlk, hret⟩ := C
  cases mo with
  | none => cases h
  | some out =>
    obtain ⟨r0, σ0⟩ := out
    have hM := hM (r0, σ0) rfl
    have h : K r0 σ0 = some o := h
    refine va_calll (A0 := zAA N a) (va_runS (As := As) (rest := rest) ⟨hx, hbb, hml, hown, ht⟩ hM ⟨zcallB ht hB hw.1 hr, ht _ hw.2⟩ (zpreS hP hK hN) rfl hn hl.1 hst (lv_room hcat) hd ⟨Nat.zero_le _, Nat.zero_le _⟩) hS (fun q _ h => h) (fun q h => h) (fun r u t H1 locs1 ht1 hvm hw1 hB1 hz1 hk1 hS1 => ?_)
    cases hw1
    exact kk r0 σ0 h H1 locs1 ls (by rw [← ht1]; exact hB1) hS1 hl
theorem r_callVv (C : zC p s m args meth c D tys N a cc nL own ret) {y : MethodName} {yc : ByteArray} {yL n idx : Nat} {yret : Option FieldType} {rm : Room} {mo : Option zSt} {K : zSt → Option β} (As rest : List Value) {b ci : Nat} {fs : List Value} {q : vw_C} (hb : b < N) (hf : f b (σ b) = .inr (ci, fs)) (hc : zcl[ci]? = some q) (hq : y.cls = q.1) (hw : zwV own idx y) (hB : zwB y yc yL yret n) (hr : zrm_ok rm R yL) (hM : ∀ out, mo = some out → zMv l D tys N a f y yc yL yret rm (.ref (a b) :: As) σ out) (hn : As.length = n) (hst : st = As.reverse ++ .ref (a b) :: rest) (hcat : (rest.map fun v => v.category).sum ≤ 8) (hd : decode cc pc = .ok (.invokevirtual idx, 3)) (h : zbv mo K = some o) (kk : ∀ σ', K σ' = some o → zV p l e R s m args below meth c D N a f nL Q σ' (pc + 3) lv rest) : zV p l e R s m args below meth c D N a f nL Q σ pc lv st := by
  intro H locs ls hP hS hl
  obtain ⟨hx, hbb, hml, hown, ht, hK, hN, hinj, hlk, hret⟩ := C
  cases mo with
  | none => cases h
  | some σ0 =>
    have hM := hM σ0 rfl
    have h : K σ0 = some o := h
    have cw : CallW R s args own y.cls idx y yc yL yret (.code y yc yL yret :: zbig) rm 0 0 n := ⟨zcallB ht hB hw.1 hr, ht _ hw.2.1, ht _ hw.2.2⟩
    have hp : PreV s H y.cls (a b) (zPc D tys N a f (.ref (a b) :: As) σ) As := by rw [hq]; exact zpreV hP hK hN hb hf hc
    refine va_callv (A0 := zAA N a) (va_runV (As := As) (rest := rest) ⟨hx, hbb, hml, hown, ht⟩ hM cw hp rfl hn hl.1 hst (lv_room hcat) hd ⟨Nat.zero_le _, Nat.zero_le _⟩) hS (fun q _ h => h) (fun q h => h) (fun u t H1 locs1 ht1 hvm hw1 hB1 hz1 hk1 hS1 => ?_)
    cases hw1
    exact kk _ h H1 locs1 ls (by rw [← ht1]; exact hB1) hS1 hl
theorem r_mmax (C : zC p s m args meth c D tys N a cc nL own ret) {index : Nat} {x y : Int32} (hw : Cond.methodLink own index Lib.Math.max.name ∈ zbig ∧ Cond.static Lib.Math.max.name ∈ zbig ∧ Cond.initialized "java/lang/Math" ∈ zbig ∧ Cond.code Lib.Math.max.name Lib.Math.max.code 2 (some .int) ∈ zbig) (hfr : 1 ≤ R.frames) (hlo : (st.map fun v => v.category).sum + 13 ≤ R.locals) (hd : decode cc pc = .ok (.invokestatic index, 3)) (k : zV p l e R s m args below meth c D N a f nL Q σ (pc + 3) lv (.int (if x < y then y else x) :: st)) : zV p l e R s m args below meth c D N a f nL Q σ pc lv (.int y :: .int x :: st) := fun H locs ls hP hS hl => va_mmax C.1 C.2.1 (C.2.2.1.trans hl.1.symm) C.2.2.2.1 (C.2.2.2.2.1 _ hw.1) (C.2.2.2.2.1 _ hw.2.1) (C.2.2.2.2.1 _ hw.2.2.1) (C.2.2.2.2.1 _ hw.2.2.2) hfr hlo (Nat.zero_le _) (Nat.zero_le _) hd (k H locs ls hP hS hl)
theorem r_mmin (C : zC p s m args meth c D tys N a cc nL own ret) {index : Nat} {x y : Int32} (hw : Cond.methodLink own index Lib.Math.min.name ∈ zbig ∧ Cond.static Lib.Math.min.name ∈ zbig ∧ Cond.initialized "java/lang/Math" ∈ zbig ∧ Cond.code Lib.Math.min.name Lib.Math.min.code 2 (some .int) ∈ zbig) (hfr : 1 ≤ R.frames) (hlo : (st.map fun v => v.category).sum + 13 ≤ R.locals) (hd : decode cc pc = .ok (.invokestatic index, 3)) (k : zV p l e R s m args below meth c D N a f nL Q σ (pc + 3) lv (.int (if y < x then y else x) :: st)) : zV p l e R s m args below meth c D N a f nL Q σ pc lv (.int y :: .int x :: st) := fun H locs ls hP hS hl => va_mmin C.1 C.2.1 (C.2.2.1.trans hl.1.symm) C.2.2.2.1 (C.2.2.2.2.1 _ hw.1) (C.2.2.2.2.1 _ hw.2.1) (C.2.2.2.2.1 _ hw.2.2.1) (C.2.2.2.2.1 _ hw.2.2.2) hfr hlo (Nat.zero_le _) (Nat.zero_le _) hd (k H locs ls hP hS hl)
theorem r_copy (C : zC p s m args meth c D tys N a cc nL own ret) {index ni nj t0 : Nat} {cA : ClassId} {sp dp n : Int32} {K : zSt → Option β} (i j : Nat) (hAi : zA N f cA i ni) (hAj : zA N f cA j nj) (ht : tys[t0]? = some (cA, .int)) (hw : Cond.methodLink own index arraycopyName ∈ zbig ∧ Cond.native arraycopyName ∈ zbig ∧ Cond.static arraycopyName ∈ zbig ∧ Cond.initialized "java/lang/System" ∈ zbig) (hfr : 1 ≤ R.frames) (hlo : (st.map fun v => v.category).sum + (nativeFrameWords "java/lang/System" "arraycopy" 5 + 11) ≤ R.locals) (hd : decode cc pc = .ok (.invokestatic index, 3)) (h : zcp σ i j ni nj sp dp n K = some o) (kk : ∀ σ', K σ' = some o → zV p l e R s m args below meth c D N a f nL Q σ' (pc + 3) lv st) : zV p l e R s m args below meth c D N a f nL Q σ pc lv (.int n :: .int dp :: .ref (a j) :: .int sp :: .ref (a i) :: st) := by
  obtain ⟨hi, hfi⟩ := hAi
  obtain ⟨hj, hfj⟩ := hAj
  intro H locs ls hP hS hl
  unfold zcp at h
  by_cases hq : (0 ≤ sp ∧ 0 ≤ dp ∧ 0 ≤ n) ∧ sp.toNatClampNeg + n.toNatClampNeg ≤ ni ∧ dp.toNatClampNeg + n.toNatClampNeg ≤ nj
  · rw [if_pos hq] at h
    exact va_copyi (D := D) (A := zAA N a) C.1 C.2.1 (C.2.2.1.trans hl.1.symm) C.2.2.2.1 (C.2.2.2.2.1 _ hw.1) (C.2.2.2.2.1 _ hw.2.1) (C.2.2.2.2.1 _ hw.2.2.1) (C.2.2.2.2.1 _ hw.2.2.2) C.2.2.2.2.2.1 hP (zwd_D C.2.2.2.2.2.2.2.1) hS i j t0 t0 (by rw [zwd_get hi, hfi]) (by rw [zwd_get hj, hfj]) ht ht rfl (znn hq.1.1) (znn hq.1.2.1) (znn hq.1.2.2) hq.2.1 hq.2.2 (fun _ _ => rfl) hfr hlo hd (fun H1 locs1 hP1 _ hS1 => kk _ h H1 locs1 ls (by rw [← hfj, zwd_set hj] at hP1; exact hP1) hS1 hl)
  · rw [if_neg hq] at h; cases h
end ZR
section ZE
variable {p : Program} {l : Launch} {e : Env} {R : Room} {s : State} {m : MethodId} {args : Array Value} {below : List Frame} {meth : Method} {c : Code} {D : va_G} {tys : List (ClassId × FieldType)} {N : Nat} {a : Nat → Nat} {f : Nat → (Nat → Int32) → va_E} {cc : ByteArray} {nL : Nat} {own : String} {σ : zSt} {pc : Nat} {lv lv' : List (Option Value)} {st : List Value} {β : Type} {o : β}
theorem r_iret (C : zC p s m args meth c D tys N a cc nL own (some .int)) {v : Int32} {out : Int32 × zSt} (hd : decode cc pc = .ok (.ireturn, 1)) (h : some (v, σ) = some out) : zV p l e R s m args below meth c D N a f nL (zQi below args s D N a f out) σ pc lv [.int v] := by
  cases h
  intro H locs ls hP hS hl
  exact W.iret (v := v) C.1 C.2.1 C.2.2.2.2.2.2.2.2.2 (fun t ht hW => ⟨⟨v, σ, rfl, rfl, by show va_P D zcl (zwd N a f σ) t.heap; rw [ht]; exact hP⟩, hS.F ht⟩) hS.2.2 hd C.2.2.2.2.2.2.2.2.1
theorem r_zret (C : zC p s m args meth c D tys N a cc nL own (some .boolean)) {v : Int32} {out : Int32 × zSt} (hd : decode cc pc = .ok (.ireturn, 1)) (h : zgz v σ = some out) : zV p l e R s m args below meth c D N a f nL (zQi below args s D N a f out) σ pc lv [.int v] := by
  intro H locs ls hP hS hl
  unfold zgz at h
  by_cases hv : v = 0 ∨ v = 1
  · rw [if_pos hv] at h
    cases h
    have hn : narrow .boolean (.int v) = .int v := by rcases hv with rfl | rfl <;> rfl
    exact W.zret (v := v) C.1 C.2.1 C.2.2.2.2.2.2.2.2.2 hn (fun t ht hW => ⟨⟨v, σ, rfl, rfl, by show va_P D zcl (zwd N a f σ) t.heap; rw [ht]; exact hP⟩, hS.F ht⟩) hS.2.2 hd C.2.2.2.2.2.2.2.2.1
  · rw [if_neg hv] at h; cases h
theorem r_lret (C : zC p s m args meth c D tys N a cc nL own (some .long)) {v : Int64} {out : Int64 × zSt} (hd : decode cc pc = .ok (.lreturn, 1)) (h : some (v, σ) = some out) : zV p l e R s m args below meth c D N a f nL (zQl below args s D N a f out) σ pc lv [.long v] := by
  cases h
  intro H locs ls hP hS hl
  exact W.lret (v := v) C.1 C.2.1 C.2.2.2.2.2.2.2.2.2 (fun t ht hW => ⟨⟨v, σ, rfl, rfl, by show va_P D zcl (zwd N a f σ) t.heap; rw [ht]; exact hP⟩, hS.F ht⟩) hS.2.2 hd C.2.2.2.2.2.2.2.2.1
theorem r_vret (C : zC p s m args meth c D tys N a cc nL own none) {out : zSt} (hd : decode cc pc = .ok (.return_, 1)) (h : some σ = some out) : zV p l e R s m args below meth c D N a f nL (zQv below args s D N a f out) σ pc lv [] := by
  cases h
  intro H locs ls hP hS hl
  exact W.vret C.1 C.2.1 C.2.2.2.2.2.2.2.2.2 (fun t ht hW => ⟨⟨σ, rfl, rfl, by show va_P D zcl (zwd N a f σ) t.heap; rw [ht]; exact hP⟩, hS.F ht⟩) hS.2.2 hd C.2.2.2.2.2.2.2.2.1
end ZE
theorem zmeti {l : Launch} {D : va_G} {tys : List (ClassId × FieldType)} {N : Nat} {a : Nat → Nat} {f : Nat → (Nat → Int32) → va_E} {y : MethodName} {cc : ByteArray} {nL : Nat} {ret : Option FieldType} {rm : Room} {av : List Value} {σ : zSt} {out : Int32 × zSt} {own : String} (lv : List (Option Value)) (hy : plainName y.cls = true) (ho : y.cls = own) (hinj : ∀ i j, i < N → j < N → a i = a j → i = j) (hle : (lg_sl av).length ≤ nL) (hlv : lv_args 0 av = zlp 0 lv) (body : ∀ (p : Program) (e : Env) (s : State) (m : MethodId) (args : Array Value) (below : List Frame) (meth : Method) (c : Code), zC p s m args meth c D tys N a cc nL own ret → zV p l e rm s m args below meth c D N a f nL (zQi below args s D N a f out) σ 0 lv []) : zMi l D tys N a f y cc nL ret rm av σ out := by
  refine Met.ofW (cc := cc) (maxL := nL) (ret := ret) hy rfl ?_
  intro p e s m args below meth c s₁ B hml hv
  obtain ⟨rfl, hP, hK, hN⟩ := hv
  have hts := atoms_spec (ws := .code y cc nL ret :: zbig) B.pre
  have hown : s.vm.findClass own = some m.cls := ho ▸ findClass_of_methodNamed B.named
  have C : zC p s m av.toArray meth c D tys N a cc nL own ret := ⟨B.exec, B.bytes, hml, hown, fun w hw => hts w (List.mem_cons_of_mem _ hw), hK, hN, hinj, B.notSynchronized, B.returns⟩
  rw [lg_entry_eq]
  have hl := lv_entry av (n := nL) hle
  rw [hlv] at hl
  exact body p e s m av.toArray below meth c C s.heap [] _ hP va_S.rf hl
theorem zmetl {l : Launch} {D : va_G} {tys : List (ClassId × FieldType)} {N : Nat} {a : Nat → Nat} {f : Nat → (Nat → Int32) → va_E} {y : MethodName} {cc : ByteArray} {nL : Nat} {ret : Option FieldType} {rm : Room} {av : List Value} {σ : zSt} {out : Int64 × zSt} {own : String} (lv : List (Option Value)) (hy : plainName y.cls = true) (ho : y.cls = own) (hinj : ∀ i j, i < N → j < N → a i = a j → i = j) (hle : (lg_sl av).length ≤ nL) (hlv : lv_args 0 av = zlp 0 lv) (body : ∀ (p : Program) (e : Env) (s : State) (m : MethodId) (args : Array Value) (below : List Frame) (meth : Method) (c : Code), zC p s m args meth c D tys N a cc nL own ret → zV p l e rm s m args below meth c D N a f nL (zQl below args s D N a f out) σ 0 lv []) : zMl l D tys N a f y cc nL ret rm av σ out := by
  refine Met.ofW (cc := cc) (maxL := nL) (ret := ret) hy rfl ?_
  intro p e s m args below meth c s₁ B hml hv
  obtain ⟨rfl, hP, hK, hN⟩ := hv
  have hts := atoms_spec (ws := .code y cc nL ret :: zbig) B.pre
  have hown : s.vm.findClass own = some m.cls := ho ▸ findClass_of_methodNamed B.named
  have C : zC p s m av.toArray meth c D tys N a cc nL own ret := ⟨B.exec, B.bytes, hml, hown, fun w hw => hts w (List.mem_cons_of_mem _ hw), hK, hN, hinj, B.notSynchronized, B.returns⟩
  rw [lg_entry_eq]
  have hl := lv_entry av (n := nL) hle
  rw [hlv] at hl
  exact body p e s m av.toArray below meth c C s.heap [] _ hP va_S.rf hl
theorem zmetv {l : Launch} {D : va_G} {tys : List (ClassId × FieldType)} {N : Nat} {a : Nat → Nat} {f : Nat → (Nat → Int32) → va_E} {y : MethodName} {cc : ByteArray} {nL : Nat} {ret : Option FieldType} {rm : Room} {av : List Value} {σ : zSt} {out : zSt} {own : String} (lv : List (Option Value)) (hy : plainName y.cls = true) (ho : y.cls = own) (hinj : ∀ i j, i < N → j < N → a i = a j → i = j) (hle : (lg_sl av).length ≤ nL) (hlv : lv_args 0 av = zlp 0 lv) (body : ∀ (p : Program) (e : Env) (s : State) (m : MethodId) (args : Array Value) (below : List Frame) (meth : Method) (c : Code), zC p s m args meth c D tys N a cc nL own ret → zV p l e rm s m args below meth c D N a f nL (zQv below args s D N a f out) σ 0 lv []) : zMv l D tys N a f y cc nL ret rm av σ out := by
  refine Met.ofW (cc := cc) (maxL := nL) (ret := ret) hy rfl ?_
  intro p e s m args below meth c s₁ B hml hv
  obtain ⟨rfl, hP, hK, hN⟩ := hv
  have hts := atoms_spec (ws := .code y cc nL ret :: zbig) B.pre
  have hown : s.vm.findClass own = some m.cls := ho ▸ findClass_of_methodNamed B.named
  have C : zC p s m av.toArray meth c D tys N a cc nL own ret := ⟨B.exec, B.bytes, hml, hown, fun w hw => hts w (List.mem_cons_of_mem _ hw), hK, hN, hinj, B.notSynchronized, B.returns⟩
  rw [lg_entry_eq]
  have hl := lv_entry av (n := nL) hle
  rw [hlv] at hl
  exact body p e s m av.toArray below meth c C s.heap [] _ hP va_S.rf hl
