/-! the claim out of one walk of the law's body: the skeleton's own rows (starting text), then the start, then rows over the two worlds -/
def R_law : String := "VineRowsLaw"
def lw_P (b : Addr) (xs : List Int32) (args : Array Value) (s : State) : Prop := args = #[.ref b] ∧ s.IntsAt b xs ∧ xs.length ≤ 3072 ∧ (Jvm.Cond.and given_1 narrow_1).before args s = true
def lw_Q (_ : Array Value) (s : State) (o : Outcome) (t : State) : Prop := o = .returned (some (.int 1)) ∧ Framed s o t [] 600000 7302250
def lw_Z (below : List Frame) (a : Array Value) (s : State) : State → Prop := fun t => ∃ o, t.status = .running ∧ Ended t below o ∧ lw_Q a s o t
/-- the law's own end, with 1 on the stack, nothing written that was there before, its room as the claim has it -/
theorem lw_ret {p : Program} {l : Launch} {e : Env} {s : State} {m : MethodId} {below : List Frame} {meth : Method} {c : Code} {b : Nat} (hx : p.tables.exec = Jvm.exec) (hb : c.code = code) (hr : meth.sig.returnType = ret) (hlocks : meth.locks = false) {pc : Nat} {H : Heap} {ls : Array Slot} (hdg : decode code pc = .ok (.ireturn, 1)) : W p l e room_1 s m #[Value.ref b] below meth c H [] 600000 7302250 (lw_Z below #[Value.ref b] s) (F0 m pc ls [.int 1]) := by
  intro T hT X
  obtain ⟨fs, hret, hrun, hended, hW, hframe⟩ := X.leave (v := some (.int 1)) (hlocks := hlocks) (fun h => by rw [hr] at h; cases h)
  have hmeth' : T.vm.method? m = some meth := X.method'
  refine ⟨T.setFrames fs, ?_, .returned (some (.int 1)), hrun, hended, rfl, ⟨_, rfl⟩, hW, hframe⟩
  jvm_step X.here [X.here.top, hx, hb, hdg, hmeth', hr, ret, narrow_b1]
  (try refine ⟨rfl, ?_⟩); (try refine ⟨rfl, ?_⟩)
  first | (intro acts; rw [hret _ acts rfl rfl rfl]) | rw [hret _ _ rfl rfl rfl]
  exact Steps.refl _
/-- what holds at the law's entry: the machine, the code, the tables' words (any of lw_tbl by 'hts w (by decide +kernel)'), the script of L ints xs at the cell b, what the Statement gives of the start (any of its parts by flat_of_before) -/
def lw_At (p : Program) (s : State) (m : MethodId) (meth : Method) (c : Code) (b L : Nat) (xs : Nat → Int32) : Prop :=
  p.tables.exec = Jvm.exec ∧ c.code = code ∧ meth.sig.returnType = ret ∧ c.maxLocals = 4 ∧ s.vm.findClass R_law = some m.cls ∧ (∀ w ∈ lw_tbl, w.before #[Value.ref b] s = true) ∧ va_X b L xs s s.heap ∧ b < s.heap.size ∧ meth.locks = false ∧ (Jvm.Cond.and given_1 narrow_1).before #[Value.ref b] s = true
/-! the start -/
def zτ0 : zSt := fun i => if i = 1 then upd (upd (upd (upd (fun _ => 0) 0 (-9)) 1 (-9)) 2 (-9)) 3 (-9) else fun _ => 0
theorem zc6_is (cI : ClassId) (v : Nat → Nat) : zc6 cI v = zwd 21 v (fM v cI) zτ0 := rfl
theorem zRel_0 : zRel zσ0 zτ0 := by
  refine ⟨⟨0, fun _ => 0, fun _ => 0, fun _ => 0, fun _ _ => 0, ⟨⟨by decide, fun p hp => absurd hp (Nat.not_lt_zero p)⟩, ⟨by decide, fun p hp => absurd hp (Nat.not_lt_zero p)⟩, ⟨by omega, fun p hp => absurd hp (Nat.not_lt_zero p)⟩, fun p hp => absurd hp (Nat.not_lt_zero p), Or.inl rfl, ?_⟩, ⟨0, by omega, by decide, by decide, fun k hk => absurd hk (Nat.not_lt_zero k)⟩⟩, fun k hk => Or.inl ?_, ⟨by decide, by decide, by decide⟩, fun p hp => ?_⟩
  · exact ⟨fun p hp => absurd hp (Nat.not_lt_zero p), fun p _ hp => absurd hp (Nat.not_lt_zero p), fun p hp => absurd hp (Nat.not_lt_zero p), fun p _ hp => absurd hp (Nat.not_lt_zero p), fun p _ _ hp => absurd hp (Nat.not_lt_zero p), fun p _ hp => absurd hp (Nat.not_lt_zero p)⟩
  · match k, hk with
    | 0, _ => exact (by decide)
    | 1, _ => exact (by decide)
    | 2, _ => exact (by decide)
    | 3, _ => exact (by decide)
    | k + 4, h => omega
  · match p, hp with
    | 0, _ => exact (by decide)
    | 1, _ => exact (by decide)
    | 2, _ => exact (by decide)
    | 3, _ => exact (by decide)
    | 4, _ => exact (by decide)
    | 5, _ => exact (by decide)
    | 6, _ => exact (by decide)
    | 7, _ => exact (by decide)
    | k + 8, h => omega
theorem z31 (x : Int32) : ∃ j, j < 32 ∧ x &&& 31 = nI j := by
  refine ⟨(x.toBitVec &&& 31#32).toNat, ?_, ?_⟩
  · rw [BitVec.toNat_and]
    exact Nat.lt_of_le_of_lt Nat.and_le_right (by decide)
  · apply Int32.toBitVec_inj.mp
    have h2 : ∀ n : Nat, (nI n).toBitVec = BitVec.ofNat 32 n := fun n => by simp [nI, Int32.toBitVec_ofNat']
    rw [h2, Int32.toBitVec_and, BitVec.ofNat_toNat, BitVec.setWidth_eq]
    rfl
def zCL (p : Program) (s : State) (m : MethodId) (meth : Method) (c : Code) (D : va_G) (cI cO cA : ClassId) (a b : Nat → Nat) (bb L : Nat) (xs : Nat → Int32) : Prop := lw_At p s m meth c bb L xs ∧ va_K D zcl (ztys cI cO cA) s ∧ (∀ w ∈ znests, va_Nw w s) ∧ (∀ i j, i < 51 → j < 51 → a i = a j → i = j) ∧ (∀ i j, i < 21 → j < 21 → b i = b j → i = j) ∧ (∀ i, i < 51 → s.heap.size ≤ a i) ∧ (∀ i, i < 21 → s.heap.size ≤ b i) ∧ (∀ i j, i < 51 → j < 21 → a i ≠ b j) ∧ L ≤ 3072
def zLJ (p : Program) (l : Launch) (e : Env) (s : State) (m : MethodId) (below : List Frame) (meth : Method) (c : Code) (D : va_G) (cI cO cA : ClassId) (a b : Nat → Nat) (bb : Nat) (σ τ : zSt) (pc : Nat) (i : Int32) (st : List Value) : Prop :=
  ∀ (H : Heap) (locs : List Loc) (ls : Array Slot), va_P D zcl (zwd 51 a (fX a cI cO cA) σ) H → va_P D zcl (zwd 21 b (fM b cI) τ) H → va_S (fun q : Nat => s.heap.size ≤ q) s.heap H locs → zlx ls 4 [some (.ref bb), some (.ref (a 0)), some (.ref (b 0)), some (.int i)] → W p l e room_1 s m #[Value.ref bb] below meth c H locs 600000 7302250 (lw_Z below #[Value.ref bb] s) (F0 m pc ls st)
section ZJ
variable {p : Program} {l : Launch} {e : Env} {s : State} {m : MethodId} {below : List Frame} {meth : Method} {c : Code} {D : va_G} {cI cO cA : ClassId} {a b : Nat → Nat} {bb L : Nat} {xs : Nat → Int32} {σ τ : zSt} {pc : Nat} {i : Int32} {st : List Value}
theorem zcl_t (C : zCL p s m meth c D cI cO cA a b bb L xs) : ∀ w ∈ zbig, w.before #[Value.ref bb] s = true := fun w hw => C.1.2.2.2.2.2.1 w (List.mem_filter.mp hw).1
theorem j_aload (C : zCL p s m meth c D cI cO cA a b bb L xs) {j : Fin 4} {x : Nat} (hd : decode code pc = .ok (.aload_n j, 1)) (hl0 : ([some (.ref bb), some (.ref (a 0)), some (.ref (b 0)), some (.int i)] : List (Option Value))[(j : Nat)]? = some (some (.ref x))) (k : zLJ p l e s m below meth c D cI cO cA a b bb σ τ (pc + 1) i (.ref x :: st)) : zLJ p l e s m below meth c D cI cO cA a b bb σ τ pc i st := fun H locs ls hX hM hS hl => lv_aload_n C.1.1 C.1.2.1 hd rfl (zlx_at hl hl0) (k H locs ls hX hM hS hl)
theorem j_iload (C : zCL p s m meth c D cI cO cA a b bb L xs) (hd : decode code pc = .ok (.iload_n 3, 1)) (k : zLJ p l e s m below meth c D cI cO cA a b bb σ τ (pc + 1) i (.int i :: st)) : zLJ p l e s m below meth c D cI cO cA a b bb σ τ pc i st := fun H locs ls hX hM hS hl => lv_iload_n C.1.1 C.1.2.1 hd rfl (zlx_at hl rfl) (k H locs ls hX hM hS hl)
theorem j_iconst (C : zCL p s m meth c D cI cO cA a b bb L xs) {n : Int} {v : Int32} (hd : decode code pc = .ok (.iconst n, 1)) (hv : Int32.ofInt n = v) (k : zLJ p l e s m below meth c D cI cO cA a b bb σ τ (pc + 1) i (.int v :: st)) : zLJ p l e s m below meth c D cI cO cA a b bb σ τ pc i st := fun H locs ls hX hM hS hl => lv_iconst C.1.1 C.1.2.1 hd hv (k H locs ls hX hM hS hl)
theorem j_bipush (C : zCL p s m meth c D cI cO cA a b bb L xs) {n : Int} {v : Int32} (hd : decode code pc = .ok (.bipush n, 2)) (hv : (Int8.ofInt n).toInt32 = v) (k : zLJ p l e s m below meth c D cI cO cA a b bb σ τ (pc + 2) i (.int v :: st)) : zLJ p l e s m below meth c D cI cO cA a b bb σ τ pc i st := fun H locs ls hX hM hS hl => lv_bipush C.1.1 C.1.2.1 hd hv (k H locs ls hX hM hS hl)
theorem j_iadd (C : zCL p s m meth c D cI cO cA a b bb L xs) {x y : Int32} (hd : decode code pc = .ok (.iadd, 1)) (k : zLJ p l e s m below meth c D cI cO cA a b bb σ τ (pc + 1) i (.int (x + y) :: st)) : zLJ p l e s m below meth c D cI cO cA a b bb σ τ pc i (.int y :: .int x :: st) := fun H locs ls hX hM hS hl => lv_iadd C.1.1 C.1.2.1 hd (k H locs ls hX hM hS hl)
theorem j_isub (C : zCL p s m meth c D cI cO cA a b bb L xs) {x y : Int32} (hd : decode code pc = .ok (.isub, 1)) (k : zLJ p l e s m below meth c D cI cO cA a b bb σ τ (pc + 1) i (.int (x - y) :: st)) : zLJ p l e s m below meth c D cI cO cA a b bb σ τ pc i (.int y :: .int x :: st) := fun H locs ls hX hM hS hl => lv_isub C.1.1 C.1.2.1 hd (k H locs ls hX hM hS hl)
theorem j_iand (C : zCL p s m meth c D cI cO cA a b bb L xs) {x y : Int32} (hd : decode code pc = .ok (.iand, 1)) (k : zLJ p l e s m below meth c D cI cO cA a b bb σ τ (pc + 1) i (.int (x &&& y) :: st)) : zLJ p l e s m below meth c D cI cO cA a b bb σ τ pc i (.int y :: .int x :: st) := fun H locs ls hX hM hS hl => lv_iand C.1.1 C.1.2.1 hd (k H locs ls hX hM hS hl)
theorem j_len (C : zCL p s m meth c D cI cO cA a b bb L xs) (hd : decode code pc = .ok (.arraylength, 1)) (k : zLJ p l e s m below meth c D cI cO cA a b bb σ τ (pc + 1) i (.int (Int32.ofNat L) :: st)) : zLJ p l e s m below meth c D cI cO cA a b bb σ τ pc i (.ref bb :: st) := fun H locs ls hX hM hS hl => va_slen (A := fun q : Nat => s.heap.size ≤ q) C.1.1 C.1.2.1 C.1.2.2.2.2.2.2.1 C.1.2.2.2.2.2.2.2.1 (Nat.not_le.mpr C.1.2.2.2.2.2.2.2.1) hS hd (k H locs ls hX hM hS hl)
theorem j_sld (C : zCL p s m meth c D cI cO cA a b bb L xs) {x : Int32} (hx : vp_in x L) (hd : decode code pc = .ok (.iaload, 1)) (k : zLJ p l e s m below meth c D cI cO cA a b bb σ τ (pc + 1) i (.int (xs x.toNatClampNeg) :: st)) : zLJ p l e s m below meth c D cI cO cA a b bb σ τ pc i (.int x :: .ref bb :: st) := fun H locs ls hX hM hS hl => va_sld (A := fun q : Nat => s.heap.size ≤ q) C.1.1 C.1.2.1 C.1.2.2.2.2.2.2.1 C.1.2.2.2.2.2.2.2.1 (Nat.not_le.mpr C.1.2.2.2.2.2.2.2.1) hS hx hd (k H locs ls hX hM hS hl)
theorem j_goto (C : zCL p s m meth c D cI cO cA a b bb L xs) {off : Int} {tgt : Nat} (hd : decode code pc = .ok (.goto off, 3)) (ht : (pc : Int) + off = (tgt : Int)) (k : zLJ p l e s m below meth c D cI cO cA a b bb σ τ tgt i st) : zLJ p l e s m below meth c D cI cO cA a b bb σ τ pc i st := fun H locs ls hX hM hS hl => lv_goto C.1.1 C.1.2.1 hd ht (k H locs ls hX hM hS hl)
theorem j_gt (C : zCL p s m meth c D cI cO cA a b bb L xs) {x y : Int32} {off : Int} {tgt : Nat} (hd : decode code pc = .ok (.if_icmp .gt off, 3)) (ht : (pc : Int) + off = (tgt : Int)) (kt : y < x → zLJ p l e s m below meth c D cI cO cA a b bb σ τ tgt i st) (kf : ¬ y < x → zLJ p l e s m below meth c D cI cO cA a b bb σ τ (pc + 3) i st) : zLJ p l e s m below meth c D cI cO cA a b bb σ τ pc i (.int y :: .int x :: st) := fun H locs ls hX hM hS hl => lv_icmp_gt C.1.1 C.1.2.1 hd ht (fun q => kt q H locs ls hX hM hS hl) (fun q => kf q H locs ls hX hM hS hl)
theorem j_eq (C : zCL p s m meth c D cI cO cA a b bb L xs) {x : Int32} {off : Int} {tgt : Nat} (hd : decode code pc = .ok (.if_icmp .eq off, 3)) (ht : (pc : Int) + off = (tgt : Int)) (k : zLJ p l e s m below meth c D cI cO cA a b bb σ τ tgt i st) : zLJ p l e s m below meth c D cI cO cA a b bb σ τ pc i (.int x :: .int x :: st) := fun H locs ls hX hM hS hl => lv_icmp_eq C.1.1 C.1.2.1 hd ht (fun _ => k H locs ls hX hM hS hl) (fun q => absurd rfl q)
theorem j_leq (C : zCL p s m meth c D cI cO cA a b bb L xs) {x : Int64} {off : Int} {tgt : Nat} (hd : decode code pc = .ok (.lcmp, 1)) (hd2 : decode code (pc + 1) = .ok (.ifCond .eq off, 3)) (ht : ((pc + 1 : Nat) : Int) + off = (tgt : Int)) (k : zLJ p l e s m below meth c D cI cO cA a b bb σ τ tgt i st) : zLJ p l e s m below meth c D cI cO cA a b bb σ τ pc i (.long x :: .long x :: st) := by
  intro H locs ls hX hM hS hl
  refine W.lcmp C.1.1 C.1.2.1 hd ?_
  have e0 : lg_cmp x x = 0 := by
    unfold lg_cmp
    rw [if_neg (by rw [gt_iff_lt, Int64.lt_iff_toInt_lt]; omega), if_pos rfl]
  rw [e0]
  exact lv_if_eq C.1.1 C.1.2.1 hd2 ht (fun _ => k H locs ls hX hM hS hl) (fun q => absurd rfl q)
theorem j_tabO (C : zCL p s m meth c D cI cO cA a b bb L xs) {dflt lo hi : Int} {offs : Array Int} {len : Nat} {x : Int32} {tgt : Nat} (hd : decode code pc = .ok (.tableswitch dflt lo hi offs, len)) (h : x.toInt < lo ∨ hi < x.toInt) (ht : (pc : Int) + dflt = (tgt : Int)) (k : zLJ p l e s m below meth c D cI cO cA a b bb σ τ tgt i st) : zLJ p l e s m below meth c D cI cO cA a b bb σ τ pc i (.int x :: st) := fun H locs ls hX hM hS hl => lv_tableOut C.1.1 C.1.2.1 hd h ht (k H locs ls hX hM hS hl)
theorem j_tabI (C : zCL p s m meth c D cI cO cA a b bb L xs) {dflt lo hi : Int} {offs : Array Int} {len : Nat} {x : Int32} {off : Int} {tgt : Nat} (hd : decode code pc = .ok (.tableswitch dflt lo hi offs, len)) (h1 : ¬ x.toInt < lo) (h2 : ¬ hi < x.toInt) (ho : offs[(x.toInt - lo).toNat]? = some off) (ht : (pc : Int) + off = (tgt : Int)) (k : zLJ p l e s m below meth c D cI cO cA a b bb σ τ tgt i st) : zLJ p l e s m below meth c D cI cO cA a b bb σ τ pc i (.int x :: st) := fun H locs ls hX hM hS hl => lv_tableIn C.1.1 C.1.2.1 hd h1 h2 ho ht (k H locs ls hX hM hS hl)
theorem j_iinc (C : zCL p s m meth c D cI cO cA a b bb L xs) {n : Int} {v : Int32} (hd : decode code pc = .ok (.iinc 3 n, 3)) (hv : i + Int32.ofInt n = v) (k : zLJ p l e s m below meth c D cI cO cA a b bb σ τ (pc + 3) v st) : zLJ p l e s m below meth c D cI cO cA a b bb σ τ pc i st := by
  intro H locs ls hX hM hS hl
  obtain ⟨j, hj⟩ := List.getElem?_of_mem ((zlp_mem [some (.ref bb), some (.ref (a 0)), some (.ref (b 0)), some (.int i)] 0 3 (.int i)).mpr ⟨3, by omega, rfl⟩)
  exact lv_iinc C.1.1 C.1.2.1 hd hl hj hv (by decide) rfl (fun ls2 h => k H locs ls2 hX hM hS (zlx_st1 rfl h))
/-- script[i + k] -/
theorem j_arg (C : zCL p s m meth c D cI cO cA a b bb L xs) {n k : Nat} (hk : n + k < L) (hc : Int32.ofInt (k : Int) = nI k) (h0 : decode code pc = .ok (.aload_n 0, 1)) (h1 : decode code (pc + 1) = .ok (.iload_n 3, 1)) (h2 : decode code (pc + 2) = .ok (.iconst (k : Int), 1)) (h3 : decode code (pc + 3) = .ok (.iadd, 1)) (h4 : decode code (pc + 4) = .ok (.iaload, 1)) (kk : zLJ p l e s m below meth c D cI cO cA a b bb σ τ (pc + 5) (nI n) (.int (xs (n + k)) :: st)) : zLJ p l e s m below meth c D cI cO cA a b bb σ τ pc (nI n) st := by
  have hL := C.2.2.2.2.2.2.2.2
  refine j_aload C h0 rfl ?_
  refine j_iload C h1 ?_
  refine j_iconst C h2 hc ?_
  refine j_iadd C h3 ?_
  rw [nI_add]
  refine j_sld C (vp_in_nI hk (by omega)) h4 ?_
  rw [nI_clamp (by omega)]
  exact kk
theorem j_callXi (C : zCL p s m meth c D cI cO cA a b bb L xs) {y : MethodName} {yc : ByteArray} {yL n idx : Nat} {yret : Option FieldType} {rm : Room} {r : Int32} {u2 : zSt} (As rest : List Value) (hQ : zMi l D (ztys cI cO cA) 51 a (fX a cI cO cA) y yc yL yret rm (.ref (a 0) :: As) σ (r, u2)) (hq : y.cls = RX5) (hw : zwV RL idx y) (hB : zwB y yc yL yret n) (hr : zrm_ok rm room_1 yL) (hn : As.length = n) (hst : st = As.reverse ++ .ref (a 0) :: rest) (hcat : (rest.map fun v => v.category).sum ≤ 8) (hd : decode code pc = .ok (.invokevirtual idx, 3)) (k : zLJ p l e s m below meth c D cI cO cA a b bb u2 τ (pc + 3) i (.int r :: rest)) : zLJ p l e s m below meth c D cI cO cA a b bb σ τ pc i st := by
  intro H locs ls hX hM hS hl
  have ht := zcl_t C
  have cw : CallW room_1 s #[Value.ref bb] RL y.cls idx y yc yL yret (.code y yc yL yret :: zbig) rm 0 0 n := ⟨zcallB ht hB hw.1 hr, ht _ hw.2.1, ht _ hw.2.2⟩
  have hp : PreV s H y.cls (a 0) (zPc D (ztys cI cO cA) 51 a (fX a cI cO cA) (.ref (a 0) :: As) σ) As := by rw [hq]; exact zpreV (q := (RX5, _, _)) hX C.2.1 C.2.2.1 (by decide) fX_0 rfl
  have hin : ∀ q, zAA 51 a q → s.heap.size ≤ q := fun q h => by
    obtain ⟨j, hj, rfl⟩ := h
    exact C.2.2.2.2.2.1 j hj
  refine va_calli (A0 := fun q : Nat => s.heap.size ≤ q) (va_runV (As := As) (rest := rest) ⟨C.1.1, C.1.2.1, C.1.2.2.2.1, C.1.2.2.2.2.1, ht⟩ hQ cw hp rfl hn hl.1 hst (lv_room hcat) hd ⟨Nat.le_refl _, Nat.le_refl _⟩) hS (fun q _ h => hin q h) (fun q h => hin q h) (fun r9 u t H1 locs1 ht1 hvm hw1 hB1 hz1 hk1 hS1 => ?_)
  cases hw1
  have hkeep : va_P D zcl (zwd 21 b (fM b cI) τ) H1 := hM.kept (fun j q hj => by
    obtain ⟨hj2, rfl⟩ := zwd_some hj
    refine hk1 _ ((hM j _ hj).lt) (fun h => ?_)
    obtain ⟨j0, h1, h2⟩ := h
    exact C.2.2.2.2.2.2.2.1 j0 j h1 hj2 h2.symm)
  have hnew : va_P D zcl (zwd 51 a (fX a cI cO cA) u2) H1 := by rw [← ht1]; exact hB1
  exact k H1 locs1 ls hnew hkeep hS1 hl
theorem j_callXl (C : zCL p s m meth c D cI cO cA a b bb L xs) {y : MethodName} {yc : ByteArray} {yL n idx : Nat} {yret : Option FieldType} {rm : Room} {r : Int64} {u2 : zSt} (As rest : List Value) (hQ : zMl l D (ztys cI cO cA) 51 a (fX a cI cO cA) y yc yL yret rm (.ref (a 0) :: As) σ (r, u2)) (hq : y.cls = RX5) (hw : zwV RL idx y) (hB : zwB y yc yL yret n) (hr : zrm_ok rm room_1 yL) (hn : As.length = n) (hst : st = As.reverse ++ .ref (a 0) :: rest) (hcat : (rest.map fun v => v.category).sum ≤ 8) (hd : decode code pc = .ok (.invokevirtual idx, 3)) (k : zLJ p l e s m below meth c D cI cO cA a b bb u2 τ (pc + 3) i (.long r :: rest)) : zLJ p l e s m below meth c D cI cO cA a b bb σ τ pc i st := by
  intro H locs ls hX hM hS hl
  have ht := zcl_t C
  have cw : CallW room_1 s #[Value.ref bb] RL y.cls idx y yc yL yret (.code y yc yL yret :: zbig) rm 0 0 n := ⟨zcallB ht hB hw.1 hr, ht _ hw.2.1, ht _ hw.2.2⟩
  have hp : PreV s H y.cls (a 0) (zPc D (ztys cI cO cA) 51 a (fX a cI cO cA) (.ref (a 0) :: As) σ) As := by rw [hq]; exact zpreV (q := (RX5, _, _)) hX C.2.1 C.2.2.1 (by decide) fX_0 rfl
  have hin : ∀ q, zAA 51 a q → s.heap.size ≤ q := fun q h => by
    obtain ⟨j, hj, rfl⟩ := h
    exact C.2.2.2.2.2.1 j hj
  refine va_calll (A0 := fun q : Nat => s.heap.size ≤ q) (va_runV (As := As) (rest := rest) ⟨C.1.1, C.1.2.1, C.1.2.2.2.1, C.1.2.2.2.2.1, ht⟩ hQ cw hp rfl hn hl.1 hst (lv_room hcat) hd ⟨Nat.le_refl _, Nat.le_refl _⟩) hS (fun q _ h => hin q h) (fun q h => hin q h) (fun r9 u t H1 locs1 ht1 hvm hw1 hB1 hz1 hk1 hS1 => ?_)
  cases hw1
  have hkeep : va_P D zcl (zwd 21 b (fM b cI) τ) H1 := hM.kept (fun j q hj => by
    obtain ⟨hj2, rfl⟩ := zwd_some hj
    refine hk1 _ ((hM j _ hj).lt) (fun h => ?_)
    obtain ⟨j0, h1, h2⟩ := h
    exact C.2.2.2.2.2.2.2.1 j0 j h1 hj2 h2.symm)
  have hnew : va_P D zcl (zwd 51 a (fX a cI cO cA) u2) H1 := by rw [← ht1]; exact hB1
  exact k H1 locs1 ls hnew hkeep hS1 hl
theorem j_callMi (C : zCL p s m meth c D cI cO cA a b bb L xs) {y : MethodName} {yc : ByteArray} {yL n idx : Nat} {yret : Option FieldType} {rm : Room} {r : Int32} {u2 : zSt} (As rest : List Value) (hQ : zMi l D (ztys cI cO cA) 21 b (fM b cI) y yc yL yret rm (.ref (b 0) :: As) τ (r, u2)) (hq : y.cls = RX6) (hw : zwV RL idx y) (hB : zwB y yc yL yret n) (hr : zrm_ok rm room_1 yL) (hn : As.length = n) (hst : st = As.reverse ++ .ref (b 0) :: rest) (hcat : (rest.map fun v => v.category).sum ≤ 8) (hd : decode code pc = .ok (.invokevirtual idx, 3)) (k : zLJ p l e s m below meth c D cI cO cA a b bb σ u2 (pc + 3) i (.int r :: rest)) : zLJ p l e s m below meth c D cI cO cA a b bb σ τ pc i st := by
  intro H locs ls hX hM hS hl
  have ht := zcl_t C
  have cw : CallW room_1 s #[Value.ref bb] RL y.cls idx y yc yL yret (.code y yc yL yret :: zbig) rm 0 0 n := ⟨zcallB ht hB hw.1 hr, ht _ hw.2.1, ht _ hw.2.2⟩
  have hp : PreV s H y.cls (b 0) (zPc D (ztys cI cO cA) 21 b (fM b cI) (.ref (b 0) :: As) τ) As := by rw [hq]; exact zpreV (q := (RX6, _, _)) hM C.2.1 C.2.2.1 (by decide) fM_0 rfl
  have hin : ∀ q, zAA 21 b q → s.heap.size ≤ q := fun q h => by
    obtain ⟨j, hj, rfl⟩ := h
    exact C.2.2.2.2.2.2.1 j hj
  refine va_calli (A0 := fun q : Nat => s.heap.size ≤ q) (va_runV (As := As) (rest := rest) ⟨C.1.1, C.1.2.1, C.1.2.2.2.1, C.1.2.2.2.2.1, ht⟩ hQ cw hp rfl hn hl.1 hst (lv_room hcat) hd ⟨Nat.le_refl _, Nat.le_refl _⟩) hS (fun q _ h => hin q h) (fun q h => hin q h) (fun r9 u t H1 locs1 ht1 hvm hw1 hB1 hz1 hk1 hS1 => ?_)
  cases hw1
  have hkeep : va_P D zcl (zwd 51 a (fX a cI cO cA) σ) H1 := hX.kept (fun j q hj => by
    obtain ⟨hj2, rfl⟩ := zwd_some hj
    refine hk1 _ ((hX j _ hj).lt) (fun h => ?_)
    obtain ⟨j0, h1, h2⟩ := h
    exact C.2.2.2.2.2.2.2.1 j j0 hj2 h1 h2)
  have hnew : va_P D zcl (zwd 21 b (fM b cI) u2) H1 := by rw [← ht1]; exact hB1
  exact k H1 locs1 ls hkeep hnew hS1 hl
theorem j_callMl (C : zCL p s m meth c D cI cO cA a b bb L xs) {y : MethodName} {yc : ByteArray} {yL n idx : Nat} {yret : Option FieldType} {rm : Room} {r : Int64} {u2 : zSt} (As rest : List Value) (hQ : zMl l D (ztys cI cO cA) 21 b (fM b cI) y yc yL yret rm (.ref (b 0) :: As) τ (r, u2)) (hq : y.cls = RX6) (hw : zwV RL idx y) (hB : zwB y yc yL yret n) (hr : zrm_ok rm room_1 yL) (hn : As.length = n) (hst : st = As.reverse ++ .ref (b 0) :: rest) (hcat : (rest.map fun v => v.category).sum ≤ 8) (hd : decode code pc = .ok (.invokevirtual idx, 3)) (k : zLJ p l e s m below meth c D cI cO cA a b bb σ u2 (pc + 3) i (.long r :: rest)) : zLJ p l e s m below meth c D cI cO cA a b bb σ τ pc i st := by
  intro H locs ls hX hM hS hl
  have ht := zcl_t C
  have cw : CallW room_1 s #[Value.ref bb] RL y.cls idx y yc yL yret (.code y yc yL yret :: zbig) rm 0 0 n := ⟨zcallB ht hB hw.1 hr, ht _ hw.2.1, ht _ hw.2.2⟩
  have hp : PreV s H y.cls (b 0) (zPc D (ztys cI cO cA) 21 b (fM b cI) (.ref (b 0) :: As) τ) As := by rw [hq]; exact zpreV (q := (RX6, _, _)) hM C.2.1 C.2.2.1 (by decide) fM_0 rfl
  have hin : ∀ q, zAA 21 b q → s.heap.size ≤ q := fun q h => by
    obtain ⟨j, hj, rfl⟩ := h
    exact C.2.2.2.2.2.2.1 j hj
  refine va_calll (A0 := fun q : Nat => s.heap.size ≤ q) (va_runV (As := As) (rest := rest) ⟨C.1.1, C.1.2.1, C.1.2.2.2.1, C.1.2.2.2.2.1, ht⟩ hQ cw hp rfl hn hl.1 hst (lv_room hcat) hd ⟨Nat.le_refl _, Nat.le_refl _⟩) hS (fun q _ h => hin q h) (fun q h => hin q h) (fun r9 u t H1 locs1 ht1 hvm hw1 hB1 hz1 hk1 hS1 => ?_)
  cases hw1
  have hkeep : va_P D zcl (zwd 51 a (fX a cI cO cA) σ) H1 := hX.kept (fun j q hj => by
    obtain ⟨hj2, rfl⟩ := zwd_some hj
    refine hk1 _ ((hX j _ hj).lt) (fun h => ?_)
    obtain ⟨j0, h1, h2⟩ := h
    exact C.2.2.2.2.2.2.2.1 j j0 hj2 h1 h2)
  have hnew : va_P D zcl (zwd 21 b (fM b cI) u2) H1 := by rw [← ht1]; exact hB1
  exact k H1 locs1 ls hkeep hnew hS1 hl
end ZJ
