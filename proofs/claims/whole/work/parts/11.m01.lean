noncomputable section
/-! VineRowsModel.unjoin -/
abbrev rm_X6_unjoin : Room := { frames := 0, cells := 0, slots := 0, locals := 0 }
def M_X6_unjoin (p1 : Int32) (p2 : Int32) (σ : zSt) : Option (zSt) := zga (σ 4) p1 8 (fun x1 => zgs σ 4 p1 8 (x1 &&& (znt (zon p2))) (fun σ2 => zga (σ2 4) p2 8 (fun x3 => zgs σ2 4 p2 8 (x3 &&& (znt (zon p1))) (fun σ4 => some σ4))))
set_option maxRecDepth 20000 in
theorem c_X6_unjoin {l : Launch} {D : va_G} {a : Nat → Nat} {cI cO cA : ClassId} (hinj : ∀ i j, i < 21 → j < 21 → a i = a j → i = j) {p1 : Int32} {p2 : Int32} {σ : zSt} {o : zSt} (h : M_X6_unjoin p1 p2 σ = some o) : zMv l D (ztys cI cO cA) 21 a (fM a cI) yX6_unjoin cX6_unjoin 3 none rm_X6_unjoin [.ref (a 0), .int p1, .int p2] σ o := by
  unfold M_X6_unjoin at h
  refine zmetv (own := RX6) [some (.ref (a 0)), some (.int p1), some (.int p2)] (by decide) rfl hinj (Nat.le_of_ble_eq_true rfl) rfl (fun p e s m args below meth c C => ?_)
  refine r_aload_n (x := (a 0)) C dX6_unjoin_0 rfl ?_
  refine gf_X6_19 C dX6_unjoin_1 ?_
  refine r_iload_n (x := p1) C dX6_unjoin_4 rfl ?_
  refine r_dup2 C dX6_unjoin_5 rfl rfl ?_
  refine r_iald (t0 := 0) C 4 aM_4 rfl dX6_unjoin_6 h (fun x1 h => ?_)
  refine r_iconst (v := 1) C dX6_unjoin_7 (by decide) ?_
  refine r_iload_n (x := p2) C dX6_unjoin_8 rfl ?_
  refine r_ishl C dX6_unjoin_9 ?_
  refine r_iconst (v := -1) C dX6_unjoin_10 (by decide) ?_
  refine r_ixor C dX6_unjoin_11 ?_
  refine r_iand C dX6_unjoin_12 ?_
  refine r_iast (t0 := 0) C 4 aM_4 rfl dX6_unjoin_13 h (fun σ2 h => ?_)
  refine r_aload_n (x := (a 0)) C dX6_unjoin_14 rfl ?_
  refine gf_X6_19 C dX6_unjoin_15 ?_
  refine r_iload_n (x := p2) C dX6_unjoin_18 rfl ?_
  refine r_dup2 C dX6_unjoin_19 rfl rfl ?_
  refine r_iald (t0 := 0) C 4 aM_4 rfl dX6_unjoin_20 h (fun x3 h => ?_)
  refine r_iconst (v := 1) C dX6_unjoin_21 (by decide) ?_
  refine r_iload_n (x := p1) C dX6_unjoin_22 rfl ?_
  refine r_ishl C dX6_unjoin_23 ?_
  refine r_iconst (v := -1) C dX6_unjoin_24 (by decide) ?_
  refine r_ixor C dX6_unjoin_25 ?_
  refine r_iand C dX6_unjoin_26 ?_
  refine r_iast (t0 := 0) C 4 aM_4 rfl dX6_unjoin_27 h (fun σ4 h => ?_)
  exact r_vret C dX6_unjoin_28 h
/-! VineRowsModel.worthOf -/
abbrev rm_X6_worthOf : Room := { frames := 0, cells := 0, slots := 0, locals := 0 }
def M_X6_worthOf (p1 : Int32) (σ : zSt) : Option (Int32 × zSt) := zga (σ 5) p1 8 (fun x1 => (if x1 = 0 then zga (σ 6) p1 8 (fun x5 => some (x5, σ)) else zga (σ 5) p1 8 (fun x2 => (if x2 = (1 : Int32) then zga (σ 6) p1 8 (fun x4 => some ((x4 + (1 : Int32)), σ)) else zga (σ 6) p1 8 (fun x3 => some (((2 : Int32) * x3), σ))))))
set_option maxRecDepth 20000 in
theorem c_X6_worthOf {l : Launch} {D : va_G} {a : Nat → Nat} {cI cO cA : ClassId} (hinj : ∀ i j, i < 21 → j < 21 → a i = a j → i = j) {p1 : Int32} {σ : zSt} {o : Int32 × zSt} (h : M_X6_worthOf p1 σ = some o) : zMi l D (ztys cI cO cA) 21 a (fM a cI) yX6_worthOf cX6_worthOf 2 (some .int) rm_X6_worthOf [.ref (a 0), .int p1] σ o := by
  unfold M_X6_worthOf at h
  refine zmeti (own := RX6) [some (.ref (a 0)), some (.int p1)] (by decide) rfl hinj (Nat.le_of_ble_eq_true rfl) rfl (fun p e s m args below meth c C => ?_)
  refine r_aload_n (x := (a 0)) C dX6_worthOf_0 rfl ?_
  refine gf_X6_22 C dX6_worthOf_1 ?_
  refine r_iload_n (x := p1) C dX6_worthOf_4 rfl ?_
  refine r_iald (t0 := 0) C 5 aM_5 rfl dX6_worthOf_5 h (fun x1 h => ?_)
  refine r_if_ne (tgt := 18) C dX6_worthOf_6 (by decide) h (fun h => ?_) (fun h => ?_)
  · refine r_aload_n (x := (a 0)) C dX6_worthOf_18 rfl ?_
    refine gf_X6_22 C dX6_worthOf_19 ?_
    refine r_iload_n (x := p1) C dX6_worthOf_22 rfl ?_
    refine r_iald (t0 := 0) C 5 aM_5 rfl dX6_worthOf_23 h (fun x2 h => ?_)
    refine r_iconst (v := 1) C dX6_worthOf_24 (by decide) ?_
    refine r_icmp_ne (tgt := 39) C dX6_worthOf_25 (by decide) h (fun h => ?_) (fun h => ?_)
    · refine r_iconst (v := 2) C dX6_worthOf_39 (by decide) ?_
      refine r_aload_n (x := (a 0)) C dX6_worthOf_40 rfl ?_
      refine gf_X6_25 C dX6_worthOf_41 ?_
      refine r_iload_n (x := p1) C dX6_worthOf_44 rfl ?_
      refine r_iald (t0 := 0) C 6 aM_6 rfl dX6_worthOf_45 h (fun x3 h => ?_)
      refine r_imul C dX6_worthOf_46 ?_
      exact r_iret C dX6_worthOf_47 h
    · refine r_aload_n (x := (a 0)) C dX6_worthOf_28 rfl ?_
      refine gf_X6_25 C dX6_worthOf_29 ?_
      refine r_iload_n (x := p1) C dX6_worthOf_32 rfl ?_
      refine r_iald (t0 := 0) C 6 aM_6 rfl dX6_worthOf_33 h (fun x4 h => ?_)
      refine r_iconst (v := 1) C dX6_worthOf_34 (by decide) ?_
      refine r_iadd C dX6_worthOf_35 ?_
      refine r_goto (tgt := 47) C dX6_worthOf_36 (by decide) ?_
      exact r_iret C dX6_worthOf_47 h
  · refine r_aload_n (x := (a 0)) C dX6_worthOf_9 rfl ?_
    refine gf_X6_25 C dX6_worthOf_10 ?_
    refine r_iload_n (x := p1) C dX6_worthOf_13 rfl ?_
    refine r_iald (t0 := 0) C 6 aM_6 rfl dX6_worthOf_14 h (fun x5 h => ?_)
    refine r_goto (tgt := 47) C dX6_worthOf_15 (by decide) ?_
    exact r_iret C dX6_worthOf_47 h
/-! VineRowsModel.worthOfSet -/
abbrev rm_X6_worthOfSet : Room := { frames := 1, cells := 0, slots := 0, locals := 21 }
def B_X6_worthOfSet_30 (p1 : Int32) (K4 : (Int32 → Int32 → zSt → Option (Int32 × zSt))) (v3 : Int32) (s0 : Int32) (s1 : Int32) (σ : zSt) : Option (Int32 × zSt) := znm ((s1 + s0)) (fun x6 => znm (v3 + (1 : Int32)) (fun x7 => K4 x6 x7 σ))
def B_X6_worthOfSet_4 (p1 : Int32) (K4 : (Int32 → Int32 → zSt → Option (Int32 × zSt))) (v2 : Int32) (v3 : Int32) (σ : zSt) : Option (Int32 × zSt) := znm (σ 0 5) (fun x1 => (if x1 ≤ v3 then some (v2, σ) else zbd (M_X6_isOf p1 v3 σ) (fun x3 σ2 => (if x3 = 0 then B_X6_worthOfSet_30 p1 K4 v3 (0 : Int32) v2 σ2 else zbd (M_X6_worthOf v3 σ2) (fun x5 σ4 => B_X6_worthOfSet_30 p1 K4 v3 x5 v2 σ4)))))
def L_X6_worthOfSet_4 (p1 : Int32) (v2 : Int32) (v3 : Int32) (σ : zSt) : Option (Int32 × zSt) := zloop (fun (rec : Int32 × Int32 × zSt → Option (Int32 × zSt)) x => B_X6_worthOfSet_4 p1  (fun v2 v3 σ => rec (v2, v3, σ)) x.1 x.2.1 x.2.2) zFU (v2, v3, σ)
def M_X6_worthOfSet (p1 : Int32) (σ : zSt) : Option (Int32 × zSt) := L_X6_worthOfSet_4 p1 (0 : Int32) (0 : Int32) σ
set_option maxRecDepth 20000 in
theorem tB_X6_worthOfSet_30 {p : Program} {l : Launch} {e : Env} {s : State} {m : MethodId} {args : Array Value} {below : List Frame} {meth : Method} {c : Code} {D : va_G} {a : Nat → Nat} {cI cO cA : ClassId} {o : Int32 × zSt} (C : zC p s m args meth c D (ztys cI cO cA) 21 a cX6_worthOfSet 4 RX6 (some .int)) {p1 : Int32} {K4 : (Int32 → Int32 → zSt → Option (Int32 × zSt))} (hK4 : ∀ (v2 : Int32) (v3 : Int32) (σ : zSt), K4 v2 v3 σ = some o → zV p l e rm_X6_worthOfSet s m args below meth c D 21 a (fM a cI) 4 (zQi below args s D 21 a (fM a cI) o) σ 4 [some (.ref (a 0)), some (.int p1), some (.int v2), some (.int v3)] []) (v3 : Int32) (s0 : Int32) (s1 : Int32) (σ : zSt) (h : B_X6_worthOfSet_30 p1 K4 v3 s0 s1 σ = some o) : zV p l e rm_X6_worthOfSet s m args below meth c D 21 a (fM a cI) 4 (zQi below args s D 21 a (fM a cI) o) σ 30 [some (.ref (a 0)), some (.int p1), none, some (.int v3)] [.int s0, .int s1] := by
  unfold B_X6_worthOfSet_30 at h
  refine r_iadd C dX6_worthOfSet_30 ?_
  refine r_nm h (fun x6 h => ?_)
  refine r_istore_n (lv' := [some (.ref (a 0)), some (.int p1), some (.int x6), some (.int v3)]) C dX6_worthOfSet_31 (by decide) rfl rfl ?_
  refine r_gen h (fun x7 ex7 h => ?_)
  refine r_iinc (x := v3) (v := x7) (lv' := [some (.ref (a 0)), some (.int p1), some (.int x6), some (.int x7)]) C dX6_worthOfSet_32 rfl (by rw [← ex7]; rfl) (by decide) rfl rfl ?_
  clear ex7
  refine r_goto (tgt := 4) C dX6_worthOfSet_35 (by decide) ?_
  exact r_le (lv' := [some (.ref (a 0)), some (.int p1), some (.int x6), some (.int x7)]) ⟨rfl, rfl, rfl, rfl, trivial⟩ (hK4 x6 x7 σ h)
set_option maxRecDepth 20000 in
theorem tB_X6_worthOfSet_4 {p : Program} {l : Launch} {e : Env} {s : State} {m : MethodId} {args : Array Value} {below : List Frame} {meth : Method} {c : Code} {D : va_G} {a : Nat → Nat} {cI cO cA : ClassId} {o : Int32 × zSt} (C : zC p s m args meth c D (ztys cI cO cA) 21 a cX6_worthOfSet 4 RX6 (some .int)) {p1 : Int32} {K4 : (Int32 → Int32 → zSt → Option (Int32 × zSt))} (hK4 : ∀ (v2 : Int32) (v3 : Int32) (σ : zSt), K4 v2 v3 σ = some o → zV p l e rm_X6_worthOfSet s m args below meth c D 21 a (fM a cI) 4 (zQi below args s D 21 a (fM a cI) o) σ 4 [some (.ref (a 0)), some (.int p1), some (.int v2), some (.int v3)] []) (v2 : Int32) (v3 : Int32) (σ : zSt) (h : B_X6_worthOfSet_4 p1 K4 v2 v3 σ = some o) : zV p l e rm_X6_worthOfSet s m args below meth c D 21 a (fM a cI) 4 (zQi below args s D 21 a (fM a cI) o) σ 4 [some (.ref (a 0)), some (.int p1), some (.int v2), some (.int v3)] [] := by
  unfold B_X6_worthOfSet_4 at h
  refine r_iload_n (x := v3) C dX6_worthOfSet_4 rfl ?_
  refine r_aload_n (x := (a 0)) C dX6_worthOfSet_5 rfl ?_
  refine gf_X6_80 C dX6_worthOfSet_6 h (fun x1 h => ?_)
  refine r_icmp_ge (tgt := 38) C dX6_worthOfSet_9 (by decide) h (fun h => ?_) (fun h => ?_)
  · refine r_iload_n (x := v2) C dX6_worthOfSet_38 rfl ?_
    exact r_iret C dX6_worthOfSet_39 h
  · refine r_iload_n (x := v2) C dX6_worthOfSet_12 rfl ?_
    refine r_iload_n (x := p1) C dX6_worthOfSet_13 rfl ?_
    refine r_iload_n (x := v3) C dX6_worthOfSet_14 rfl ?_
    refine r_callSi C [.int p1, .int v3] [.int v2] zc_X6_87 zB_X6_isOf ⟨rfl, rfl, by decide, by decide⟩ (fun out h => c_X6_isOf C.2.2.2.2.2.2.2.1  h) rfl rfl (Nat.le_of_ble_eq_true rfl) dX6_worthOfSet_15 h (fun x3 σ2 h => ?_)
    refine r_if_eq (tgt := 29) C dX6_worthOfSet_18 (by decide) h (fun h => ?_) (fun h => ?_)
    · refine r_iconst (v := 0) C dX6_worthOfSet_29 (by decide) ?_
      exact r_le (lv' := [some (.ref (a 0)), some (.int p1), none, some (.int v3)]) ⟨rfl, rfl, rfl, trivial⟩ (tB_X6_worthOfSet_30 C (K4 := K4) hK4 v3 (0 : Int32) v2 σ2 h)
    · refine r_aload_n (x := (a 0)) C dX6_worthOfSet_21 rfl ?_
      refine r_iload_n (x := v3) C dX6_worthOfSet_22 rfl ?_
      refine r_callVi C [.int v3] [.int v2] (b := 0) (by decide) fM_0 rfl rfl zc_X6_137 zB_X6_worthOf ⟨rfl, rfl, by decide, by decide⟩ (fun out h => c_X6_worthOf C.2.2.2.2.2.2.2.1  h) rfl rfl (Nat.le_of_ble_eq_true rfl) dX6_worthOfSet_23 h (fun x5 σ4 h => ?_)
      refine r_goto (tgt := 30) C dX6_worthOfSet_26 (by decide) ?_
      exact r_le (lv' := [some (.ref (a 0)), some (.int p1), none, some (.int v3)]) ⟨rfl, rfl, rfl, trivial⟩ (tB_X6_worthOfSet_30 C (K4 := K4) hK4 v3 x5 v2 σ4 h)
set_option maxRecDepth 20000 in
theorem tL_X6_worthOfSet_4 {p : Program} {l : Launch} {e : Env} {s : State} {m : MethodId} {args : Array Value} {below : List Frame} {meth : Method} {c : Code} {D : va_G} {a : Nat → Nat} {cI cO cA : ClassId} {o : Int32 × zSt} (C : zC p s m args meth c D (ztys cI cO cA) 21 a cX6_worthOfSet 4 RX6 (some .int)) {p1 : Int32}  (v2 : Int32) (v3 : Int32) (σ : zSt) (h : L_X6_worthOfSet_4 p1  v2 v3 σ = some o) : zV p l e rm_X6_worthOfSet s m args below meth c D 21 a (fM a cI) 4 (zQi below args s D 21 a (fM a cI) o) σ 4 [some (.ref (a 0)), some (.int p1), some (.int v2), some (.int v3)] [] := by
  unfold L_X6_worthOfSet_4 at h
  refine zloop_ind (G := fun x => zV p l e rm_X6_worthOfSet s m args below meth c D 21 a (fM a cI) 4 (zQi below args s D 21 a (fM a cI) o) x.2.2 4 [some (.ref (a 0)), some (.int p1), some (.int x.1), some (.int x.2.1)] []) ?_ zFU _ h
  intro rec hr x h
  exact tB_X6_worthOfSet_4 C   (fun v2 v3 σ => hr (v2, v3, σ)) _ _ _ h
set_option maxRecDepth 20000 in
theorem c_X6_worthOfSet {l : Launch} {D : va_G} {a : Nat → Nat} {cI cO cA : ClassId} (hinj : ∀ i j, i < 21 → j < 21 → a i = a j → i = j) {p1 : Int32} {σ : zSt} {o : Int32 × zSt} (h : M_X6_worthOfSet p1 σ = some o) : zMi l D (ztys cI cO cA) 21 a (fM a cI) yX6_worthOfSet cX6_worthOfSet 4 (some .int) rm_X6_worthOfSet [.ref (a 0), .int p1] σ o := by
  unfold M_X6_worthOfSet at h
  refine zmeti (own := RX6) [some (.ref (a 0)), some (.int p1), none, none] (by decide) rfl hinj (Nat.le_of_ble_eq_true rfl) rfl (fun p e s m args below meth c C => ?_)
  refine r_iconst (v := 0) C dX6_worthOfSet_0 (by decide) ?_
  refine r_istore_n (lv' := [some (.ref (a 0)), some (.int p1), some (.int (0 : Int32)), none]) C dX6_worthOfSet_1 (by decide) rfl rfl ?_
  refine r_iconst (v := 0) C dX6_worthOfSet_2 (by decide) ?_
  refine r_istore_n (lv' := [some (.ref (a 0)), some (.int p1), some (.int (0 : Int32)), some (.int (0 : Int32))]) C dX6_worthOfSet_3 (by decide) rfl rfl ?_
  exact r_le (lv' := [some (.ref (a 0)), some (.int p1), some (.int (0 : Int32)), some (.int (0 : Int32))]) ⟨rfl, rfl, rfl, rfl, trivial⟩ (tL_X6_worthOfSet_4 C (0 : Int32) (0 : Int32) σ h)
/-! VineRowsModel.ends -/
abbrev rm_X6_ends : Room := { frames := 1, cells := 0, slots := 0, locals := 22 }
def B_X6_ends_33 (K4 : (Int32 → Int32 → zSt → Option (Int32 × zSt))) (v2 : Int32) (s0 : Int32) (s1 : Int32) (σ : zSt) : Option (Int32 × zSt) := znm ((s1 ||| s0)) (fun x5 => znm (v2 + (1 : Int32)) (fun x6 => K4 x5 x6 σ))
def B_X6_ends_4 (K4 : (Int32 → Int32 → zSt → Option (Int32 × zSt))) (v1 : Int32) (v2 : Int32) (σ : zSt) : Option (Int32 × zSt) := znm (σ 0 5) (fun x1 => (if x1 ≤ v2 then some (v1, σ) else zga (σ 4) v2 8 (fun x2 => zbd (M_X6_size x2 σ) (fun x4 σ3 => (if x4 = (1 : Int32) then B_X6_ends_33 K4 v2 (zon v2) v1 σ3 else B_X6_ends_33 K4 v2 (0 : Int32) v1 σ3)))))
def L_X6_ends_4 (v1 : Int32) (v2 : Int32) (σ : zSt) : Option (Int32 × zSt) := zloop (fun (rec : Int32 × Int32 × zSt → Option (Int32 × zSt)) x => B_X6_ends_4   (fun v1 v2 σ => rec (v1, v2, σ)) x.1 x.2.1 x.2.2) zFU (v1, v2, σ)
def M_X6_ends (σ : zSt) : Option (Int32 × zSt) := L_X6_ends_4 (0 : Int32) (0 : Int32) σ
set_option maxRecDepth 20000 in
theorem tB_X6_ends_33 {p : Program} {l : Launch} {e : Env} {s : State} {m : MethodId} {args : Array Value} {below : List Frame} {meth : Method} {c : Code} {D : va_G} {a : Nat → Nat} {cI cO cA : ClassId} {o : Int32 × zSt} (C : zC p s m args meth c D (ztys cI cO cA) 21 a cX6_ends 3 RX6 (some .int)) {K4 : (Int32 → Int32 → zSt → Option (Int32 × zSt))} (hK4 : ∀ (v1 : Int32) (v2 : Int32) (σ : zSt), K4 v1 v2 σ = some o → zV p l e rm_X6_ends s m args below meth c D 21 a (fM a cI) 3 (zQi below args s D 21 a (fM a cI) o) σ 4 [some (.ref (a 0)), some (.int v1), some (.int v2)] []) (v2 : Int32) (s0 : Int32) (s1 : Int32) (σ : zSt) (h : B_X6_ends_33  K4 v2 s0 s1 σ = some o) : zV p l e rm_X6_ends s m args below meth c D 21 a (fM a cI) 3 (zQi below args s D 21 a (fM a cI) o) σ 33 [some (.ref (a 0)), none, some (.int v2)] [.int s0, .int s1] := by
  unfold B_X6_ends_33 at h
  refine r_ior C dX6_ends_33 ?_
  refine r_nm h (fun x5 h => ?_)
  refine r_istore_n (lv' := [some (.ref (a 0)), some (.int x5), some (.int v2)]) C dX6_ends_34 (by decide) rfl rfl ?_
  refine r_gen h (fun x6 ex6 h => ?_)
  refine r_iinc (x := v2) (v := x6) (lv' := [some (.ref (a 0)), some (.int x5), some (.int x6)]) C dX6_ends_35 rfl (by rw [← ex6]; rfl) (by decide) rfl rfl ?_
  clear ex6
  refine r_goto (tgt := 4) C dX6_ends_38 (by decide) ?_
  exact r_le (lv' := [some (.ref (a 0)), some (.int x5), some (.int x6)]) ⟨rfl, rfl, rfl, trivial⟩ (hK4 x5 x6 σ h)
set_option maxRecDepth 20000 in
theorem tB_X6_ends_4 {p : Program} {l : Launch} {e : Env} {s : State} {m : MethodId} {args : Array Value} {below : List Frame} {meth : Method} {c : Code} {D : va_G} {a : Nat → Nat} {cI cO cA : ClassId} {o : Int32 × zSt} (C : zC p s m args meth c D (ztys cI cO cA) 21 a cX6_ends 3 RX6 (some .int)) {K4 : (Int32 → Int32 → zSt → Option (Int32 × zSt))} (hK4 : ∀ (v1 : Int32) (v2 : Int32) (σ : zSt), K4 v1 v2 σ = some o → zV p l e rm_X6_ends s m args below meth c D 21 a (fM a cI) 3 (zQi below args s D 21 a (fM a cI) o) σ 4 [some (.ref (a 0)), some (.int v1), some (.int v2)] []) (v1 : Int32) (v2 : Int32) (σ : zSt) (h : B_X6_ends_4  K4 v1 v2 σ = some o) : zV p l e rm_X6_ends s m args below meth c D 21 a (fM a cI) 3 (zQi below args s D 21 a (fM a cI) o) σ 4 [some (.ref (a 0)), some (.int v1), some (.int v2)] [] := by
  unfold B_X6_ends_4 at h
  refine r_iload_n (x := v2) C dX6_ends_4 rfl ?_
  refine r_aload_n (x := (a 0)) C dX6_ends_5 rfl ?_
  refine gf_X6_80 C dX6_ends_6 h (fun x1 h => ?_)
  refine r_icmp_ge (tgt := 41) C dX6_ends_9 (by decide) h (fun h => ?_) (fun h => ?_)
  · refine r_iload_n (x := v1) C dX6_ends_41 rfl ?_
    exact r_iret C dX6_ends_42 h
  · refine r_iload_n (x := v1) C dX6_ends_12 rfl ?_
    refine r_aload_n (x := (a 0)) C dX6_ends_13 rfl ?_
    refine gf_X6_19 C dX6_ends_14 ?_
    refine r_iload_n (x := v2) C dX6_ends_17 rfl ?_
    refine r_iald (t0 := 0) C 4 aM_4 rfl dX6_ends_18 h (fun x2 h => ?_)
    refine r_callSi C [.int x2] [.int v1] zc_X6_140 zB_X6_size ⟨rfl, rfl, by decide, by decide⟩ (fun out h => c_X6_size C.2.2.2.2.2.2.2.1  h) rfl rfl (Nat.le_of_ble_eq_true rfl) dX6_ends_19 h (fun x4 σ3 h => ?_)
    refine r_iconst (v := 1) C dX6_ends_22 (by decide) ?_
    refine r_icmp_ne (tgt := 32) C dX6_ends_23 (by decide) h (fun h => ?_) (fun h => ?_)
    · refine r_iconst (v := 0) C dX6_ends_32 (by decide) ?_
      exact r_le (lv' := [some (.ref (a 0)), none, some (.int v2)]) ⟨rfl, rfl, trivial⟩ (tB_X6_ends_33 C (K4 := K4) hK4 v2 (0 : Int32) v1 σ3 h)
    · refine r_iconst (v := 1) C dX6_ends_26 (by decide) ?_
      refine r_iload_n (x := v2) C dX6_ends_27 rfl ?_
      refine r_ishl C dX6_ends_28 ?_
      refine r_goto (tgt := 33) C dX6_ends_29 (by decide) ?_
      exact r_le (lv' := [some (.ref (a 0)), none, some (.int v2)]) ⟨rfl, rfl, trivial⟩ (tB_X6_ends_33 C (K4 := K4) hK4 v2 (zon v2) v1 σ3 h)
set_option maxRecDepth 20000 in
theorem tL_X6_ends_4 {p : Program} {l : Launch} {e : Env} {s : State} {m : MethodId} {args : Array Value} {below : List Frame} {meth : Method} {c : Code} {D : va_G} {a : Nat → Nat} {cI cO cA : ClassId} {o : Int32 × zSt} (C : zC p s m args meth c D (ztys cI cO cA) 21 a cX6_ends 3 RX6 (some .int))  (v1 : Int32) (v2 : Int32) (σ : zSt) (h : L_X6_ends_4   v1 v2 σ = some o) : zV p l e rm_X6_ends s m args below meth c D 21 a (fM a cI) 3 (zQi below args s D 21 a (fM a cI) o) σ 4 [some (.ref (a 0)), some (.int v1), some (.int v2)] [] := by
  unfold L_X6_ends_4 at h
  refine zloop_ind (G := fun x => zV p l e rm_X6_ends s m args below meth c D 21 a (fM a cI) 3 (zQi below args s D 21 a (fM a cI) o) x.2.2 4 [some (.ref (a 0)), some (.int x.1), some (.int x.2.1)] []) ?_ zFU _ h
  intro rec hr x h
  exact tB_X6_ends_4 C   (fun v1 v2 σ => hr (v1, v2, σ)) _ _ _ h
set_option maxRecDepth 20000 in
theorem c_X6_ends {l : Launch} {D : va_G} {a : Nat → Nat} {cI cO cA : ClassId} (hinj : ∀ i j, i < 21 → j < 21 → a i = a j → i = j) {σ : zSt} {o : Int32 × zSt} (h : M_X6_ends  σ = some o) : zMi l D (ztys cI cO cA) 21 a (fM a cI) yX6_ends cX6_ends 3 (some .int) rm_X6_ends [.ref (a 0)] σ o := by
  unfold M_X6_ends at h
  refine zmeti (own := RX6) [some (.ref (a 0)), none, none] (by decide) rfl hinj (Nat.le_of_ble_eq_true rfl) rfl (fun p e s m args below meth c C => ?_)
  refine r_iconst (v := 0) C dX6_ends_0 (by decide) ?_
  refine r_istore_n (lv' := [some (.ref (a 0)), some (.int (0 : Int32)), none]) C dX6_ends_1 (by decide) rfl rfl ?_
  refine r_iconst (v := 0) C dX6_ends_2 (by decide) ?_
  refine r_istore_n (lv' := [some (.ref (a 0)), some (.int (0 : Int32)), some (.int (0 : Int32))]) C dX6_ends_3 (by decide) rfl rfl ?_
  exact r_le (lv' := [some (.ref (a 0)), some (.int (0 : Int32)), some (.int (0 : Int32))]) ⟨rfl, rfl, rfl, trivial⟩ (tL_X6_ends_4 C (0 : Int32) (0 : Int32) σ h)
/-! VineRowsModel.findFars -/
abbrev rm_X6_findFars : Room := { frames := 1, cells := 0, slots := 0, locals := 21 }
def B_X6_findFars_73 (K2 : (Int32 → zSt → Option (zSt))) (K19 : (Int32 → Int32 → Int32 → Int32 → zSt → Option (zSt))) (K29 : (Int32 → Int32 → Int32 → Int32 → Int32 → Int32 → zSt → Option (zSt))) (v1 : Int32) (v2 : Int32) (v3 : Int32) (v4 : Int32) (v5 : Int32) (v6 : Int32) (σ : zSt) : Option (zSt) := znm (v6 + (1 : Int32)) (fun x13 => K29 v1 v2 v3 v4 v5 x13 σ)
def B_X6_findFars_29 (K2 : (Int32 → zSt → Option (zSt))) (K19 : (Int32 → Int32 → Int32 → Int32 → zSt → Option (zSt))) (K29 : (Int32 → Int32 → Int32 → Int32 → Int32 → Int32 → zSt → Option (zSt))) (v1 : Int32) (v2 : Int32) (v3 : Int32) (v4 : Int32) (v5 : Int32) (v6 : Int32) (σ : zSt) : Option (zSt) := znm (σ 0 5) (fun x4 => (if x4 ≤ v6 then znm ((v2 ||| v3)) (fun x5 => znm ((v5 &&& (znt x5))) (fun x6 => znm (v4 + (1 : Int32)) (fun x7 => K19 v1 x5 x6 x7 σ))) else zbd (M_X6_isOf v3 v6 σ) (fun x9 σ8 => (if x9 = 0 then B_X6_findFars_73 K2 K19 K29 v1 v2 v3 v4 v5 v6 σ8 else zgs σ8 10 (((8 : Int32) * v1) + v6) 64 v4 (fun σ10 => zga (σ10 4) v6 8 (fun x11 => znm ((v5 ||| x11)) (fun x12 => B_X6_findFars_73 K2 K19 K29 v1 v2 v3 v4 x12 v6 σ10)))))))
def L_X6_findFars_29 (K2 : (Int32 → zSt → Option (zSt))) (K19 : (Int32 → Int32 → Int32 → Int32 → zSt → Option (zSt))) (v1 : Int32) (v2 : Int32) (v3 : Int32) (v4 : Int32) (v5 : Int32) (v6 : Int32) (σ : zSt) : Option (zSt) := zloop (fun (rec : Int32 × Int32 × Int32 × Int32 × Int32 × Int32 × zSt → Option (zSt)) x => B_X6_findFars_29  K2 K19 (fun v1 v2 v3 v4 v5 v6 σ => rec (v1, v2, v3, v4, v5, v6, σ)) x.1 x.2.1 x.2.2.1 x.2.2.2.1 x.2.2.2.2.1 x.2.2.2.2.2.1 x.2.2.2.2.2.2) zFU (v1, v2, v3, v4, v5, v6, σ)
def B_X6_findFars_19 (K2 : (Int32 → zSt → Option (zSt))) (K19 : (Int32 → Int32 → Int32 → Int32 → zSt → Option (zSt))) (v1 : Int32) (v2 : Int32) (v3 : Int32) (v4 : Int32) (σ : zSt) : Option (zSt) := (if v3 = 0 then znm (v1 + (1 : Int32)) (fun x3 => K2 x3 σ) else L_X6_findFars_29 K2 K19 v1 v2 v3 v4 (0 : Int32) (0 : Int32) σ)
def L_X6_findFars_19 (K2 : (Int32 → zSt → Option (zSt))) (v1 : Int32) (v2 : Int32) (v3 : Int32) (v4 : Int32) (σ : zSt) : Option (zSt) := zloop (fun (rec : Int32 × Int32 × Int32 × Int32 × zSt → Option (zSt)) x => B_X6_findFars_19  K2 (fun v1 v2 v3 v4 σ => rec (v1, v2, v3, v4, σ)) x.1 x.2.1 x.2.2.1 x.2.2.2.1 x.2.2.2.2) zFU (v1, v2, v3, v4, σ)
def B_X6_findFars_2 (K2 : (Int32 → zSt → Option (zSt))) (v1 : Int32) (σ : zSt) : Option (zSt) := znm (σ 0 5) (fun x1 => (if x1 ≤ v1 then some σ else znm ((zon v1)) (fun x2 => L_X6_findFars_19 K2 v1 (0 : Int32) x2 (0 : Int32) σ)))
def L_X6_findFars_2 (v1 : Int32) (σ : zSt) : Option (zSt) := zloop (fun (rec : Int32 × zSt → Option (zSt)) x => B_X6_findFars_2   (fun v1 σ => rec (v1, σ)) x.1 x.2) zFU (v1, σ)
def M_X6_findFars (σ : zSt) : Option (zSt) := L_X6_findFars_2 (0 : Int32) σ
set_option maxRecDepth 20000 in
theorem tB_X6_findFars_73 {p : Program} {l : Launch} {e : Env} {s : State} {m : MethodId} {args : Array Value} {below : List Frame} {meth : Method} {c : Code} {D : va_G} {a : Nat → Nat} {cI cO cA : ClassId} {o : zSt} (C : zC p s m args meth c D (ztys cI cO cA) 21 a cX6_findFars 7 RX6 none) {K2 : (Int32 → zSt → Option (zSt))} {K19 : (Int32 → Int32 → Int32 → Int32 → zSt → Option (zSt))} {K29 : (Int32 → Int32 → Int32 → Int32 → Int32 → Int32 → zSt → Option (zSt))} (hK2 : ∀ (v1 : Int32) (σ : zSt), K2 v1 σ = some o → zV p l e rm_X6_findFars s m args below meth c D 21 a (fM a cI) 7 (zQv below args s D 21 a (fM a cI) o) σ 2 [some (.ref (a 0)), some (.int v1), none, none, none, none, none] []) (hK19 : ∀ (v1 : Int32) (v2 : Int32) (v3 : Int32) (v4 : Int32) (σ : zSt), K19 v1 v2 v3 v4 σ = some o → zV p l e rm_X6_findFars s m args below meth c D 21 a (fM a cI) 7 (zQv below args s D 21 a (fM a cI) o) σ 19 [some (.ref (a 0)), some (.int v1), some (.int v2), some (.int v3), some (.int v4), none, none] []) (hK29 : ∀ (v1 : Int32) (v2 : Int32) (v3 : Int32) (v4 : Int32) (v5 : Int32) (v6 : Int32) (σ : zSt), K29 v1 v2 v3 v4 v5 v6 σ = some o → zV p l e rm_X6_findFars s m args below meth c D 21 a (fM a cI) 7 (zQv below args s D 21 a (fM a cI) o) σ 29 [some (.ref (a 0)), some (.int v1), some (.int v2), some (.int v3), some (.int v4), some (.int v5), some (.int v6)] []) (v1 : Int32) (v2 : Int32) (v3 : Int32) (v4 : Int32) (v5 : Int32) (v6 : Int32) (σ : zSt) (h : B_X6_findFars_73  K2 K19 K29 v1 v2 v3 v4 v5 v6 σ = some o) : zV p l e rm_X6_findFars s m args below meth c D 21 a (fM a cI) 7 (zQv below args s D 21 a (fM a cI) o) σ 73 [some (.ref (a 0)), some (.int v1), some (.int v2), some (.int v3), some (.int v4), some (.int v5), some (.int v6)] [] := by
  unfold B_X6_findFars_73 at h
  refine r_gen h (fun x13 ex13 h => ?_)
  refine r_iinc (x := v6) (v := x13) (lv' := [some (.ref (a 0)), some (.int v1), some (.int v2), some (.int v3), some (.int v4), some (.int v5), some (.int x13)]) C dX6_findFars_73 rfl (by rw [← ex13]; rfl) (by decide) rfl rfl ?_
  clear ex13
  refine r_goto (tgt := 29) C dX6_findFars_76 (by decide) ?_
  exact r_le (lv' := [some (.ref (a 0)), some (.int v1), some (.int v2), some (.int v3), some (.int v4), some (.int v5), some (.int x13)]) ⟨rfl, rfl, rfl, rfl, rfl, rfl, rfl, trivial⟩ (hK29 v1 v2 v3 v4 v5 x13 σ h)
set_option maxRecDepth 20000 in
theorem tB_X6_findFars_29 {p : Program} {l : Launch} {e : Env} {s : State} {m : MethodId} {args : Array Value} {below : List Frame} {meth : Method} {c : Code} {D : va_G} {a : Nat → Nat} {cI cO cA : ClassId} {o : zSt} (C : zC p s m args meth c D (ztys cI cO cA) 21 a cX6_findFars 7 RX6 none) {K2 : (Int32 → zSt → Option (zSt))} {K19 : (Int32 → Int32 → Int32 → Int32 → zSt → Option (zSt))} {K29 : (Int32 → Int32 → Int32 → Int32 → Int32 → Int32 → zSt → Option (zSt))} (hK2 : ∀ (v1 : Int32) (σ : zSt), K2 v1 σ = some o → zV p l e rm_X6_findFars s m args below meth c D 21 a (fM a cI) 7 (zQv below args s D 21 a (fM a cI) o) σ 2 [some (.ref (a 0)), some (.int v1), none, none, none, none, none] []) (hK19 : ∀ (v1 : Int32) (v2 : Int32) (v3 : Int32) (v4 : Int32) (σ : zSt), K19 v1 v2 v3 v4 σ = some o → zV p l e rm_X6_findFars s m args below meth c D 21 a (fM a cI) 7 (zQv below args s D 21 a (fM a cI) o) σ 19 [some (.ref (a 0)), some (.int v1), some (.int v2), some (.int v3), some (.int v4), none, none] []) (hK29 : ∀ (v1 : Int32) (v2 : Int32) (v3 : Int32) (v4 : Int32) (v5 : Int32) (v6 : Int32) (σ : zSt), K29 v1 v2 v3 v4 v5 v6 σ = some o → zV p l e rm_X6_findFars s m args below meth c D 21 a (fM a cI) 7 (zQv below args s D 21 a (fM a cI) o) σ 29 [some (.ref (a 0)), some (.int v1), some (.int v2), some (.int v3), some (.int v4), some (.int v5), some (.int v6)] []) (v1 : Int32) (v2 : Int32) (v3 : Int32) (v4 : Int32) (v5 : Int32) (v6 : Int32) (σ : zSt) (h : B_X6_findFars_29  K2 K19 K29 v1 v2 v3 v4 v5 v6 σ = some o) : zV p l e rm_X6_findFars s m args below meth c D 21 a (fM a cI) 7 (zQv below args s D 21 a (fM a cI) o) σ 29 [some (.ref (a 0)), some (.int v1), some (.int v2), some (.int v3), some (.int v4), some (.int v5), some (.int v6)] [] := by
  unfold B_X6_findFars_29 at h
  refine r_iload (x := v6) C dX6_findFars_29 rfl ?_
  refine r_aload_n (x := (a 0)) C dX6_findFars_31 rfl ?_
  refine gf_X6_80 C dX6_findFars_32 h (fun x4 h => ?_)
  refine r_icmp_ge (tgt := 79) C dX6_findFars_35 (by decide) h (fun h => ?_) (fun h => ?_)
  · refine r_iload_n (x := v2) C dX6_findFars_79 rfl ?_
    refine r_iload_n (x := v3) C dX6_findFars_80 rfl ?_
    refine r_ior C dX6_findFars_81 ?_
    refine r_nm h (fun x5 h => ?_)
    refine r_istore_n (lv' := [some (.ref (a 0)), some (.int v1), some (.int x5), some (.int v3), some (.int v4), some (.int v5), some (.int v6)]) C dX6_findFars_82 (by decide) rfl rfl ?_
    refine r_iload (x := v5) C dX6_findFars_83 rfl ?_
    refine r_iload_n (x := x5) C dX6_findFars_85 rfl ?_
    refine r_iconst (v := -1) C dX6_findFars_86 (by decide) ?_
    refine r_ixor C dX6_findFars_87 ?_
    refine r_iand C dX6_findFars_88 ?_
    refine r_nm h (fun x6 h => ?_)
    refine r_istore_n (lv' := [some (.ref (a 0)), some (.int v1), some (.int x5), some (.int x6), some (.int v4), some (.int v5), some (.int v6)]) C dX6_findFars_89 (by decide) rfl rfl ?_
    refine r_gen h (fun x7 ex7 h => ?_)
    refine r_iinc (x := v4) (v := x7) (lv' := [some (.ref (a 0)), some (.int v1), some (.int x5), some (.int x6), some (.int x7), some (.int v5), some (.int v6)]) C dX6_findFars_90 rfl (by rw [← ex7]; rfl) (by decide) rfl rfl ?_
    clear ex7
    refine r_goto (tgt := 19) C dX6_findFars_93 (by decide) ?_
    exact r_le (lv' := [some (.ref (a 0)), some (.int v1), some (.int x5), some (.int x6), some (.int x7), none, none]) ⟨rfl, rfl, rfl, rfl, rfl, trivial⟩ (hK19 v1 x5 x6 x7 σ h)
  · refine r_iload_n (x := v3) C dX6_findFars_38 rfl ?_
    refine r_iload (x := v6) C dX6_findFars_39 rfl ?_
    refine r_callSi C [.int v3, .int v6] [] zc_X6_87 zB_X6_isOf ⟨rfl, rfl, by decide, by decide⟩ (fun out h => c_X6_isOf C.2.2.2.2.2.2.2.1  h) rfl rfl (Nat.le_of_ble_eq_true rfl) dX6_findFars_41 h (fun x9 σ8 h => ?_)
    refine r_if_eq (tgt := 73) C dX6_findFars_44 (by decide) h (fun h => ?_) (fun h => ?_)
    · exact r_le (lv' := [some (.ref (a 0)), some (.int v1), some (.int v2), some (.int v3), some (.int v4), some (.int v5), some (.int v6)]) ⟨rfl, rfl, rfl, rfl, rfl, rfl, rfl, trivial⟩ (tB_X6_findFars_73 C (K2 := K2) (K19 := K19) (K29 := K29) hK2 hK19 hK29 v1 v2 v3 v4 v5 v6 σ8 h)
    · refine r_aload_n (x := (a 0)) C dX6_findFars_47 rfl ?_
      refine gf_X6_37 C dX6_findFars_48 ?_
      refine r_bipush (v := 8) C dX6_findFars_51 (by decide) ?_
      refine r_iload_n (x := v1) C dX6_findFars_53 rfl ?_
      refine r_imul C dX6_findFars_54 ?_
      refine r_iload (x := v6) C dX6_findFars_55 rfl ?_
      refine r_iadd C dX6_findFars_57 ?_
      refine r_iload (x := v4) C dX6_findFars_58 rfl ?_
      refine r_iast (t0 := 0) C 10 aM_10 rfl dX6_findFars_60 h (fun σ10 h => ?_)
      refine r_iload (x := v5) C dX6_findFars_61 rfl ?_
      refine r_aload_n (x := (a 0)) C dX6_findFars_63 rfl ?_
      refine gf_X6_19 C dX6_findFars_64 ?_
      refine r_iload (x := v6) C dX6_findFars_67 rfl ?_
      refine r_iald (t0 := 0) C 4 aM_4 rfl dX6_findFars_69 h (fun x11 h => ?_)
      refine r_ior C dX6_findFars_70 ?_
      refine r_nm h (fun x12 h => ?_)
      refine r_istore (lv' := [some (.ref (a 0)), some (.int v1), some (.int v2), some (.int v3), some (.int v4), some (.int x12), some (.int v6)]) C dX6_findFars_71 (by decide) rfl rfl ?_
      exact r_le (lv' := [some (.ref (a 0)), some (.int v1), some (.int v2), some (.int v3), some (.int v4), some (.int x12), some (.int v6)]) ⟨rfl, rfl, rfl, rfl, rfl, rfl, rfl, trivial⟩ (tB_X6_findFars_73 C (K2 := K2) (K19 := K19) (K29 := K29) hK2 hK19 hK29 v1 v2 v3 v4 x12 v6 σ10 h)
set_option maxRecDepth 20000 in
theorem tL_X6_findFars_29 {p : Program} {l : Launch} {e : Env} {s : State} {m : MethodId} {args : Array Value} {below : List Frame} {meth : Method} {c : Code} {D : va_G} {a : Nat → Nat} {cI cO cA : ClassId} {o : zSt} (C : zC p s m args meth c D (ztys cI cO cA) 21 a cX6_findFars 7 RX6 none) {K2 : (Int32 → zSt → Option (zSt))} {K19 : (Int32 → Int32 → Int32 → Int32 → zSt → Option (zSt))} (hK2 : ∀ (v1 : Int32) (σ : zSt), K2 v1 σ = some o → zV p l e rm_X6_findFars s m args below meth c D 21 a (fM a cI) 7 (zQv below args s D 21 a (fM a cI) o) σ 2 [some (.ref (a 0)), some (.int v1), none, none, none, none, none] []) (hK19 : ∀ (v1 : Int32) (v2 : Int32) (v3 : Int32) (v4 : Int32) (σ : zSt), K19 v1 v2 v3 v4 σ = some o → zV p l e rm_X6_findFars s m args below meth c D 21 a (fM a cI) 7 (zQv below args s D 21 a (fM a cI) o) σ 19 [some (.ref (a 0)), some (.int v1), some (.int v2), some (.int v3), some (.int v4), none, none] []) (v1 : Int32) (v2 : Int32) (v3 : Int32) (v4 : Int32) (v5 : Int32) (v6 : Int32) (σ : zSt) (h : L_X6_findFars_29  K2 K19 v1 v2 v3 v4 v5 v6 σ = some o) : zV p l e rm_X6_findFars s m args below meth c D 21 a (fM a cI) 7 (zQv below args s D 21 a (fM a cI) o) σ 29 [some (.ref (a 0)), some (.int v1), some (.int v2), some (.int v3), some (.int v4), some (.int v5), some (.int v6)] [] := by
  unfold L_X6_findFars_29 at h
  refine zloop_ind (G := fun x => zV p l e rm_X6_findFars s m args below meth c D 21 a (fM a cI) 7 (zQv below args s D 21 a (fM a cI) o) x.2.2.2.2.2.2 29 [some (.ref (a 0)), some (.int x.1), some (.int x.2.1), some (.int x.2.2.1), some (.int x.2.2.2.1), some (.int x.2.2.2.2.1), some (.int x.2.2.2.2.2.1)] []) ?_ zFU _ h
  intro rec hr x h
  exact tB_X6_findFars_29 C  hK2 hK19 (fun v1 v2 v3 v4 v5 v6 σ => hr (v1, v2, v3, v4, v5, v6, σ)) _ _ _ _ _ _ _ h
set_option maxRecDepth 20000 in
theorem tB_X6_findFars_19 {p : Program} {l : Launch} {e : Env} {s : State} {m : MethodId} {args : Array Value} {below : List Frame} {meth : Method} {c : Code} {D : va_G} {a : Nat → Nat} {cI cO cA : ClassId} {o : zSt} (C : zC p s m args meth c D (ztys cI cO cA) 21 a cX6_findFars 7 RX6 none) {K2 : (Int32 → zSt → Option (zSt))} {K19 : (Int32 → Int32 → Int32 → Int32 → zSt → Option (zSt))} (hK2 : ∀ (v1 : Int32) (σ : zSt), K2 v1 σ = some o → zV p l e rm_X6_findFars s m args below meth c D 21 a (fM a cI) 7 (zQv below args s D 21 a (fM a cI) o) σ 2 [some (.ref (a 0)), some (.int v1), none, none, none, none, none] []) (hK19 : ∀ (v1 : Int32) (v2 : Int32) (v3 : Int32) (v4 : Int32) (σ : zSt), K19 v1 v2 v3 v4 σ = some o → zV p l e rm_X6_findFars s m args below meth c D 21 a (fM a cI) 7 (zQv below args s D 21 a (fM a cI) o) σ 19 [some (.ref (a 0)), some (.int v1), some (.int v2), some (.int v3), some (.int v4), none, none] []) (v1 : Int32) (v2 : Int32) (v3 : Int32) (v4 : Int32) (σ : zSt) (h : B_X6_findFars_19  K2 K19 v1 v2 v3 v4 σ = some o) : zV p l e rm_X6_findFars s m args below meth c D 21 a (fM a cI) 7 (zQv below args s D 21 a (fM a cI) o) σ 19 [some (.ref (a 0)), some (.int v1), some (.int v2), some (.int v3), some (.int v4), none, none] [] := by
  unfold B_X6_findFars_19 at h
  refine r_iload_n (x := v3) C dX6_findFars_19 rfl ?_
  refine r_if_eq (tgt := 96) C dX6_findFars_20 (by decide) h (fun h => ?_) (fun h => ?_)
  · refine r_gen h (fun x3 ex3 h => ?_)
    refine r_iinc (x := v1) (v := x3) (lv' := [some (.ref (a 0)), some (.int x3), some (.int v2), some (.int v3), some (.int v4), none, none]) C dX6_findFars_96 rfl (by rw [← ex3]; rfl) (by decide) rfl rfl ?_
    clear ex3
    refine r_goto (tgt := 2) C dX6_findFars_99 (by decide) ?_
    exact r_le (lv' := [some (.ref (a 0)), some (.int x3), none, none, none, none, none]) ⟨rfl, rfl, trivial⟩ (hK2 x3 σ h)
  · refine r_iconst (v := 0) C dX6_findFars_23 (by decide) ?_
    refine r_istore (lv' := [some (.ref (a 0)), some (.int v1), some (.int v2), some (.int v3), some (.int v4), some (.int (0 : Int32)), none]) C dX6_findFars_24 (by decide) rfl rfl ?_
    refine r_iconst (v := 0) C dX6_findFars_26 (by decide) ?_
    refine r_istore (lv' := [some (.ref (a 0)), some (.int v1), some (.int v2), some (.int v3), some (.int v4), some (.int (0 : Int32)), some (.int (0 : Int32))]) C dX6_findFars_27 (by decide) rfl rfl ?_
    exact r_le (lv' := [some (.ref (a 0)), some (.int v1), some (.int v2), some (.int v3), some (.int v4), some (.int (0 : Int32)), some (.int (0 : Int32))]) ⟨rfl, rfl, rfl, rfl, rfl, rfl, rfl, trivial⟩ (tL_X6_findFars_29 C (K2 := K2) (K19 := K19) hK2 hK19 v1 v2 v3 v4 (0 : Int32) (0 : Int32) σ h)
set_option maxRecDepth 20000 in
theorem tL_X6_findFars_19 {p : Program} {l : Launch} {e : Env} {s : State} {m : MethodId} {args : Array Value} {below : List Frame} {meth : Method} {c : Code} {D : va_G} {a : Nat → Nat} {cI cO cA : ClassId} {o : zSt} (C : zC p s m args meth c D (ztys cI cO cA) 21 a cX6_findFars 7 RX6 none) {K2 : (Int32 → zSt → Option (zSt))} (hK2 : ∀ (v1 : Int32) (σ : zSt), K2 v1 σ = some o → zV p l e rm_X6_findFars s m args below meth c D 21 a (fM a cI) 7 (zQv below args s D 21 a (fM a cI) o) σ 2 [some (.ref (a 0)), some (.int v1), none, none, none, none, none] []) (v1 : Int32) (v2 : Int32) (v3 : Int32) (v4 : Int32) (σ : zSt) (h : L_X6_findFars_19  K2 v1 v2 v3 v4 σ = some o) : zV p l e rm_X6_findFars s m args below meth c D 21 a (fM a cI) 7 (zQv below args s D 21 a (fM a cI) o) σ 19 [some (.ref (a 0)), some (.int v1), some (.int v2), some (.int v3), some (.int v4), none, none] [] := by
  unfold L_X6_findFars_19 at h
  refine zloop_ind (G := fun x => zV p l e rm_X6_findFars s m args below meth c D 21 a (fM a cI) 7 (zQv below args s D 21 a (fM a cI) o) x.2.2.2.2 19 [some (.ref (a 0)), some (.int x.1), some (.int x.2.1), some (.int x.2.2.1), some (.int x.2.2.2.1), none, none] []) ?_ zFU _ h
  intro rec hr x h
  exact tB_X6_findFars_19 C  hK2 (fun v1 v2 v3 v4 σ => hr (v1, v2, v3, v4, σ)) _ _ _ _ _ h
set_option maxRecDepth 20000 in
theorem tB_X6_findFars_2 {p : Program} {l : Launch} {e : Env} {s : State} {m : MethodId} {args : Array Value} {below : List Frame} {meth : Method} {c : Code} {D : va_G} {a : Nat → Nat} {cI cO cA : ClassId} {o : zSt} (C : zC p s m args meth c D (ztys cI cO cA) 21 a cX6_findFars 7 RX6 none) {K2 : (Int32 → zSt → Option (zSt))} (hK2 : ∀ (v1 : Int32) (σ : zSt), K2 v1 σ = some o → zV p l e rm_X6_findFars s m args below meth c D 21 a (fM a cI) 7 (zQv below args s D 21 a (fM a cI) o) σ 2 [some (.ref (a 0)), some (.int v1), none, none, none, none, none] []) (v1 : Int32) (σ : zSt) (h : B_X6_findFars_2  K2 v1 σ = some o) : zV p l e rm_X6_findFars s m args below meth c D 21 a (fM a cI) 7 (zQv below args s D 21 a (fM a cI) o) σ 2 [some (.ref (a 0)), some (.int v1), none, none, none, none, none] [] := by
  unfold B_X6_findFars_2 at h
  refine r_iload_n (x := v1) C dX6_findFars_2 rfl ?_
  refine r_aload_n (x := (a 0)) C dX6_findFars_3 rfl ?_
  refine gf_X6_80 C dX6_findFars_4 h (fun x1 h => ?_)
  refine r_icmp_ge (tgt := 102) C dX6_findFars_7 (by decide) h (fun h => ?_) (fun h => ?_)
  · exact r_vret C dX6_findFars_102 h
  · refine r_iconst (v := 0) C dX6_findFars_10 (by decide) ?_
    refine r_istore_n (lv' := [some (.ref (a 0)), some (.int v1), some (.int (0 : Int32)), none, none, none, none]) C dX6_findFars_11 (by decide) rfl rfl ?_
    refine r_iconst (v := 1) C dX6_findFars_12 (by decide) ?_
    refine r_iload_n (x := v1) C dX6_findFars_13 rfl ?_
    refine r_ishl C dX6_findFars_14 ?_
    refine r_nm h (fun x2 h => ?_)
    refine r_istore_n (lv' := [some (.ref (a 0)), some (.int v1), some (.int (0 : Int32)), some (.int x2), none, none, none]) C dX6_findFars_15 (by decide) rfl rfl ?_
    refine r_iconst (v := 0) C dX6_findFars_16 (by decide) ?_
    refine r_istore (lv' := [some (.ref (a 0)), some (.int v1), some (.int (0 : Int32)), some (.int x2), some (.int (0 : Int32)), none, none]) C dX6_findFars_17 (by decide) rfl rfl ?_
    exact r_le (lv' := [some (.ref (a 0)), some (.int v1), some (.int (0 : Int32)), some (.int x2), some (.int (0 : Int32)), none, none]) ⟨rfl, rfl, rfl, rfl, rfl, trivial⟩ (tL_X6_findFars_19 C (K2 := K2) hK2 v1 (0 : Int32) x2 (0 : Int32) σ h)
set_option maxRecDepth 20000 in
theorem tL_X6_findFars_2 {p : Program} {l : Launch} {e : Env} {s : State} {m : MethodId} {args : Array Value} {below : List Frame} {meth : Method} {c : Code} {D : va_G} {a : Nat → Nat} {cI cO cA : ClassId} {o : zSt} (C : zC p s m args meth c D (ztys cI cO cA) 21 a cX6_findFars 7 RX6 none)  (v1 : Int32) (σ : zSt) (h : L_X6_findFars_2   v1 σ = some o) : zV p l e rm_X6_findFars s m args below meth c D 21 a (fM a cI) 7 (zQv below args s D 21 a (fM a cI) o) σ 2 [some (.ref (a 0)), some (.int v1), none, none, none, none, none] [] := by
  unfold L_X6_findFars_2 at h
  refine zloop_ind (G := fun x => zV p l e rm_X6_findFars s m args below meth c D 21 a (fM a cI) 7 (zQv below args s D 21 a (fM a cI) o) x.2 2 [some (.ref (a 0)), some (.int x.1), none, none, none, none, none] []) ?_ zFU _ h
  intro rec hr x h
  exact tB_X6_findFars_2 C   (fun v1 σ => hr (v1, σ)) _ _ h
set_option maxRecDepth 20000 in
theorem c_X6_findFars {l : Launch} {D : va_G} {a : Nat → Nat} {cI cO cA : ClassId} (hinj : ∀ i j, i < 21 → j < 21 → a i = a j → i = j) {σ : zSt} {o : zSt} (h : M_X6_findFars  σ = some o) : zMv l D (ztys cI cO cA) 21 a (fM a cI) yX6_findFars cX6_findFars 7 none rm_X6_findFars [.ref (a 0)] σ o := by
  unfold M_X6_findFars at h
  refine zmetv (own := RX6) [some (.ref (a 0)), none, none, none, none, none, none] (by decide) rfl hinj (Nat.le_of_ble_eq_true rfl) rfl (fun p e s m args below meth c C => ?_)
  refine r_iconst (v := 0) C dX6_findFars_0 (by decide) ?_
  refine r_istore_n (lv' := [some (.ref (a 0)), some (.int (0 : Int32)), none, none, none, none, none]) C dX6_findFars_1 (by decide) rfl rfl ?_
  exact r_le (lv' := [some (.ref (a 0)), some (.int (0 : Int32)), none, none, none, none, none]) ⟨rfl, rfl, trivial⟩ (tL_X6_findFars_2 C (0 : Int32) σ h)
/-! VineRowsModel.farthestFrom -/
abbrev rm_X6_farthestFrom : Room := { frames := 0, cells := 0, slots := 0, locals := 0 }
def B_X6_farthestFrom_42 (p1 : Int32) (K4 : (Int32 → Int32 → zSt → Option (Int32 × zSt))) (v3 : Int32) (s0 : Int32) (σ : zSt) : Option (Int32 × zSt) := znm (v3 + (1 : Int32)) (fun x4 => K4 s0 x4 σ)
def B_X6_farthestFrom_4 (p1 : Int32) (K4 : (Int32 → Int32 → zSt → Option (Int32 × zSt))) (v2 : Int32) (v3 : Int32) (σ : zSt) : Option (Int32 × zSt) := znm (σ 0 5) (fun x1 => (if x1 ≤ v3 then some (v2, σ) else zga (σ 10) (((8 : Int32) * p1) + v3) 64 (fun x2 => (if x2 ≤ v2 then B_X6_farthestFrom_42 p1 K4 v3 v2 σ else zga (σ 10) (((8 : Int32) * p1) + v3) 64 (fun x3 => B_X6_farthestFrom_42 p1 K4 v3 x3 σ)))))
def L_X6_farthestFrom_4 (p1 : Int32) (v2 : Int32) (v3 : Int32) (σ : zSt) : Option (Int32 × zSt) := zloop (fun (rec : Int32 × Int32 × zSt → Option (Int32 × zSt)) x => B_X6_farthestFrom_4 p1  (fun v2 v3 σ => rec (v2, v3, σ)) x.1 x.2.1 x.2.2) zFU (v2, v3, σ)
def M_X6_farthestFrom (p1 : Int32) (σ : zSt) : Option (Int32 × zSt) := L_X6_farthestFrom_4 p1 (0 : Int32) (0 : Int32) σ
set_option maxRecDepth 20000 in
theorem tB_X6_farthestFrom_42 {p : Program} {l : Launch} {e : Env} {s : State} {m : MethodId} {args : Array Value} {below : List Frame} {meth : Method} {c : Code} {D : va_G} {a : Nat → Nat} {cI cO cA : ClassId} {o : Int32 × zSt} (C : zC p s m args meth c D (ztys cI cO cA) 21 a cX6_farthestFrom 4 RX6 (some .int)) {p1 : Int32} {K4 : (Int32 → Int32 → zSt → Option (Int32 × zSt))} (hK4 : ∀ (v2 : Int32) (v3 : Int32) (σ : zSt), K4 v2 v3 σ = some o → zV p l e rm_X6_farthestFrom s m args below meth c D 21 a (fM a cI) 4 (zQi below args s D 21 a (fM a cI) o) σ 4 [some (.ref (a 0)), some (.int p1), some (.int v2), some (.int v3)] []) (v3 : Int32) (s0 : Int32) (σ : zSt) (h : B_X6_farthestFrom_42 p1 K4 v3 s0 σ = some o) : zV p l e rm_X6_farthestFrom s m args below meth c D 21 a (fM a cI) 4 (zQi below args s D 21 a (fM a cI) o) σ 42 [some (.ref (a 0)), some (.int p1), none, some (.int v3)] [.int s0] := by
  unfold B_X6_farthestFrom_42 at h
  refine r_istore_n (lv' := [some (.ref (a 0)), some (.int p1), some (.int s0), some (.int v3)]) C dX6_farthestFrom_42 (by decide) rfl rfl ?_
  refine r_gen h (fun x4 ex4 h => ?_)
  refine r_iinc (x := v3) (v := x4) (lv' := [some (.ref (a 0)), some (.int p1), some (.int s0), some (.int x4)]) C dX6_farthestFrom_43 rfl (by rw [← ex4]; rfl) (by decide) rfl rfl ?_
  clear ex4
  refine r_goto (tgt := 4) C dX6_farthestFrom_46 (by decide) ?_
  exact r_le (lv' := [some (.ref (a 0)), some (.int p1), some (.int s0), some (.int x4)]) ⟨rfl, rfl, rfl, rfl, trivial⟩ (hK4 s0 x4 σ h)
set_option maxRecDepth 20000 in
theorem tB_X6_farthestFrom_4 {p : Program} {l : Launch} {e : Env} {s : State} {m : MethodId} {args : Array Value} {below : List Frame} {meth : Method} {c : Code} {D : va_G} {a : Nat → Nat} {cI cO cA : ClassId} {o : Int32 × zSt} (C : zC p s m args meth c D (ztys cI cO cA) 21 a cX6_farthestFrom 4 RX6 (some .int)) {p1 : Int32} {K4 : (Int32 → Int32 → zSt → Option (Int32 × zSt))} (hK4 : ∀ (v2 : Int32) (v3 : Int32) (σ : zSt), K4 v2 v3 σ = some o → zV p l e rm_X6_farthestFrom s m args below meth c D 21 a (fM a cI) 4 (zQi below args s D 21 a (fM a cI) o) σ 4 [some (.ref (a 0)), some (.int p1), some (.int v2), some (.int v3)] []) (v2 : Int32) (v3 : Int32) (σ : zSt) (h : B_X6_farthestFrom_4 p1 K4 v2 v3 σ = some o) : zV p l e rm_X6_farthestFrom s m args below meth c D 21 a (fM a cI) 4 (zQi below args s D 21 a (fM a cI) o) σ 4 [some (.ref (a 0)), some (.int p1), some (.int v2), some (.int v3)] [] := by
  unfold B_X6_farthestFrom_4 at h
  refine r_iload_n (x := v3) C dX6_farthestFrom_4 rfl ?_
  refine r_aload_n (x := (a 0)) C dX6_farthestFrom_5 rfl ?_
  refine gf_X6_80 C dX6_farthestFrom_6 h (fun x1 h => ?_)
  refine r_icmp_ge (tgt := 49) C dX6_farthestFrom_9 (by decide) h (fun h => ?_) (fun h => ?_)
  · refine r_iload_n (x := v2) C dX6_farthestFrom_49 rfl ?_
    exact r_iret C dX6_farthestFrom_50 h
  · refine r_aload_n (x := (a 0)) C dX6_farthestFrom_12 rfl ?_
    refine gf_X6_37 C dX6_farthestFrom_13 ?_
    refine r_bipush (v := 8) C dX6_farthestFrom_16 (by decide) ?_
    refine r_iload_n (x := p1) C dX6_farthestFrom_18 rfl ?_
    refine r_imul C dX6_farthestFrom_19 ?_
    refine r_iload_n (x := v3) C dX6_farthestFrom_20 rfl ?_
    refine r_iadd C dX6_farthestFrom_21 ?_
    refine r_iald (t0 := 0) C 10 aM_10 rfl dX6_farthestFrom_22 h (fun x2 h => ?_)
    refine r_iload_n (x := v2) C dX6_farthestFrom_23 rfl ?_
    refine r_icmp_le (tgt := 41) C dX6_farthestFrom_24 (by decide) h (fun h => ?_) (fun h => ?_)
    · refine r_iload_n (x := v2) C dX6_farthestFrom_41 rfl ?_
      exact r_le (lv' := [some (.ref (a 0)), some (.int p1), none, some (.int v3)]) ⟨rfl, rfl, rfl, trivial⟩ (tB_X6_farthestFrom_42 C (K4 := K4) hK4 v3 v2 σ h)
    · refine r_aload_n (x := (a 0)) C dX6_farthestFrom_27 rfl ?_
      refine gf_X6_37 C dX6_farthestFrom_28 ?_
      refine r_bipush (v := 8) C dX6_farthestFrom_31 (by decide) ?_
      refine r_iload_n (x := p1) C dX6_farthestFrom_33 rfl ?_
      refine r_imul C dX6_farthestFrom_34 ?_
      refine r_iload_n (x := v3) C dX6_farthestFrom_35 rfl ?_
      refine r_iadd C dX6_farthestFrom_36 ?_
      refine r_iald (t0 := 0) C 10 aM_10 rfl dX6_farthestFrom_37 h (fun x3 h => ?_)
      refine r_goto (tgt := 42) C dX6_farthestFrom_38 (by decide) ?_
      exact r_le (lv' := [some (.ref (a 0)), some (.int p1), none, some (.int v3)]) ⟨rfl, rfl, rfl, trivial⟩ (tB_X6_farthestFrom_42 C (K4 := K4) hK4 v3 x3 σ h)
set_option maxRecDepth 20000 in
theorem tL_X6_farthestFrom_4 {p : Program} {l : Launch} {e : Env} {s : State} {m : MethodId} {args : Array Value} {below : List Frame} {meth : Method} {c : Code} {D : va_G} {a : Nat → Nat} {cI cO cA : ClassId} {o : Int32 × zSt} (C : zC p s m args meth c D (ztys cI cO cA) 21 a cX6_farthestFrom 4 RX6 (some .int)) {p1 : Int32}  (v2 : Int32) (v3 : Int32) (σ : zSt) (h : L_X6_farthestFrom_4 p1  v2 v3 σ = some o) : zV p l e rm_X6_farthestFrom s m args below meth c D 21 a (fM a cI) 4 (zQi below args s D 21 a (fM a cI) o) σ 4 [some (.ref (a 0)), some (.int p1), some (.int v2), some (.int v3)] [] := by
  unfold L_X6_farthestFrom_4 at h
  refine zloop_ind (G := fun x => zV p l e rm_X6_farthestFrom s m args below meth c D 21 a (fM a cI) 4 (zQi below args s D 21 a (fM a cI) o) x.2.2 4 [some (.ref (a 0)), some (.int p1), some (.int x.1), some (.int x.2.1)] []) ?_ zFU _ h
  intro rec hr x h
  exact tB_X6_farthestFrom_4 C   (fun v2 v3 σ => hr (v2, v3, σ)) _ _ _ h
set_option maxRecDepth 20000 in
theorem c_X6_farthestFrom {l : Launch} {D : va_G} {a : Nat → Nat} {cI cO cA : ClassId} (hinj : ∀ i j, i < 21 → j < 21 → a i = a j → i = j) {p1 : Int32} {σ : zSt} {o : Int32 × zSt} (h : M_X6_farthestFrom p1 σ = some o) : zMi l D (ztys cI cO cA) 21 a (fM a cI) yX6_farthestFrom cX6_farthestFrom 4 (some .int) rm_X6_farthestFrom [.ref (a 0), .int p1] σ o := by
  unfold M_X6_farthestFrom at h
  refine zmeti (own := RX6) [some (.ref (a 0)), some (.int p1), none, none] (by decide) rfl hinj (Nat.le_of_ble_eq_true rfl) rfl (fun p e s m args below meth c C => ?_)
  refine r_iconst (v := 0) C dX6_farthestFrom_0 (by decide) ?_
  refine r_istore_n (lv' := [some (.ref (a 0)), some (.int p1), some (.int (0 : Int32)), none]) C dX6_farthestFrom_1 (by decide) rfl rfl ?_
  refine r_iconst (v := 0) C dX6_farthestFrom_2 (by decide) ?_
  refine r_istore_n (lv' := [some (.ref (a 0)), some (.int p1), some (.int (0 : Int32)), some (.int (0 : Int32))]) C dX6_farthestFrom_3 (by decide) rfl rfl ?_
  exact r_le (lv' := [some (.ref (a 0)), some (.int p1), some (.int (0 : Int32)), some (.int (0 : Int32))]) ⟨rfl, rfl, rfl, rfl, trivial⟩ (tL_X6_farthestFrom_4 C (0 : Int32) (0 : Int32) σ h)
/-! VineRowsModel.longest -/
abbrev rm_X6_longest : Room := { frames := 1, cells := 0, slots := 0, locals := 23 }
def B_X6_longest_30 (K4 : (Int32 → Int32 → zSt → Option (Int32 × zSt))) (v2 : Int32) (s0 : Int32) (σ : zSt) : Option (Int32 × zSt) := znm (v2 + (1 : Int32)) (fun x6 => K4 s0 x6 σ)
def B_X6_longest_4 (K4 : (Int32 → Int32 → zSt → Option (Int32 × zSt))) (v1 : Int32) (v2 : Int32) (σ : zSt) : Option (Int32 × zSt) := znm (σ 0 5) (fun x1 => (if x1 ≤ v2 then some (v1, σ) else zbd (M_X6_farthestFrom v2 σ) (fun x3 σ2 => (if x3 ≤ v1 then B_X6_longest_30 K4 v2 v1 σ2 else zbd (M_X6_farthestFrom v2 σ2) (fun x5 σ4 => B_X6_longest_30 K4 v2 x5 σ4)))))
def L_X6_longest_4 (v1 : Int32) (v2 : Int32) (σ : zSt) : Option (Int32 × zSt) := zloop (fun (rec : Int32 × Int32 × zSt → Option (Int32 × zSt)) x => B_X6_longest_4   (fun v1 v2 σ => rec (v1, v2, σ)) x.1 x.2.1 x.2.2) zFU (v1, v2, σ)
def M_X6_longest (σ : zSt) : Option (Int32 × zSt) := L_X6_longest_4 (0 : Int32) (0 : Int32) σ
set_option maxRecDepth 20000 in
theorem tB_X6_longest_30 {p : Program} {l : Launch} {e : Env} {s : State} {m : MethodId} {args : Array Value} {below : List Frame} {meth : Method} {c : Code} {D : va_G} {a : Nat → Nat} {cI cO cA : ClassId} {o : Int32 × zSt} (C : zC p s m args meth c D (ztys cI cO cA) 21 a cX6_longest 3 RX6 (some .int)) {K4 : (Int32 → Int32 → zSt → Option (Int32 × zSt))} (hK4 : ∀ (v1 : Int32) (v2 : Int32) (σ : zSt), K4 v1 v2 σ = some o → zV p l e rm_X6_longest s m args below meth c D 21 a (fM a cI) 3 (zQi below args s D 21 a (fM a cI) o) σ 4 [some (.ref (a 0)), some (.int v1), some (.int v2)] []) (v2 : Int32) (s0 : Int32) (σ : zSt) (h : B_X6_longest_30  K4 v2 s0 σ = some o) : zV p l e rm_X6_longest s m args below meth c D 21 a (fM a cI) 3 (zQi below args s D 21 a (fM a cI) o) σ 30 [some (.ref (a 0)), none, some (.int v2)] [.int s0] := by
  unfold B_X6_longest_30 at h
  refine r_istore_n (lv' := [some (.ref (a 0)), some (.int s0), some (.int v2)]) C dX6_longest_30 (by decide) rfl rfl ?_
  refine r_gen h (fun x6 ex6 h => ?_)
  refine r_iinc (x := v2) (v := x6) (lv' := [some (.ref (a 0)), some (.int s0), some (.int x6)]) C dX6_longest_31 rfl (by rw [← ex6]; rfl) (by decide) rfl rfl ?_
  clear ex6
  refine r_goto (tgt := 4) C dX6_longest_34 (by decide) ?_
  exact r_le (lv' := [some (.ref (a 0)), some (.int s0), some (.int x6)]) ⟨rfl, rfl, rfl, trivial⟩ (hK4 s0 x6 σ h)
set_option maxRecDepth 20000 in
theorem tB_X6_longest_4 {p : Program} {l : Launch} {e : Env} {s : State} {m : MethodId} {args : Array Value} {below : List Frame} {meth : Method} {c : Code} {D : va_G} {a : Nat → Nat} {cI cO cA : ClassId} {o : Int32 × zSt} (C : zC p s m args meth c D (ztys cI cO cA) 21 a cX6_longest 3 RX6 (some .int)) {K4 : (Int32 → Int32 → zSt → Option (Int32 × zSt))} (hK4 : ∀ (v1 : Int32) (v2 : Int32) (σ : zSt), K4 v1 v2 σ = some o → zV p l e rm_X6_longest s m args below meth c D 21 a (fM a cI) 3 (zQi below args s D 21 a (fM a cI) o) σ 4 [some (.ref (a 0)), some (.int v1), some (.int v2)] []) (v1 : Int32) (v2 : Int32) (σ : zSt) (h : B_X6_longest_4  K4 v1 v2 σ = some o) : zV p l e rm_X6_longest s m args below meth c D 21 a (fM a cI) 3 (zQi below args s D 21 a (fM a cI) o) σ 4 [some (.ref (a 0)), some (.int v1), some (.int v2)] [] := by
  unfold B_X6_longest_4 at h
  refine r_iload_n (x := v2) C dX6_longest_4 rfl ?_
  refine r_aload_n (x := (a 0)) C dX6_longest_5 rfl ?_
  refine gf_X6_80 C dX6_longest_6 h (fun x1 h => ?_)
  refine r_icmp_ge (tgt := 37) C dX6_longest_9 (by decide) h (fun h => ?_) (fun h => ?_)
  · refine r_iload_n (x := v1) C dX6_longest_37 rfl ?_
    exact r_iret C dX6_longest_38 h
  · refine r_aload_n (x := (a 0)) C dX6_longest_12 rfl ?_
    refine r_iload_n (x := v2) C dX6_longest_13 rfl ?_
    refine r_callVi C [.int v2] [] (b := 0) (by decide) fM_0 rfl rfl zc_X6_143 zB_X6_farthestFrom ⟨rfl, rfl, by decide, by decide⟩ (fun out h => c_X6_farthestFrom C.2.2.2.2.2.2.2.1  h) rfl rfl (Nat.le_of_ble_eq_true rfl) dX6_longest_14 h (fun x3 σ2 h => ?_)
    refine r_iload_n (x := v1) C dX6_longest_17 rfl ?_
    refine r_icmp_le (tgt := 29) C dX6_longest_18 (by decide) h (fun h => ?_) (fun h => ?_)
    · refine r_iload_n (x := v1) C dX6_longest_29 rfl ?_
      exact r_le (lv' := [some (.ref (a 0)), none, some (.int v2)]) ⟨rfl, rfl, trivial⟩ (tB_X6_longest_30 C (K4 := K4) hK4 v2 v1 σ2 h)
    · refine r_aload_n (x := (a 0)) C dX6_longest_21 rfl ?_
      refine r_iload_n (x := v2) C dX6_longest_22 rfl ?_
      refine r_callVi C [.int v2] [] (b := 0) (by decide) fM_0 rfl rfl zc_X6_143 zB_X6_farthestFrom ⟨rfl, rfl, by decide, by decide⟩ (fun out h => c_X6_farthestFrom C.2.2.2.2.2.2.2.1  h) rfl rfl (Nat.le_of_ble_eq_true rfl) dX6_longest_23 h (fun x5 σ4 h => ?_)
      refine r_goto (tgt := 30) C dX6_longest_26 (by decide) ?_
      exact r_le (lv' := [some (.ref (a 0)), none, some (.int v2)]) ⟨rfl, rfl, trivial⟩ (tB_X6_longest_30 C (K4 := K4) hK4 v2 x5 σ4 h)
set_option maxRecDepth 20000 in
theorem tL_X6_longest_4 {p : Program} {l : Launch} {e : Env} {s : State} {m : MethodId} {args : Array Value} {below : List Frame} {meth : Method} {c : Code} {D : va_G} {a : Nat → Nat} {cI cO cA : ClassId} {o : Int32 × zSt} (C : zC p s m args meth c D (ztys cI cO cA) 21 a cX6_longest 3 RX6 (some .int))  (v1 : Int32) (v2 : Int32) (σ : zSt) (h : L_X6_longest_4   v1 v2 σ = some o) : zV p l e rm_X6_longest s m args below meth c D 21 a (fM a cI) 3 (zQi below args s D 21 a (fM a cI) o) σ 4 [some (.ref (a 0)), some (.int v1), some (.int v2)] [] := by
  unfold L_X6_longest_4 at h
  refine zloop_ind (G := fun x => zV p l e rm_X6_longest s m args below meth c D 21 a (fM a cI) 3 (zQi below args s D 21 a (fM a cI) o) x.2.2 4 [some (.ref (a 0)), some (.int x.1), some (.int x.2.1)] []) ?_ zFU _ h
  intro rec hr x h
  exact tB_X6_longest_4 C   (fun v1 v2 σ => hr (v1, v2, σ)) _ _ _ h
set_option maxRecDepth 20000 in
theorem c_X6_longest {l : Launch} {D : va_G} {a : Nat → Nat} {cI cO cA : ClassId} (hinj : ∀ i j, i < 21 → j < 21 → a i = a j → i = j) {σ : zSt} {o : Int32 × zSt} (h : M_X6_longest  σ = some o) : zMi l D (ztys cI cO cA) 21 a (fM a cI) yX6_longest cX6_longest 3 (some .int) rm_X6_longest [.ref (a 0)] σ o := by
  unfold M_X6_longest at h
  refine zmeti (own := RX6) [some (.ref (a 0)), none, none] (by decide) rfl hinj (Nat.le_of_ble_eq_true rfl) rfl (fun p e s m args below meth c C => ?_)
  refine r_iconst (v := 0) C dX6_longest_0 (by decide) ?_
  refine r_istore_n (lv' := [some (.ref (a 0)), some (.int (0 : Int32)), none]) C dX6_longest_1 (by decide) rfl rfl ?_
  refine r_iconst (v := 0) C dX6_longest_2 (by decide) ?_
  refine r_istore_n (lv' := [some (.ref (a 0)), some (.int (0 : Int32)), some (.int (0 : Int32))]) C dX6_longest_3 (by decide) rfl rfl ?_
  exact r_le (lv' := [some (.ref (a 0)), some (.int (0 : Int32)), some (.int (0 : Int32))]) ⟨rfl, rfl, rfl, trivial⟩ (tL_X6_longest_4 C (0 : Int32) (0 : Int32) σ h)
/-! VineRowsModel.ofPost -/
abbrev rm_X6_ofPost : Room := { frames := 2, cells := 0, slots := 0, locals := 47 }
def M_X6_ofPost (p1 : Int32) (p2 : Int32) (σ : zSt) : Option (Int32 × zSt) := zbd (M_X6_isPost p1 σ) (fun x2 σ1 => (if x2 = 0 then some ((-1 : Int32), σ1) else (if p2 = (0 : Int32) then zga (σ1 5) p1 8 (fun x3 => some (x3, σ1)) else (if p2 = (1 : Int32) then zga (σ1 6) p1 8 (fun x4 => some (x4, σ1)) else (if p2 = (2 : Int32) then zbd (M_X6_worthOf p1 σ1) (fun x6 σ5 => some (x6, σ5)) else (if p2 = (3 : Int32) then zga (σ1 4) p1 8 (fun x7 => zbd (M_X6_size x7 σ1) (fun x9 σ8 => some (x9, σ8))) else (if p2 = (4 : Int32) then zga (σ1 4) p1 8 (fun x10 => some (x10, σ1)) else (if p2 = (5 : Int32) then zbv (M_X6_findFars σ1) (fun σ11 => zbd (M_X6_farthestFrom p1 σ11) (fun x13 σ12 => some (x13, σ12))) else (some ((-2 : Int32), σ1))))))))))
set_option maxRecDepth 20000 in
theorem c_X6_ofPost {l : Launch} {D : va_G} {a : Nat → Nat} {cI cO cA : ClassId} (hinj : ∀ i j, i < 21 → j < 21 → a i = a j → i = j) {p1 : Int32} {p2 : Int32} {σ : zSt} {o : Int32 × zSt} (h : M_X6_ofPost p1 p2 σ = some o) : zMi l D (ztys cI cO cA) 21 a (fM a cI) yX6_ofPost cX6_ofPost 3 (some .int) rm_X6_ofPost [.ref (a 0), .int p1, .int p2] σ o := by
  unfold M_X6_ofPost at h
  refine zmeti (own := RX6) [some (.ref (a 0)), some (.int p1), some (.int p2)] (by decide) rfl hinj (Nat.le_of_ble_eq_true rfl) rfl (fun p e s m args below meth c C => ?_)
  refine r_aload_n (x := (a 0)) C dX6_ofPost_0 rfl ?_
  refine r_iload_n (x := p1) C dX6_ofPost_1 rfl ?_
  refine r_callVi C [.int p1] [] (b := 0) (by decide) fM_0 rfl rfl zc_X6_83 zB_X6_isPost ⟨rfl, rfl, by decide, by decide⟩ (fun out h => c_X6_isPost C.2.2.2.2.2.2.2.1  h) rfl rfl (Nat.le_of_ble_eq_true rfl) dX6_ofPost_2 h (fun x2 σ1 h => ?_)
  refine r_if_ne (tgt := 10) C dX6_ofPost_5 (by decide) h (fun h => ?_) (fun h => ?_)
  · refine r_iload_n (x := p2) C dX6_ofPost_10 rfl ?_
    by_cases hx0 : p2 = (0 : Int32)
    · rw [if_pos hx0] at h
      refine r_tableIn (tgt := 48) (off := 37) C dX6_ofPost_11 (by rw [hx0]; decide) (by rw [hx0]; decide) (by rw [hx0]; decide) (by decide) ?_
      refine r_aload_n (x := (a 0)) C dX6_ofPost_48 rfl ?_
      refine gf_X6_22 C dX6_ofPost_49 ?_
      refine r_iload_n (x := p1) C dX6_ofPost_52 rfl ?_
      refine r_iald (t0 := 0) C 5 aM_5 rfl dX6_ofPost_53 h (fun x3 h => ?_)
      exact r_iret C dX6_ofPost_54 h
    · rw [if_neg hx0] at h
      by_cases hx1 : p2 = (1 : Int32)
      · rw [if_pos hx1] at h
        refine r_tableIn (tgt := 55) (off := 44) C dX6_ofPost_11 (by rw [hx1]; decide) (by rw [hx1]; decide) (by rw [hx1]; decide) (by decide) ?_
        refine r_aload_n (x := (a 0)) C dX6_ofPost_55 rfl ?_
        refine gf_X6_25 C dX6_ofPost_56 ?_
        refine r_iload_n (x := p1) C dX6_ofPost_59 rfl ?_
        refine r_iald (t0 := 0) C 6 aM_6 rfl dX6_ofPost_60 h (fun x4 h => ?_)
        exact r_iret C dX6_ofPost_61 h
      · rw [if_neg hx1] at h
        by_cases hx2 : p2 = (2 : Int32)
        · rw [if_pos hx2] at h
          refine r_tableIn (tgt := 62) (off := 51) C dX6_ofPost_11 (by rw [hx2]; decide) (by rw [hx2]; decide) (by rw [hx2]; decide) (by decide) ?_
          refine r_aload_n (x := (a 0)) C dX6_ofPost_62 rfl ?_
          refine r_iload_n (x := p1) C dX6_ofPost_63 rfl ?_
          refine r_callVi C [.int p1] [] (b := 0) (by decide) fM_0 rfl rfl zc_X6_137 zB_X6_worthOf ⟨rfl, rfl, by decide, by decide⟩ (fun out h => c_X6_worthOf C.2.2.2.2.2.2.2.1  h) rfl rfl (Nat.le_of_ble_eq_true rfl) dX6_ofPost_64 h (fun x6 σ5 h => ?_)
          exact r_iret C dX6_ofPost_67 h
        · rw [if_neg hx2] at h
          by_cases hx3 : p2 = (3 : Int32)
          · rw [if_pos hx3] at h
            refine r_tableIn (tgt := 68) (off := 57) C dX6_ofPost_11 (by rw [hx3]; decide) (by rw [hx3]; decide) (by rw [hx3]; decide) (by decide) ?_
            refine r_aload_n (x := (a 0)) C dX6_ofPost_68 rfl ?_
            refine gf_X6_19 C dX6_ofPost_69 ?_
            refine r_iload_n (x := p1) C dX6_ofPost_72 rfl ?_
            refine r_iald (t0 := 0) C 4 aM_4 rfl dX6_ofPost_73 h (fun x7 h => ?_)
            refine r_callSi C [.int x7] [] zc_X6_140 zB_X6_size ⟨rfl, rfl, by decide, by decide⟩ (fun out h => c_X6_size C.2.2.2.2.2.2.2.1  h) rfl rfl (Nat.le_of_ble_eq_true rfl) dX6_ofPost_74 h (fun x9 σ8 h => ?_)
            exact r_iret C dX6_ofPost_77 h
          · rw [if_neg hx3] at h
            by_cases hx4 : p2 = (4 : Int32)
            · rw [if_pos hx4] at h
              refine r_tableIn (tgt := 78) (off := 67) C dX6_ofPost_11 (by rw [hx4]; decide) (by rw [hx4]; decide) (by rw [hx4]; decide) (by decide) ?_
              refine r_aload_n (x := (a 0)) C dX6_ofPost_78 rfl ?_
              refine gf_X6_19 C dX6_ofPost_79 ?_
              refine r_iload_n (x := p1) C dX6_ofPost_82 rfl ?_
              refine r_iald (t0 := 0) C 4 aM_4 rfl dX6_ofPost_83 h (fun x10 h => ?_)
              exact r_iret C dX6_ofPost_84 h
            · rw [if_neg hx4] at h
              by_cases hx5 : p2 = (5 : Int32)
              · rw [if_pos hx5] at h
                refine r_tableIn (tgt := 85) (off := 74) C dX6_ofPost_11 (by rw [hx5]; decide) (by rw [hx5]; decide) (by rw [hx5]; decide) (by decide) ?_
                refine r_aload_n (x := (a 0)) C dX6_ofPost_85 rfl ?_
                refine r_callVv C [] [] (b := 0) (by decide) fM_0 rfl rfl zc_X6_146 zB_X6_findFars ⟨rfl, rfl, by decide, by decide⟩ (fun out h => c_X6_findFars C.2.2.2.2.2.2.2.1  h) rfl rfl (Nat.le_of_ble_eq_true rfl) dX6_ofPost_86 h (fun σ11 h => ?_)
                refine r_aload_n (x := (a 0)) C dX6_ofPost_89 rfl ?_
                refine r_iload_n (x := p1) C dX6_ofPost_90 rfl ?_
                refine r_callVi C [.int p1] [] (b := 0) (by decide) fM_0 rfl rfl zc_X6_143 zB_X6_farthestFrom ⟨rfl, rfl, by decide, by decide⟩ (fun out h => c_X6_farthestFrom C.2.2.2.2.2.2.2.1  h) rfl rfl (Nat.le_of_ble_eq_true rfl) dX6_ofPost_91 h (fun x13 σ12 h => ?_)
                exact r_iret C dX6_ofPost_94 h
              · rw [if_neg hx5] at h
                have hy0 := zne (n := 0) hx0 (by decide)
                have hy1 := zne (n := 1) hx1 (by decide)
                have hy2 := zne (n := 2) hx2 (by decide)
                have hy3 := zne (n := 3) hx3 (by decide)
                have hy4 := zne (n := 4) hx4 (by decide)
                have hy5 := zne (n := 5) hx5 (by decide)
                refine r_tableOut (tgt := 95) C dX6_ofPost_11 (by omega) (by decide) ?_
                refine r_bipush (v := -2) C dX6_ofPost_95 (by decide) ?_
                exact r_iret C dX6_ofPost_97 h
  · refine r_iconst (v := -1) C dX6_ofPost_8 (by decide) ?_
    exact r_iret C dX6_ofPost_9 h
/-! VineRowsModel.load -/
abbrev rm_X6_load : Room := { frames := 1, cells := 0, slots := 0, locals := 22 }
def M_X6_load (p1 : Int32) (p2 : Int32) (σ : zSt) : Option (Int32 × zSt) := zbd (M_X6_isPost p1 σ) (fun x2 σ1 => (if x2 = 0 then some ((-1 : Int32), σ1) else zbd (M_X6_within p2 (0 : Int32) (9 : Int32) σ1) (fun x4 σ3 => (if x4 = 0 then some ((-2 : Int32), σ3) else zga (σ3 6) p1 8 (fun x5 => zgs σ3 6 p1 8 p2 (fun σ6 => some (x5, σ6)))))))
set_option maxRecDepth 20000 in
theorem c_X6_load {l : Launch} {D : va_G} {a : Nat → Nat} {cI cO cA : ClassId} (hinj : ∀ i j, i < 21 → j < 21 → a i = a j → i = j) {p1 : Int32} {p2 : Int32} {σ : zSt} {o : Int32 × zSt} (h : M_X6_load p1 p2 σ = some o) : zMi l D (ztys cI cO cA) 21 a (fM a cI) yX6_load cX6_load 4 (some .int) rm_X6_load [.ref (a 0), .int p1, .int p2] σ o := by
  unfold M_X6_load at h
  refine zmeti (own := RX6) [some (.ref (a 0)), some (.int p1), some (.int p2), none] (by decide) rfl hinj (Nat.le_of_ble_eq_true rfl) rfl (fun p e s m args below meth c C => ?_)
  refine r_aload_n (x := (a 0)) C dX6_load_0 rfl ?_
  refine r_iload_n (x := p1) C dX6_load_1 rfl ?_
  refine r_callVi C [.int p1] [] (b := 0) (by decide) fM_0 rfl rfl zc_X6_83 zB_X6_isPost ⟨rfl, rfl, by decide, by decide⟩ (fun out h => c_X6_isPost C.2.2.2.2.2.2.2.1  h) rfl rfl (Nat.le_of_ble_eq_true rfl) dX6_load_2 h (fun x2 σ1 h => ?_)
  refine r_if_ne (tgt := 10) C dX6_load_5 (by decide) h (fun h => ?_) (fun h => ?_)
  · refine r_iload_n (x := p2) C dX6_load_10 rfl ?_
    refine r_iconst (v := 0) C dX6_load_11 (by decide) ?_
    refine r_bipush (v := 9) C dX6_load_12 (by decide) ?_
    refine r_callSi C [.int p2, .int (0 : Int32), .int (9 : Int32)] [] zc_X6_76 zB_X6_within ⟨rfl, rfl, by decide, by decide⟩ (fun out h => c_X6_within C.2.2.2.2.2.2.2.1  h) rfl rfl (Nat.le_of_ble_eq_true rfl) dX6_load_14 h (fun x4 σ3 h => ?_)
    refine r_if_ne (tgt := 23) C dX6_load_17 (by decide) h (fun h => ?_) (fun h => ?_)
    · refine r_aload_n (x := (a 0)) C dX6_load_23 rfl ?_
      refine gf_X6_25 C dX6_load_24 ?_
      refine r_iload_n (x := p1) C dX6_load_27 rfl ?_
      refine r_iald (t0 := 0) C 6 aM_6 rfl dX6_load_28 h (fun x5 h => ?_)
      refine r_istore_n (lv' := [some (.ref (a 0)), some (.int p1), some (.int p2), some (.int x5)]) C dX6_load_29 (by decide) rfl rfl ?_
      refine r_aload_n (x := (a 0)) C dX6_load_30 rfl ?_
      refine gf_X6_25 C dX6_load_31 ?_
      refine r_iload_n (x := p1) C dX6_load_34 rfl ?_
      refine r_iload_n (x := p2) C dX6_load_35 rfl ?_
      refine r_iast (t0 := 0) C 6 aM_6 rfl dX6_load_36 h (fun σ6 h => ?_)
      refine r_iload_n (x := x5) C dX6_load_37 rfl ?_
      exact r_iret C dX6_load_38 h
    · refine r_bipush (v := -2) C dX6_load_20 (by decide) ?_
      exact r_iret C dX6_load_22 h
  · refine r_iconst (v := -1) C dX6_load_8 (by decide) ?_
    exact r_iret C dX6_load_9 h
/-! VineRowsModel.findRow -/
abbrev rm_X6_findRow : Room := { frames := 2, cells := 0, slots := 0, locals := 42 }
def B_X6_findRow_42 (K30 : (Int32 → zSt → Option (zSt))) (K42 : (Int32 → Int32 → zSt → Option (zSt))) (v1 : Int32) (v2 : Int32) (σ : zSt) : Option (zSt) := zga (σ 12) v2 8 (fun x6 => zbd (M_X6_size x6 σ) (fun x8 σ7 => (if x8 = (1 : Int32) then zga (σ7 12) v2 8 (fun x9 => zbd (M_X6_leastOf x9 σ7) (fun x11 σ10 => zgs σ10 11 v1 6 x11 (fun σ12 => zga (σ12 11) v1 6 (fun x13 => zga (σ12 12) x13 8 (fun x14 => zgs σ12 12 x13 8 (x14 &&& (znt (zon v2))) (fun σ15 => zgs σ15 12 v2 8 (0 : Int32) (fun σ16 => znm (v1 + (1 : Int32)) (fun x17 => K30 x17 σ16)))))))) else znm (v2 + (1 : Int32)) (fun x18 => K42 v1 x18 σ7))))
def L_X6_findRow_42 (K30 : (Int32 → zSt → Option (zSt))) (v1 : Int32) (v2 : Int32) (σ : zSt) : Option (zSt) := zloop (fun (rec : Int32 × Int32 × zSt → Option (zSt)) x => B_X6_findRow_42  K30 (fun v1 v2 σ => rec (v1, v2, σ)) x.1 x.2.1 x.2.2) zFU (v1, v2, σ)
def B_X6_findRow_30 (K30 : (Int32 → zSt → Option (zSt))) (v1 : Int32) (σ : zSt) : Option (zSt) := znm (σ 0 5) (fun x5 => (if (x5 - (2 : Int32)) ≤ v1 then some σ else L_X6_findRow_42 K30 v1 (0 : Int32) σ))
def L_X6_findRow_30 (v1 : Int32) (σ : zSt) : Option (zSt) := zloop (fun (rec : Int32 × zSt → Option (zSt)) x => B_X6_findRow_30   (fun v1 σ => rec (v1, σ)) x.1 x.2) zFU (v1, σ)
def B_X6_findRow_2 (K2 : (Int32 → zSt → Option (zSt))) (v1 : Int32) (σ : zSt) : Option (zSt) := znm (σ 0 5) (fun x1 => (if x1 ≤ v1 then L_X6_findRow_30 (0 : Int32) σ else zga (σ 4) v1 8 (fun x2 => zgs σ 12 v1 8 x2 (fun σ3 => znm (v1 + (1 : Int32)) (fun x4 => K2 x4 σ3)))))
def L_X6_findRow_2 (v1 : Int32) (σ : zSt) : Option (zSt) := zloop (fun (rec : Int32 × zSt → Option (zSt)) x => B_X6_findRow_2   (fun v1 σ => rec (v1, σ)) x.1 x.2) zFU (v1, σ)
def M_X6_findRow (σ : zSt) : Option (zSt) := L_X6_findRow_2 (0 : Int32) σ
set_option maxRecDepth 20000 in
theorem tB_X6_findRow_42 {p : Program} {l : Launch} {e : Env} {s : State} {m : MethodId} {args : Array Value} {below : List Frame} {meth : Method} {c : Code} {D : va_G} {a : Nat → Nat} {cI cO cA : ClassId} {o : zSt} (C : zC p s m args meth c D (ztys cI cO cA) 21 a cX6_findRow 3 RX6 none) {K30 : (Int32 → zSt → Option (zSt))} {K42 : (Int32 → Int32 → zSt → Option (zSt))} (hK30 : ∀ (v1 : Int32) (σ : zSt), K30 v1 σ = some o → zV p l e rm_X6_findRow s m args below meth c D 21 a (fM a cI) 3 (zQv below args s D 21 a (fM a cI) o) σ 30 [some (.ref (a 0)), some (.int v1), none] []) (hK42 : ∀ (v1 : Int32) (v2 : Int32) (σ : zSt), K42 v1 v2 σ = some o → zV p l e rm_X6_findRow s m args below meth c D 21 a (fM a cI) 3 (zQv below args s D 21 a (fM a cI) o) σ 42 [some (.ref (a 0)), some (.int v1), some (.int v2)] []) (v1 : Int32) (v2 : Int32) (σ : zSt) (h : B_X6_findRow_42  K30 K42 v1 v2 σ = some o) : zV p l e rm_X6_findRow s m args below meth c D 21 a (fM a cI) 3 (zQv below args s D 21 a (fM a cI) o) σ 42 [some (.ref (a 0)), some (.int v1), some (.int v2)] [] := by
  unfold B_X6_findRow_42 at h
  refine r_aload_n (x := (a 0)) C dX6_findRow_42 rfl ?_
  refine gf_X6_43 C dX6_findRow_43 ?_
  refine r_iload_n (x := v2) C dX6_findRow_46 rfl ?_
  refine r_iald (t0 := 0) C 12 aM_12 rfl dX6_findRow_47 h (fun x6 h => ?_)
  refine r_callSi C [.int x6] [] zc_X6_140 zB_X6_size ⟨rfl, rfl, by decide, by decide⟩ (fun out h => c_X6_size C.2.2.2.2.2.2.2.1  h) rfl rfl (Nat.le_of_ble_eq_true rfl) dX6_findRow_48 h (fun x8 σ7 h => ?_)
  refine r_iconst (v := 1) C dX6_findRow_51 (by decide) ?_
  refine r_icmp_eq (tgt := 61) C dX6_findRow_52 (by decide) h (fun h => ?_) (fun h => ?_)
  · refine r_aload_n (x := (a 0)) C dX6_findRow_61 rfl ?_
    refine gf_X6_40 C dX6_findRow_62 ?_
    refine r_iload_n (x := v1) C dX6_findRow_65 rfl ?_
    refine r_aload_n (x := (a 0)) C dX6_findRow_66 rfl ?_
    refine gf_X6_43 C dX6_findRow_67 ?_
    refine r_iload_n (x := v2) C dX6_findRow_70 rfl ?_
    refine r_iald (t0 := 0) C 12 aM_12 rfl dX6_findRow_71 h (fun x9 h => ?_)
    refine r_callSi C [.int x9] [.int v1, .ref (a 11)] zc_X6_130 zB_X6_leastOf ⟨rfl, rfl, by decide, by decide⟩ (fun out h => c_X6_leastOf C.2.2.2.2.2.2.2.1  h) rfl rfl (Nat.le_of_ble_eq_true rfl) dX6_findRow_72 h (fun x11 σ10 h => ?_)
    refine r_iast (t0 := 0) C 11 aM_11 rfl dX6_findRow_75 h (fun σ12 h => ?_)
    refine r_aload_n (x := (a 0)) C dX6_findRow_76 rfl ?_
    refine gf_X6_43 C dX6_findRow_77 ?_
    refine r_aload_n (x := (a 0)) C dX6_findRow_80 rfl ?_
    refine gf_X6_40 C dX6_findRow_81 ?_
    refine r_iload_n (x := v1) C dX6_findRow_84 rfl ?_
    refine r_iald (t0 := 0) C 11 aM_11 rfl dX6_findRow_85 h (fun x13 h => ?_)
    refine r_dup2 C dX6_findRow_86 rfl rfl ?_
    refine r_iald (t0 := 0) C 12 aM_12 rfl dX6_findRow_87 h (fun x14 h => ?_)
    refine r_iconst (v := 1) C dX6_findRow_88 (by decide) ?_
    refine r_iload_n (x := v2) C dX6_findRow_89 rfl ?_
    refine r_ishl C dX6_findRow_90 ?_
    refine r_iconst (v := -1) C dX6_findRow_91 (by decide) ?_
    refine r_ixor C dX6_findRow_92 ?_
    refine r_iand C dX6_findRow_93 ?_
    refine r_iast (t0 := 0) C 12 aM_12 rfl dX6_findRow_94 h (fun σ15 h => ?_)
    refine r_aload_n (x := (a 0)) C dX6_findRow_95 rfl ?_
    refine gf_X6_43 C dX6_findRow_96 ?_
    refine r_iload_n (x := v2) C dX6_findRow_99 rfl ?_
    refine r_iconst (v := 0) C dX6_findRow_100 (by decide) ?_
    refine r_iast (t0 := 0) C 12 aM_12 rfl dX6_findRow_101 h (fun σ16 h => ?_)
    refine r_gen h (fun x17 ex17 h => ?_)
    refine r_iinc (x := v1) (v := x17) (lv' := [some (.ref (a 0)), some (.int x17), some (.int v2)]) C dX6_findRow_102 rfl (by rw [← ex17]; rfl) (by decide) rfl rfl ?_
    clear ex17
    refine r_goto (tgt := 30) C dX6_findRow_105 (by decide) ?_
    exact r_le (lv' := [some (.ref (a 0)), some (.int x17), none]) ⟨rfl, rfl, trivial⟩ (hK30 x17 σ16 h)
  · refine r_gen h (fun x18 ex18 h => ?_)
    refine r_iinc (x := v2) (v := x18) (lv' := [some (.ref (a 0)), some (.int v1), some (.int x18)]) C dX6_findRow_55 rfl (by rw [← ex18]; rfl) (by decide) rfl rfl ?_
    clear ex18
    refine r_goto (tgt := 42) C dX6_findRow_58 (by decide) ?_
    exact r_le (lv' := [some (.ref (a 0)), some (.int v1), some (.int x18)]) ⟨rfl, rfl, rfl, trivial⟩ (hK42 v1 x18 σ7 h)
set_option maxRecDepth 20000 in
theorem tL_X6_findRow_42 {p : Program} {l : Launch} {e : Env} {s : State} {m : MethodId} {args : Array Value} {below : List Frame} {meth : Method} {c : Code} {D : va_G} {a : Nat → Nat} {cI cO cA : ClassId} {o : zSt} (C : zC p s m args meth c D (ztys cI cO cA) 21 a cX6_findRow 3 RX6 none) {K30 : (Int32 → zSt → Option (zSt))} (hK30 : ∀ (v1 : Int32) (σ : zSt), K30 v1 σ = some o → zV p l e rm_X6_findRow s m args below meth c D 21 a (fM a cI) 3 (zQv below args s D 21 a (fM a cI) o) σ 30 [some (.ref (a 0)), some (.int v1), none] []) (v1 : Int32) (v2 : Int32) (σ : zSt) (h : L_X6_findRow_42  K30 v1 v2 σ = some o) : zV p l e rm_X6_findRow s m args below meth c D 21 a (fM a cI) 3 (zQv below args s D 21 a (fM a cI) o) σ 42 [some (.ref (a 0)), some (.int v1), some (.int v2)] [] := by
  unfold L_X6_findRow_42 at h
  refine zloop_ind (G := fun x => zV p l e rm_X6_findRow s m args below meth c D 21 a (fM a cI) 3 (zQv below args s D 21 a (fM a cI) o) x.2.2 42 [some (.ref (a 0)), some (.int x.1), some (.int x.2.1)] []) ?_ zFU _ h
  intro rec hr x h
  exact tB_X6_findRow_42 C  hK30 (fun v1 v2 σ => hr (v1, v2, σ)) _ _ _ h
set_option maxRecDepth 20000 in
theorem tB_X6_findRow_30 {p : Program} {l : Launch} {e : Env} {s : State} {m : MethodId} {args : Array Value} {below : List Frame} {meth : Method} {c : Code} {D : va_G} {a : Nat → Nat} {cI cO cA : ClassId} {o : zSt} (C : zC p s m args meth c D (ztys cI cO cA) 21 a cX6_findRow 3 RX6 none) {K30 : (Int32 → zSt → Option (zSt))} (hK30 : ∀ (v1 : Int32) (σ : zSt), K30 v1 σ = some o → zV p l e rm_X6_findRow s m args below meth c D 21 a (fM a cI) 3 (zQv below args s D 21 a (fM a cI) o) σ 30 [some (.ref (a 0)), some (.int v1), none] []) (v1 : Int32) (σ : zSt) (h : B_X6_findRow_30  K30 v1 σ = some o) : zV p l e rm_X6_findRow s m args below meth c D 21 a (fM a cI) 3 (zQv below args s D 21 a (fM a cI) o) σ 30 [some (.ref (a 0)), some (.int v1), none] [] := by
  unfold B_X6_findRow_30 at h
  refine r_iload_n (x := v1) C dX6_findRow_30 rfl ?_
  refine r_aload_n (x := (a 0)) C dX6_findRow_31 rfl ?_
  refine gf_X6_80 C dX6_findRow_32 h (fun x5 h => ?_)
  refine r_iconst (v := 2) C dX6_findRow_35 (by decide) ?_
  refine r_isub C dX6_findRow_36 ?_
  refine r_icmp_ge (tgt := 108) C dX6_findRow_37 (by decide) h (fun h => ?_) (fun h => ?_)
  · exact r_vret C dX6_findRow_108 h
  · refine r_iconst (v := 0) C dX6_findRow_40 (by decide) ?_
    refine r_istore_n (lv' := [some (.ref (a 0)), some (.int v1), some (.int (0 : Int32))]) C dX6_findRow_41 (by decide) rfl rfl ?_
    exact r_le (lv' := [some (.ref (a 0)), some (.int v1), some (.int (0 : Int32))]) ⟨rfl, rfl, rfl, trivial⟩ (tL_X6_findRow_42 C (K30 := K30) hK30 v1 (0 : Int32) σ h)
set_option maxRecDepth 20000 in
theorem tL_X6_findRow_30 {p : Program} {l : Launch} {e : Env} {s : State} {m : MethodId} {args : Array Value} {below : List Frame} {meth : Method} {c : Code} {D : va_G} {a : Nat → Nat} {cI cO cA : ClassId} {o : zSt} (C : zC p s m args meth c D (ztys cI cO cA) 21 a cX6_findRow 3 RX6 none)  (v1 : Int32) (σ : zSt) (h : L_X6_findRow_30   v1 σ = some o) : zV p l e rm_X6_findRow s m args below meth c D 21 a (fM a cI) 3 (zQv below args s D 21 a (fM a cI) o) σ 30 [some (.ref (a 0)), some (.int v1), none] [] := by
  unfold L_X6_findRow_30 at h
  refine zloop_ind (G := fun x => zV p l e rm_X6_findRow s m args below meth c D 21 a (fM a cI) 3 (zQv below args s D 21 a (fM a cI) o) x.2 30 [some (.ref (a 0)), some (.int x.1), none] []) ?_ zFU _ h
  intro rec hr x h
  exact tB_X6_findRow_30 C   (fun v1 σ => hr (v1, σ)) _ _ h
set_option maxRecDepth 20000 in
theorem tB_X6_findRow_2 {p : Program} {l : Launch} {e : Env} {s : State} {m : MethodId} {args : Array Value} {below : List Frame} {meth : Method} {c : Code} {D : va_G} {a : Nat → Nat} {cI cO cA : ClassId} {o : zSt} (C : zC p s m args meth c D (ztys cI cO cA) 21 a cX6_findRow 3 RX6 none) {K2 : (Int32 → zSt → Option (zSt))} (hK2 : ∀ (v1 : Int32) (σ : zSt), K2 v1 σ = some o → zV p l e rm_X6_findRow s m args below meth c D 21 a (fM a cI) 3 (zQv below args s D 21 a (fM a cI) o) σ 2 [some (.ref (a 0)), some (.int v1), none] []) (v1 : Int32) (σ : zSt) (h : B_X6_findRow_2  K2 v1 σ = some o) : zV p l e rm_X6_findRow s m args below meth c D 21 a (fM a cI) 3 (zQv below args s D 21 a (fM a cI) o) σ 2 [some (.ref (a 0)), some (.int v1), none] [] := by
  unfold B_X6_findRow_2 at h
  refine r_iload_n (x := v1) C dX6_findRow_2 rfl ?_
  refine r_aload_n (x := (a 0)) C dX6_findRow_3 rfl ?_
  refine gf_X6_80 C dX6_findRow_4 h (fun x1 h => ?_)
  refine r_icmp_ge (tgt := 28) C dX6_findRow_7 (by decide) h (fun h => ?_) (fun h => ?_)
  · refine r_iconst (v := 0) C dX6_findRow_28 (by decide) ?_
    refine r_istore_n (lv' := [some (.ref (a 0)), some (.int (0 : Int32)), none]) C dX6_findRow_29 (by decide) rfl rfl ?_
    exact r_le (lv' := [some (.ref (a 0)), some (.int (0 : Int32)), none]) ⟨rfl, rfl, trivial⟩ (tL_X6_findRow_30 C (0 : Int32) σ h)
  · refine r_aload_n (x := (a 0)) C dX6_findRow_10 rfl ?_
    refine gf_X6_43 C dX6_findRow_11 ?_
    refine r_iload_n (x := v1) C dX6_findRow_14 rfl ?_
    refine r_aload_n (x := (a 0)) C dX6_findRow_15 rfl ?_
    refine gf_X6_19 C dX6_findRow_16 ?_
    refine r_iload_n (x := v1) C dX6_findRow_19 rfl ?_
    refine r_iald (t0 := 0) C 4 aM_4 rfl dX6_findRow_20 h (fun x2 h => ?_)
    refine r_iast (t0 := 0) C 12 aM_12 rfl dX6_findRow_21 h (fun σ3 h => ?_)
    refine r_gen h (fun x4 ex4 h => ?_)
    refine r_iinc (x := v1) (v := x4) (lv' := [some (.ref (a 0)), some (.int x4), none]) C dX6_findRow_22 rfl (by rw [← ex4]; rfl) (by decide) rfl rfl ?_
    clear ex4
    refine r_goto (tgt := 2) C dX6_findRow_25 (by decide) ?_
    exact r_le (lv' := [some (.ref (a 0)), some (.int x4), none]) ⟨rfl, rfl, trivial⟩ (hK2 x4 σ3 h)
set_option maxRecDepth 20000 in
theorem tL_X6_findRow_2 {p : Program} {l : Launch} {e : Env} {s : State} {m : MethodId} {args : Array Value} {below : List Frame} {meth : Method} {c : Code} {D : va_G} {a : Nat → Nat} {cI cO cA : ClassId} {o : zSt} (C : zC p s m args meth c D (ztys cI cO cA) 21 a cX6_findRow 3 RX6 none)  (v1 : Int32) (σ : zSt) (h : L_X6_findRow_2   v1 σ = some o) : zV p l e rm_X6_findRow s m args below meth c D 21 a (fM a cI) 3 (zQv below args s D 21 a (fM a cI) o) σ 2 [some (.ref (a 0)), some (.int v1), none] [] := by
  unfold L_X6_findRow_2 at h
  refine zloop_ind (G := fun x => zV p l e rm_X6_findRow s m args below meth c D 21 a (fM a cI) 3 (zQv below args s D 21 a (fM a cI) o) x.2 2 [some (.ref (a 0)), some (.int x.1), none] []) ?_ zFU _ h
  intro rec hr x h
  exact tB_X6_findRow_2 C   (fun v1 σ => hr (v1, σ)) _ _ h
set_option maxRecDepth 20000 in
theorem c_X6_findRow {l : Launch} {D : va_G} {a : Nat → Nat} {cI cO cA : ClassId} (hinj : ∀ i j, i < 21 → j < 21 → a i = a j → i = j) {σ : zSt} {o : zSt} (h : M_X6_findRow  σ = some o) : zMv l D (ztys cI cO cA) 21 a (fM a cI) yX6_findRow cX6_findRow 3 none rm_X6_findRow [.ref (a 0)] σ o := by
  unfold M_X6_findRow at h
  refine zmetv (own := RX6) [some (.ref (a 0)), none, none] (by decide) rfl hinj (Nat.le_of_ble_eq_true rfl) rfl (fun p e s m args below meth c C => ?_)
  refine r_iconst (v := 0) C dX6_findRow_0 (by decide) ?_
  refine r_istore_n (lv' := [some (.ref (a 0)), some (.int (0 : Int32)), none]) C dX6_findRow_1 (by decide) rfl rfl ?_
  exact r_le (lv' := [some (.ref (a 0)), some (.int (0 : Int32)), none]) ⟨rfl, rfl, trivial⟩ (tL_X6_findRow_2 C (0 : Int32) σ h)
/-! VineRowsModel.row -/
abbrev rm_X6_row : Room := { frames := 3, cells := 0, slots := 0, locals := 64 }
def M_X6_row (p1 : Int32) (σ : zSt) : Option (Int32 × zSt) := zbd (M_X6_within p1 (0 : Int32) (5 : Int32) σ) (fun x2 σ1 => (if x2 = 0 then some ((-2 : Int32), σ1) else znm (σ1 0 5) (fun x3 => (if x3 = 0 then some ((-3 : Int32), σ1) else zbv (M_X6_findRow σ1) (fun σ4 => znm (σ4 0 5) (fun x5 => (if (x5 - (2 : Int32)) ≤ p1 then some ((-9 : Int32), σ4) else zga (σ4 11) p1 6 (fun x6 => some (x6, σ4)))))))))
set_option maxRecDepth 20000 in
theorem c_X6_row {l : Launch} {D : va_G} {a : Nat → Nat} {cI cO cA : ClassId} (hinj : ∀ i j, i < 21 → j < 21 → a i = a j → i = j) {p1 : Int32} {σ : zSt} {o : Int32 × zSt} (h : M_X6_row p1 σ = some o) : zMi l D (ztys cI cO cA) 21 a (fM a cI) yX6_row cX6_row 2 (some .int) rm_X6_row [.ref (a 0), .int p1] σ o := by
  unfold M_X6_row at h
  refine zmeti (own := RX6) [some (.ref (a 0)), some (.int p1)] (by decide) rfl hinj (Nat.le_of_ble_eq_true rfl) rfl (fun p e s m args below meth c C => ?_)
  refine r_iload_n (x := p1) C dX6_row_0 rfl ?_
  refine r_iconst (v := 0) C dX6_row_1 (by decide) ?_
  refine r_iconst (v := 5) C dX6_row_2 (by decide) ?_
  refine r_callSi C [.int p1, .int (0 : Int32), .int (5 : Int32)] [] zc_X6_76 zB_X6_within ⟨rfl, rfl, by decide, by decide⟩ (fun out h => c_X6_within C.2.2.2.2.2.2.2.1  h) rfl rfl (Nat.le_of_ble_eq_true rfl) dX6_row_3 h (fun x2 σ1 h => ?_)
  refine r_if_ne (tgt := 12) C dX6_row_6 (by decide) h (fun h => ?_) (fun h => ?_)
  · refine r_aload_n (x := (a 0)) C dX6_row_12 rfl ?_
    refine gf_X6_80 C dX6_row_13 h (fun x3 h => ?_)
    refine r_if_ne (tgt := 22) C dX6_row_16 (by decide) h (fun h => ?_) (fun h => ?_)
    · refine r_aload_n (x := (a 0)) C dX6_row_22 rfl ?_
      refine r_callVv C [] [] (b := 0) (by decide) fM_0 rfl rfl zc_X6_149 zB_X6_findRow ⟨rfl, rfl, by decide, by decide⟩ (fun out h => c_X6_findRow C.2.2.2.2.2.2.2.1  h) rfl rfl (Nat.le_of_ble_eq_true rfl) dX6_row_23 h (fun σ4 h => ?_)
      refine r_iload_n (x := p1) C dX6_row_26 rfl ?_
      refine r_aload_n (x := (a 0)) C dX6_row_27 rfl ?_
      refine gf_X6_80 C dX6_row_28 h (fun x5 h => ?_)
      refine r_iconst (v := 2) C dX6_row_31 (by decide) ?_
      refine r_isub C dX6_row_32 ?_
      refine r_icmp_ge (tgt := 45) C dX6_row_33 (by decide) h (fun h => ?_) (fun h => ?_)
      · refine r_bipush (v := -9) C dX6_row_45 (by decide) ?_
        exact r_iret C dX6_row_47 h
      · refine r_aload_n (x := (a 0)) C dX6_row_36 rfl ?_
        refine gf_X6_40 C dX6_row_37 ?_
        refine r_iload_n (x := p1) C dX6_row_40 rfl ?_
        refine r_iald (t0 := 0) C 11 aM_11 rfl dX6_row_41 h (fun x6 h => ?_)
        refine r_goto (tgt := 47) C dX6_row_42 (by decide) ?_
        exact r_iret C dX6_row_47 h
    · refine r_bipush (v := -3) C dX6_row_19 (by decide) ?_
      exact r_iret C dX6_row_21 h
  · refine r_bipush (v := -2) C dX6_row_9 (by decide) ?_
    exact r_iret C dX6_row_11 h
/-! VineRowsModel.graft -/
abbrev rm_X6_graft : Room := { frames := 2, cells := 0, slots := 0, locals := 43 }
def M_X6_graft (p1 : Int32) (p2 : Int32) (σ : zSt) : Option (Int32 × zSt) := zbd (M_X6_areTwo p1 p2 σ) (fun x2 σ1 => (if x2 = 0 then some ((-1 : Int32), σ1) else zga (σ1 4) p1 8 (fun x3 => zbd (M_X6_size x3 σ1) (fun x5 σ4 => (if x5 = (1 : Int32) then zga (σ4 4) p1 8 (fun x6 => zbd (M_X6_leastOf x6 σ4) (fun x8 σ7 => zbv (M_X6_unjoin p1 x8 σ7) (fun σ9 => zbv (M_X6_join p1 p2 σ9) (fun σ10 => znm (σ10 0 6) (fun x11 => znm (zsu σ10 0 (upd (σ10 0) 6 (x11 + (1 : Int32)))) (fun σ12 => some (x8, σ12))))))) else some ((-3 : Int32), σ4))))))
set_option maxRecDepth 20000 in
theorem c_X6_graft {l : Launch} {D : va_G} {a : Nat → Nat} {cI cO cA : ClassId} (hinj : ∀ i j, i < 21 → j < 21 → a i = a j → i = j) {p1 : Int32} {p2 : Int32} {σ : zSt} {o : Int32 × zSt} (h : M_X6_graft p1 p2 σ = some o) : zMi l D (ztys cI cO cA) 21 a (fM a cI) yX6_graft cX6_graft 4 (some .int) rm_X6_graft [.ref (a 0), .int p1, .int p2] σ o := by
  unfold M_X6_graft at h
  refine zmeti (own := RX6) [some (.ref (a 0)), some (.int p1), some (.int p2), none] (by decide) rfl hinj (Nat.le_of_ble_eq_true rfl) rfl (fun p e s m args below meth c C => ?_)
  refine r_aload_n (x := (a 0)) C dX6_graft_0 rfl ?_
  refine r_iload_n (x := p1) C dX6_graft_1 rfl ?_
  refine r_iload_n (x := p2) C dX6_graft_2 rfl ?_
  refine r_callVi C [.int p1, .int p2] [] (b := 0) (by decide) fM_0 rfl rfl zc_X6_152 zB_X6_areTwo ⟨rfl, rfl, by decide, by decide⟩ (fun out h => c_X6_areTwo C.2.2.2.2.2.2.2.1  h) rfl rfl (Nat.le_of_ble_eq_true rfl) dX6_graft_3 h (fun x2 σ1 h => ?_)
  refine r_if_ne (tgt := 11) C dX6_graft_6 (by decide) h (fun h => ?_) (fun h => ?_)
  · refine r_aload_n (x := (a 0)) C dX6_graft_11 rfl ?_
    refine gf_X6_19 C dX6_graft_12 ?_
    refine r_iload_n (x := p1) C dX6_graft_15 rfl ?_
    refine r_iald (t0 := 0) C 4 aM_4 rfl dX6_graft_16 h (fun x3 h => ?_)
    refine r_callSi C [.int x3] [] zc_X6_140 zB_X6_size ⟨rfl, rfl, by decide, by decide⟩ (fun out h => c_X6_size C.2.2.2.2.2.2.2.1  h) rfl rfl (Nat.le_of_ble_eq_true rfl) dX6_graft_17 h (fun x5 σ4 h => ?_)
    refine r_iconst (v := 1) C dX6_graft_20 (by decide) ?_
    refine r_icmp_eq (tgt := 27) C dX6_graft_21 (by decide) h (fun h => ?_) (fun h => ?_)
    · refine r_aload_n (x := (a 0)) C dX6_graft_27 rfl ?_
      refine gf_X6_19 C dX6_graft_28 ?_
      refine r_iload_n (x := p1) C dX6_graft_31 rfl ?_
      refine r_iald (t0 := 0) C 4 aM_4 rfl dX6_graft_32 h (fun x6 h => ?_)
      refine r_callSi C [.int x6] [] zc_X6_130 zB_X6_leastOf ⟨rfl, rfl, by decide, by decide⟩ (fun out h => c_X6_leastOf C.2.2.2.2.2.2.2.1  h) rfl rfl (Nat.le_of_ble_eq_true rfl) dX6_graft_33 h (fun x8 σ7 h => ?_)
      refine r_istore_n (lv' := [some (.ref (a 0)), some (.int p1), some (.int p2), some (.int x8)]) C dX6_graft_36 (by decide) rfl rfl ?_
      refine r_aload_n (x := (a 0)) C dX6_graft_37 rfl ?_
      refine r_iload_n (x := p1) C dX6_graft_38 rfl ?_
      refine r_iload_n (x := x8) C dX6_graft_39 rfl ?_
      refine r_callVv C [.int p1, .int x8] [] (b := 0) (by decide) fM_0 rfl rfl zc_X6_155 zB_X6_unjoin ⟨rfl, rfl, by decide, by decide⟩ (fun out h => c_X6_unjoin C.2.2.2.2.2.2.2.1  h) rfl rfl (Nat.le_of_ble_eq_true rfl) dX6_graft_40 h (fun σ9 h => ?_)
      refine r_aload_n (x := (a 0)) C dX6_graft_43 rfl ?_
      refine r_iload_n (x := p1) C dX6_graft_44 rfl ?_
      refine r_iload_n (x := p2) C dX6_graft_45 rfl ?_
      refine r_callVv C [.int p1, .int p2] [] (b := 0) (by decide) fM_0 rfl rfl zc_X6_133 zB_X6_join ⟨rfl, rfl, by decide, by decide⟩ (fun out h => c_X6_join C.2.2.2.2.2.2.2.1  h) rfl rfl (Nat.le_of_ble_eq_true rfl) dX6_graft_46 h (fun σ10 h => ?_)
      refine r_aload_n (x := (a 0)) C dX6_graft_49 rfl ?_
      refine r_dup C dX6_graft_50 rfl ?_
      refine gf_X6_117 C dX6_graft_51 h (fun x11 h => ?_)
      refine r_iconst (v := 1) C dX6_graft_54 (by decide) ?_
      refine r_iadd C dX6_graft_55 ?_
      refine pf_X6_117 C dX6_graft_56 h (fun σ12 h => ?_)
      refine r_iload_n (x := x8) C dX6_graft_59 rfl ?_
      exact r_iret C dX6_graft_60 h
    · refine r_bipush (v := -3) C dX6_graft_24 (by decide) ?_
      exact r_iret C dX6_graft_26 h
  · refine r_iconst (v := -1) C dX6_graft_9 (by decide) ?_
    exact r_iret C dX6_graft_10 h
/-! VineRowsModel.does -/
abbrev rm_X6_does : Room := { frames := 2, cells := 0, slots := 0, locals := 43 }
def M_X6_does (p1 : Int32) (p2 : Int32) (σ : zSt) : Option (Int32 × zSt) := (if p2 < (10 : Int32) then zbd (M_X6_areTwo p1 p2 σ) (fun x2 σ1 => (if x2 = 0 then zgz (0 : Int32) σ1 else zga (σ1 4) p1 8 (fun x3 => zbd (M_X6_size x3 σ1) (fun x5 σ4 => (if x5 = (1 : Int32) then zga (σ4 4) p1 8 (fun x6 => zbd (M_X6_leastOf x6 σ4) (fun x8 σ7 => zbv (M_X6_unjoin p1 x8 σ7) (fun σ9 => zbv (M_X6_join p1 p2 σ9) (fun σ10 => zgz (1 : Int32) σ10)))) else zgz (0 : Int32) σ4))))) else zbd (M_X6_isPost (p2 - (10 : Int32)) σ) (fun x12 σ11 => (if x12 = 0 then zgz (0 : Int32) σ11 else zgs σ11 6 (p2 - (10 : Int32)) 8 p1 (fun σ13 => zgz (1 : Int32) σ13))))
set_option maxRecDepth 20000 in
theorem c_X6_does {l : Launch} {D : va_G} {a : Nat → Nat} {cI cO cA : ClassId} (hinj : ∀ i j, i < 21 → j < 21 → a i = a j → i = j) {p1 : Int32} {p2 : Int32} {σ : zSt} {o : Int32 × zSt} (h : M_X6_does p1 p2 σ = some o) : zMi l D (ztys cI cO cA) 21 a (fM a cI) yX6_does cX6_does 3 (some .boolean) rm_X6_does [.ref (a 0), .int p1, .int p2] σ o := by
  unfold M_X6_does at h
  refine zmeti (own := RX6) [some (.ref (a 0)), some (.int p1), some (.int p2)] (by decide) rfl hinj (Nat.le_of_ble_eq_true rfl) rfl (fun p e s m args below meth c C => ?_)
  refine r_iload_n (x := p2) C dX6_does_0 rfl ?_
  refine r_bipush (v := 10) C dX6_does_1 (by decide) ?_
  refine r_icmp_lt (tgt := 31) C dX6_does_3 (by decide) h (fun h => ?_) (fun h => ?_)
  · refine r_aload_n (x := (a 0)) C dX6_does_31 rfl ?_
    refine r_iload_n (x := p1) C dX6_does_32 rfl ?_
    refine r_iload_n (x := p2) C dX6_does_33 rfl ?_
    refine r_callVi C [.int p1, .int p2] [] (b := 0) (by decide) fM_0 rfl rfl zc_X6_152 zB_X6_areTwo ⟨rfl, rfl, by decide, by decide⟩ (fun out h => c_X6_areTwo C.2.2.2.2.2.2.2.1  h) rfl rfl (Nat.le_of_ble_eq_true rfl) dX6_does_34 h (fun x2 σ1 h => ?_)
    refine r_if_eq (tgt := 53) C dX6_does_37 (by decide) h (fun h => ?_) (fun h => ?_)
    · refine r_iconst (v := 0) C dX6_does_53 (by decide) ?_
      exact r_zret C dX6_does_54 h
    · refine r_aload_n (x := (a 0)) C dX6_does_40 rfl ?_
      refine gf_X6_19 C dX6_does_41 ?_
      refine r_iload_n (x := p1) C dX6_does_44 rfl ?_
      refine r_iald (t0 := 0) C 4 aM_4 rfl dX6_does_45 h (fun x3 h => ?_)
      refine r_callSi C [.int x3] [] zc_X6_140 zB_X6_size ⟨rfl, rfl, by decide, by decide⟩ (fun out h => c_X6_size C.2.2.2.2.2.2.2.1  h) rfl rfl (Nat.le_of_ble_eq_true rfl) dX6_does_46 h (fun x5 σ4 h => ?_)
      refine r_iconst (v := 1) C dX6_does_49 (by decide) ?_
      refine r_icmp_eq (tgt := 55) C dX6_does_50 (by decide) h (fun h => ?_) (fun h => ?_)
      · refine r_aload_n (x := (a 0)) C dX6_does_55 rfl ?_
        refine r_iload_n (x := p1) C dX6_does_56 rfl ?_
        refine r_aload_n (x := (a 0)) C dX6_does_57 rfl ?_
        refine gf_X6_19 C dX6_does_58 ?_
        refine r_iload_n (x := p1) C dX6_does_61 rfl ?_
        refine r_iald (t0 := 0) C 4 aM_4 rfl dX6_does_62 h (fun x6 h => ?_)
        refine r_callSi C [.int x6] [.int p1, .ref (a 0)] zc_X6_130 zB_X6_leastOf ⟨rfl, rfl, by decide, by decide⟩ (fun out h => c_X6_leastOf C.2.2.2.2.2.2.2.1  h) rfl rfl (Nat.le_of_ble_eq_true rfl) dX6_does_63 h (fun x8 σ7 h => ?_)
        refine r_callVv C [.int p1, .int x8] [] (b := 0) (by decide) fM_0 rfl rfl zc_X6_155 zB_X6_unjoin ⟨rfl, rfl, by decide, by decide⟩ (fun out h => c_X6_unjoin C.2.2.2.2.2.2.2.1  h) rfl rfl (Nat.le_of_ble_eq_true rfl) dX6_does_66 h (fun σ9 h => ?_)
        refine r_aload_n (x := (a 0)) C dX6_does_69 rfl ?_
        refine r_iload_n (x := p1) C dX6_does_70 rfl ?_
        refine r_iload_n (x := p2) C dX6_does_71 rfl ?_
        refine r_callVv C [.int p1, .int p2] [] (b := 0) (by decide) fM_0 rfl rfl zc_X6_133 zB_X6_join ⟨rfl, rfl, by decide, by decide⟩ (fun out h => c_X6_join C.2.2.2.2.2.2.2.1  h) rfl rfl (Nat.le_of_ble_eq_true rfl) dX6_does_72 h (fun σ10 h => ?_)
        refine r_iconst (v := 1) C dX6_does_75 (by decide) ?_
        exact r_zret C dX6_does_76 h
      · refine r_iconst (v := 0) C dX6_does_53 (by decide) ?_
        exact r_zret C dX6_does_54 h
  · refine r_aload_n (x := (a 0)) C dX6_does_6 rfl ?_
    refine r_iload_n (x := p2) C dX6_does_7 rfl ?_
    refine r_bipush (v := 10) C dX6_does_8 (by decide) ?_
    refine r_isub C dX6_does_10 ?_
    refine r_callVi C [.int (p2 - (10 : Int32))] [] (b := 0) (by decide) fM_0 rfl rfl zc_X6_83 zB_X6_isPost ⟨rfl, rfl, by decide, by decide⟩ (fun out h => c_X6_isPost C.2.2.2.2.2.2.2.1  h) rfl rfl (Nat.le_of_ble_eq_true rfl) dX6_does_11 h (fun x12 σ11 h => ?_)
    refine r_if_ne (tgt := 19) C dX6_does_14 (by decide) h (fun h => ?_) (fun h => ?_)
    · refine r_aload_n (x := (a 0)) C dX6_does_19 rfl ?_
      refine gf_X6_25 C dX6_does_20 ?_
      refine r_iload_n (x := p2) C dX6_does_23 rfl ?_
      refine r_bipush (v := 10) C dX6_does_24 (by decide) ?_
      refine r_isub C dX6_does_26 ?_
      refine r_iload_n (x := p1) C dX6_does_27 rfl ?_
      refine r_iast (t0 := 0) C 6 aM_6 rfl dX6_does_28 h (fun σ13 h => ?_)
      refine r_iconst (v := 1) C dX6_does_29 (by decide) ?_
      exact r_zret C dX6_does_30 h
    · refine r_iconst (v := 0) C dX6_does_17 (by decide) ?_
      exact r_zret C dX6_does_18 h
end
