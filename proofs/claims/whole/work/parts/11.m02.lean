noncomputable section
/-! VineRowsModel.goDay -/
abbrev rm_X6_goDay : Room := { frames := 3, cells := 0, slots := 0, locals := 65 }
def B_X6_goDay_2 (p1 : Int32) (p2 : Int32) (K2 : (Int32 → zSt → Option (Int32 × zSt))) (v3 : Int32) (σ : zSt) : Option (Int32 × zSt) := (if p2 ≤ v3 then some ((-9 : Int32), σ) else zga (σ 3) (p1 + ((2 : Int32) * v3)) 240 (fun x1 => zga (σ 3) ((p1 + ((2 : Int32) * v3)) + (1 : Int32)) 240 (fun x2 => zbd (M_X6_does x1 x2 σ) (fun x4 σ3 => (if x4 = 0 then some (v3, σ3) else znm (v3 + (1 : Int32)) (fun x5 => K2 x5 σ3))))))
def L_X6_goDay_2 (p1 : Int32) (p2 : Int32) (v3 : Int32) (σ : zSt) : Option (Int32 × zSt) := zloop (fun (rec : Int32 × zSt → Option (Int32 × zSt)) x => B_X6_goDay_2 p1 p2  (fun v3 σ => rec (v3, σ)) x.1 x.2) zFU (v3, σ)
def M_X6_goDay (p1 : Int32) (p2 : Int32) (σ : zSt) : Option (Int32 × zSt) := L_X6_goDay_2 p1 p2 (0 : Int32) σ
set_option maxRecDepth 20000 in
theorem tB_X6_goDay_2 {p : Program} {l : Launch} {e : Env} {s : State} {m : MethodId} {args : Array Value} {below : List Frame} {meth : Method} {c : Code} {D : va_G} {a : Nat → Nat} {cI cO cA : ClassId} {o : Int32 × zSt} (C : zC p s m args meth c D (ztys cI cO cA) 21 a cX6_goDay 4 RX6 (some .int)) {p1 : Int32} {p2 : Int32} {K2 : (Int32 → zSt → Option (Int32 × zSt))} (hK2 : ∀ (v3 : Int32) (σ : zSt), K2 v3 σ = some o → zV p l e rm_X6_goDay s m args below meth c D 21 a (fM a cI) 4 (zQi below args s D 21 a (fM a cI) o) σ 2 [some (.ref (a 0)), some (.int p1), some (.int p2), some (.int v3)] []) (v3 : Int32) (σ : zSt) (h : B_X6_goDay_2 p1 p2 K2 v3 σ = some o) : zV p l e rm_X6_goDay s m args below meth c D 21 a (fM a cI) 4 (zQi below args s D 21 a (fM a cI) o) σ 2 [some (.ref (a 0)), some (.int p1), some (.int p2), some (.int v3)] [] := by
  unfold B_X6_goDay_2 at h
  refine r_iload_n (x := v3) C dX6_goDay_2 rfl ?_
  refine r_iload_n (x := p2) C dX6_goDay_3 rfl ?_
  refine r_icmp_ge (tgt := 44) C dX6_goDay_4 (by decide) h (fun h => ?_) (fun h => ?_)
  · refine r_bipush (v := -9) C dX6_goDay_44 (by decide) ?_
    exact r_iret C dX6_goDay_46 h
  · refine r_aload_n (x := (a 0)) C dX6_goDay_7 rfl ?_
    refine r_aload_n (x := (a 0)) C dX6_goDay_8 rfl ?_
    refine gf_X6_16 C dX6_goDay_9 ?_
    refine r_iload_n (x := p1) C dX6_goDay_12 rfl ?_
    refine r_iconst (v := 2) C dX6_goDay_13 (by decide) ?_
    refine r_iload_n (x := v3) C dX6_goDay_14 rfl ?_
    refine r_imul C dX6_goDay_15 ?_
    refine r_iadd C dX6_goDay_16 ?_
    refine r_iald (t0 := 0) C 3 aM_3 rfl dX6_goDay_17 h (fun x1 h => ?_)
    refine r_aload_n (x := (a 0)) C dX6_goDay_18 rfl ?_
    refine gf_X6_16 C dX6_goDay_19 ?_
    refine r_iload_n (x := p1) C dX6_goDay_22 rfl ?_
    refine r_iconst (v := 2) C dX6_goDay_23 (by decide) ?_
    refine r_iload_n (x := v3) C dX6_goDay_24 rfl ?_
    refine r_imul C dX6_goDay_25 ?_
    refine r_iadd C dX6_goDay_26 ?_
    refine r_iconst (v := 1) C dX6_goDay_27 (by decide) ?_
    refine r_iadd C dX6_goDay_28 ?_
    refine r_iald (t0 := 0) C 3 aM_3 rfl dX6_goDay_29 h (fun x2 h => ?_)
    refine r_callVi C [.int x1, .int x2] [] (b := 0) (by decide) fM_0 rfl rfl zc_X6_158 zB_X6_does ⟨rfl, rfl, by decide, by decide⟩ (fun out h => c_X6_does C.2.2.2.2.2.2.2.1  h) rfl rfl (Nat.le_of_ble_eq_true rfl) dX6_goDay_30 h (fun x4 σ3 h => ?_)
    refine r_if_ne (tgt := 38) C dX6_goDay_33 (by decide) h (fun h => ?_) (fun h => ?_)
    · refine r_gen h (fun x5 ex5 h => ?_)
      refine r_iinc (x := v3) (v := x5) (lv' := [some (.ref (a 0)), some (.int p1), some (.int p2), some (.int x5)]) C dX6_goDay_38 rfl (by rw [← ex5]; rfl) (by decide) rfl rfl ?_
      clear ex5
      refine r_goto (tgt := 2) C dX6_goDay_41 (by decide) ?_
      exact r_le (lv' := [some (.ref (a 0)), some (.int p1), some (.int p2), some (.int x5)]) ⟨rfl, rfl, rfl, rfl, trivial⟩ (hK2 x5 σ3 h)
    · refine r_iload_n (x := v3) C dX6_goDay_36 rfl ?_
      exact r_iret C dX6_goDay_37 h
set_option maxRecDepth 20000 in
theorem tL_X6_goDay_2 {p : Program} {l : Launch} {e : Env} {s : State} {m : MethodId} {args : Array Value} {below : List Frame} {meth : Method} {c : Code} {D : va_G} {a : Nat → Nat} {cI cO cA : ClassId} {o : Int32 × zSt} (C : zC p s m args meth c D (ztys cI cO cA) 21 a cX6_goDay 4 RX6 (some .int)) {p1 : Int32} {p2 : Int32}  (v3 : Int32) (σ : zSt) (h : L_X6_goDay_2 p1 p2  v3 σ = some o) : zV p l e rm_X6_goDay s m args below meth c D 21 a (fM a cI) 4 (zQi below args s D 21 a (fM a cI) o) σ 2 [some (.ref (a 0)), some (.int p1), some (.int p2), some (.int v3)] [] := by
  unfold L_X6_goDay_2 at h
  refine zloop_ind (G := fun x => zV p l e rm_X6_goDay s m args below meth c D 21 a (fM a cI) 4 (zQi below args s D 21 a (fM a cI) o) x.2 2 [some (.ref (a 0)), some (.int p1), some (.int p2), some (.int x.1)] []) ?_ zFU _ h
  intro rec hr x h
  exact tB_X6_goDay_2 C   (fun v3 σ => hr (v3, σ)) _ _ h
set_option maxRecDepth 20000 in
theorem c_X6_goDay {l : Launch} {D : va_G} {a : Nat → Nat} {cI cO cA : ClassId} (hinj : ∀ i j, i < 21 → j < 21 → a i = a j → i = j) {p1 : Int32} {p2 : Int32} {σ : zSt} {o : Int32 × zSt} (h : M_X6_goDay p1 p2 σ = some o) : zMi l D (ztys cI cO cA) 21 a (fM a cI) yX6_goDay cX6_goDay 4 (some .int) rm_X6_goDay [.ref (a 0), .int p1, .int p2] σ o := by
  unfold M_X6_goDay at h
  refine zmeti (own := RX6) [some (.ref (a 0)), some (.int p1), some (.int p2), none] (by decide) rfl hinj (Nat.le_of_ble_eq_true rfl) rfl (fun p e s m args below meth c C => ?_)
  refine r_iconst (v := 0) C dX6_goDay_0 (by decide) ?_
  refine r_istore_n (lv' := [some (.ref (a 0)), some (.int p1), some (.int p2), some (.int (0 : Int32))]) C dX6_goDay_1 (by decide) rfl rfl ?_
  exact r_le (lv' := [some (.ref (a 0)), some (.int p1), some (.int p2), some (.int (0 : Int32))]) ⟨rfl, rfl, rfl, rfl, trivial⟩ (tL_X6_goDay_2 C (0 : Int32) σ h)
/-! VineRowsModel.refusesPair -/
abbrev rm_X6_refusesPair : Room := { frames := 1, cells := 0, slots := 0, locals := 22 }
def B_X6_refusesPair_40 (p1 : Int32) (p2 : Int32) (v3 : Int32) (σ : zSt) : Option (Int32 × zSt) := (if v3 = 0 then zbd (M_X6_isPost p1 σ) (fun x8 σ7 => (if x8 = 0 then some ((-1 : Int32), σ7) else some ((0 : Int32), σ7))) else some ((0 : Int32), σ))
def B_X6_refusesPair_23 (p1 : Int32) (p2 : Int32) (v3 : Int32) (σ : zSt) : Option (Int32 × zSt) := (if v3 = 0 then B_X6_refusesPair_40 p1 p2 v3 σ else zbd (M_X6_within p1 (0 : Int32) (9 : Int32) σ) (fun x6 σ5 => (if x6 = 0 then some ((-2 : Int32), σ5) else B_X6_refusesPair_40 p1 p2 v3 σ5)))
def M_X6_refusesPair (p1 : Int32) (p2 : Int32) (σ : zSt) : Option (Int32 × zSt) := zbd (M_X6_within p2 (10 : Int32) (17 : Int32) σ) (fun x2 σ1 => zbd (M_X6_within p2 (0 : Int32) (7 : Int32) σ1) (fun x4 σ3 => (if x4 = 0 then (if x2 = 0 then some ((-2 : Int32), σ3) else B_X6_refusesPair_23 p1 p2 x2 σ3) else B_X6_refusesPair_23 p1 p2 x2 σ3)))
set_option maxRecDepth 20000 in
theorem tB_X6_refusesPair_40 {p : Program} {l : Launch} {e : Env} {s : State} {m : MethodId} {args : Array Value} {below : List Frame} {meth : Method} {c : Code} {D : va_G} {a : Nat → Nat} {cI cO cA : ClassId} {o : Int32 × zSt} (C : zC p s m args meth c D (ztys cI cO cA) 21 a cX6_refusesPair 4 RX6 (some .int)) {p1 : Int32} {p2 : Int32}  (v3 : Int32) (σ : zSt) (h : B_X6_refusesPair_40 p1 p2  v3 σ = some o) : zV p l e rm_X6_refusesPair s m args below meth c D 21 a (fM a cI) 4 (zQi below args s D 21 a (fM a cI) o) σ 40 [some (.ref (a 0)), some (.int p1), none, some (.int v3)] [] := by
  unfold B_X6_refusesPair_40 at h
  refine r_iload_n (x := v3) C dX6_refusesPair_40 rfl ?_
  refine r_if_ne (tgt := 56) C dX6_refusesPair_41 (by decide) h (fun h => ?_) (fun h => ?_)
  · refine r_iconst (v := 0) C dX6_refusesPair_56 (by decide) ?_
    exact r_iret C dX6_refusesPair_57 h
  · refine r_aload_n (x := (a 0)) C dX6_refusesPair_44 rfl ?_
    refine r_iload_n (x := p1) C dX6_refusesPair_45 rfl ?_
    refine r_callVi C [.int p1] [] (b := 0) (by decide) fM_0 rfl rfl zc_X6_83 zB_X6_isPost ⟨rfl, rfl, by decide, by decide⟩ (fun out h => c_X6_isPost C.2.2.2.2.2.2.2.1  h) rfl rfl (Nat.le_of_ble_eq_true rfl) dX6_refusesPair_46 h (fun x8 σ7 h => ?_)
    refine r_if_ne (tgt := 56) C dX6_refusesPair_49 (by decide) h (fun h => ?_) (fun h => ?_)
    · refine r_iconst (v := 0) C dX6_refusesPair_56 (by decide) ?_
      exact r_iret C dX6_refusesPair_57 h
    · refine r_iconst (v := -1) C dX6_refusesPair_52 (by decide) ?_
      refine r_goto (tgt := 57) C dX6_refusesPair_53 (by decide) ?_
      exact r_iret C dX6_refusesPair_57 h
set_option maxRecDepth 20000 in
theorem tB_X6_refusesPair_23 {p : Program} {l : Launch} {e : Env} {s : State} {m : MethodId} {args : Array Value} {below : List Frame} {meth : Method} {c : Code} {D : va_G} {a : Nat → Nat} {cI cO cA : ClassId} {o : Int32 × zSt} (C : zC p s m args meth c D (ztys cI cO cA) 21 a cX6_refusesPair 4 RX6 (some .int)) {p1 : Int32} {p2 : Int32}  (v3 : Int32) (σ : zSt) (h : B_X6_refusesPair_23 p1 p2  v3 σ = some o) : zV p l e rm_X6_refusesPair s m args below meth c D 21 a (fM a cI) 4 (zQi below args s D 21 a (fM a cI) o) σ 23 [some (.ref (a 0)), some (.int p1), none, some (.int v3)] [] := by
  unfold B_X6_refusesPair_23 at h
  refine r_iload_n (x := v3) C dX6_refusesPair_23 rfl ?_
  refine r_if_eq (tgt := 40) C dX6_refusesPair_24 (by decide) h (fun h => ?_) (fun h => ?_)
  · exact r_le (lv' := [some (.ref (a 0)), some (.int p1), none, some (.int v3)]) ⟨rfl, rfl, rfl, trivial⟩ (tB_X6_refusesPair_40 C v3 σ h)
  · refine r_iload_n (x := p1) C dX6_refusesPair_27 rfl ?_
    refine r_iconst (v := 0) C dX6_refusesPair_28 (by decide) ?_
    refine r_bipush (v := 9) C dX6_refusesPair_29 (by decide) ?_
    refine r_callSi C [.int p1, .int (0 : Int32), .int (9 : Int32)] [] zc_X6_76 zB_X6_within ⟨rfl, rfl, by decide, by decide⟩ (fun out h => c_X6_within C.2.2.2.2.2.2.2.1  h) rfl rfl (Nat.le_of_ble_eq_true rfl) dX6_refusesPair_31 h (fun x6 σ5 h => ?_)
    refine r_if_ne (tgt := 40) C dX6_refusesPair_34 (by decide) h (fun h => ?_) (fun h => ?_)
    · exact r_le (lv' := [some (.ref (a 0)), some (.int p1), none, some (.int v3)]) ⟨rfl, rfl, rfl, trivial⟩ (tB_X6_refusesPair_40 C v3 σ5 h)
    · refine r_bipush (v := -2) C dX6_refusesPair_37 (by decide) ?_
      exact r_iret C dX6_refusesPair_39 h
set_option maxRecDepth 20000 in
theorem c_X6_refusesPair {l : Launch} {D : va_G} {a : Nat → Nat} {cI cO cA : ClassId} (hinj : ∀ i j, i < 21 → j < 21 → a i = a j → i = j) {p1 : Int32} {p2 : Int32} {σ : zSt} {o : Int32 × zSt} (h : M_X6_refusesPair p1 p2 σ = some o) : zMi l D (ztys cI cO cA) 21 a (fM a cI) yX6_refusesPair cX6_refusesPair 4 (some .int) rm_X6_refusesPair [.ref (a 0), .int p1, .int p2] σ o := by
  unfold M_X6_refusesPair at h
  refine zmeti (own := RX6) [some (.ref (a 0)), some (.int p1), some (.int p2), none] (by decide) rfl hinj (Nat.le_of_ble_eq_true rfl) rfl (fun p e s m args below meth c C => ?_)
  refine r_iload_n (x := p2) C dX6_refusesPair_0 rfl ?_
  refine r_bipush (v := 10) C dX6_refusesPair_1 (by decide) ?_
  refine r_bipush (v := 17) C dX6_refusesPair_3 (by decide) ?_
  refine r_callSi C [.int p2, .int (10 : Int32), .int (17 : Int32)] [] zc_X6_76 zB_X6_within ⟨rfl, rfl, by decide, by decide⟩ (fun out h => c_X6_within C.2.2.2.2.2.2.2.1  h) rfl rfl (Nat.le_of_ble_eq_true rfl) dX6_refusesPair_5 h (fun x2 σ1 h => ?_)
  refine r_istore_n (lv' := [some (.ref (a 0)), some (.int p1), some (.int p2), some (.int x2)]) C dX6_refusesPair_8 (by decide) rfl rfl ?_
  refine r_iload_n (x := p2) C dX6_refusesPair_9 rfl ?_
  refine r_iconst (v := 0) C dX6_refusesPair_10 (by decide) ?_
  refine r_bipush (v := 7) C dX6_refusesPair_11 (by decide) ?_
  refine r_callSi C [.int p2, .int (0 : Int32), .int (7 : Int32)] [] zc_X6_76 zB_X6_within ⟨rfl, rfl, by decide, by decide⟩ (fun out h => c_X6_within C.2.2.2.2.2.2.2.1  h) rfl rfl (Nat.le_of_ble_eq_true rfl) dX6_refusesPair_13 h (fun x4 σ3 h => ?_)
  refine r_if_ne (tgt := 23) C dX6_refusesPair_16 (by decide) h (fun h => ?_) (fun h => ?_)
  · exact r_le (lv' := [some (.ref (a 0)), some (.int p1), none, some (.int x2)]) ⟨rfl, rfl, rfl, trivial⟩ (tB_X6_refusesPair_23 C x2 σ3 h)
  · refine r_iload_n (x := x2) C dX6_refusesPair_19 rfl ?_
    refine r_if_eq (tgt := 37) C dX6_refusesPair_20 (by decide) h (fun h => ?_) (fun h => ?_)
    · refine r_bipush (v := -2) C dX6_refusesPair_37 (by decide) ?_
      exact r_iret C dX6_refusesPair_39 h
    · exact r_le (lv' := [some (.ref (a 0)), some (.int p1), none, some (.int x2)]) ⟨rfl, rfl, rfl, trivial⟩ (tB_X6_refusesPair_23 C x2 σ3 h)
/-! VineRowsModel.numberOf -/
abbrev rm_X6_numberOf : Room := { frames := 3, cells := 0, slots := 0, locals := 64 }
def B_X6_numberOf_8 (K8 : (Int32 → Int32 → zSt → Option (Int32 × zSt))) (v1 : Int32) (v2 : Int32) (σ : zSt) : Option (Int32 × zSt) := znm (σ 0 5) (fun x2 => (if (x2 - (2 : Int32)) ≤ v2 then some (v1, σ) else znm (σ 0 5) (fun x3 => zga (σ 11) v2 6 (fun x4 => znm (((v1 * x3) + x4)) (fun x5 => znm (v2 + (1 : Int32)) (fun x6 => K8 x5 x6 σ))))))
def L_X6_numberOf_8 (v1 : Int32) (v2 : Int32) (σ : zSt) : Option (Int32 × zSt) := zloop (fun (rec : Int32 × Int32 × zSt → Option (Int32 × zSt)) x => B_X6_numberOf_8   (fun v1 v2 σ => rec (v1, v2, σ)) x.1 x.2.1 x.2.2) zFU (v1, v2, σ)
def M_X6_numberOf (σ : zSt) : Option (Int32 × zSt) := zbv (M_X6_findRow σ) (fun σ1 => L_X6_numberOf_8 (0 : Int32) (0 : Int32) σ1)
set_option maxRecDepth 20000 in
theorem tB_X6_numberOf_8 {p : Program} {l : Launch} {e : Env} {s : State} {m : MethodId} {args : Array Value} {below : List Frame} {meth : Method} {c : Code} {D : va_G} {a : Nat → Nat} {cI cO cA : ClassId} {o : Int32 × zSt} (C : zC p s m args meth c D (ztys cI cO cA) 21 a cX6_numberOf 3 RX6 (some .int)) {K8 : (Int32 → Int32 → zSt → Option (Int32 × zSt))} (hK8 : ∀ (v1 : Int32) (v2 : Int32) (σ : zSt), K8 v1 v2 σ = some o → zV p l e rm_X6_numberOf s m args below meth c D 21 a (fM a cI) 3 (zQi below args s D 21 a (fM a cI) o) σ 8 [some (.ref (a 0)), some (.int v1), some (.int v2)] []) (v1 : Int32) (v2 : Int32) (σ : zSt) (h : B_X6_numberOf_8  K8 v1 v2 σ = some o) : zV p l e rm_X6_numberOf s m args below meth c D 21 a (fM a cI) 3 (zQi below args s D 21 a (fM a cI) o) σ 8 [some (.ref (a 0)), some (.int v1), some (.int v2)] [] := by
  unfold B_X6_numberOf_8 at h
  refine r_iload_n (x := v2) C dX6_numberOf_8 rfl ?_
  refine r_aload_n (x := (a 0)) C dX6_numberOf_9 rfl ?_
  refine gf_X6_80 C dX6_numberOf_10 h (fun x2 h => ?_)
  refine r_iconst (v := 2) C dX6_numberOf_13 (by decide) ?_
  refine r_isub C dX6_numberOf_14 ?_
  refine r_icmp_ge (tgt := 38) C dX6_numberOf_15 (by decide) h (fun h => ?_) (fun h => ?_)
  · refine r_iload_n (x := v1) C dX6_numberOf_38 rfl ?_
    exact r_iret C dX6_numberOf_39 h
  · refine r_iload_n (x := v1) C dX6_numberOf_18 rfl ?_
    refine r_aload_n (x := (a 0)) C dX6_numberOf_19 rfl ?_
    refine gf_X6_80 C dX6_numberOf_20 h (fun x3 h => ?_)
    refine r_imul C dX6_numberOf_23 ?_
    refine r_aload_n (x := (a 0)) C dX6_numberOf_24 rfl ?_
    refine gf_X6_40 C dX6_numberOf_25 ?_
    refine r_iload_n (x := v2) C dX6_numberOf_28 rfl ?_
    refine r_iald (t0 := 0) C 11 aM_11 rfl dX6_numberOf_29 h (fun x4 h => ?_)
    refine r_iadd C dX6_numberOf_30 ?_
    refine r_nm h (fun x5 h => ?_)
    refine r_istore_n (lv' := [some (.ref (a 0)), some (.int x5), some (.int v2)]) C dX6_numberOf_31 (by decide) rfl rfl ?_
    refine r_gen h (fun x6 ex6 h => ?_)
    refine r_iinc (x := v2) (v := x6) (lv' := [some (.ref (a 0)), some (.int x5), some (.int x6)]) C dX6_numberOf_32 rfl (by rw [← ex6]; rfl) (by decide) rfl rfl ?_
    clear ex6
    refine r_goto (tgt := 8) C dX6_numberOf_35 (by decide) ?_
    exact r_le (lv' := [some (.ref (a 0)), some (.int x5), some (.int x6)]) ⟨rfl, rfl, rfl, trivial⟩ (hK8 x5 x6 σ h)
set_option maxRecDepth 20000 in
theorem tL_X6_numberOf_8 {p : Program} {l : Launch} {e : Env} {s : State} {m : MethodId} {args : Array Value} {below : List Frame} {meth : Method} {c : Code} {D : va_G} {a : Nat → Nat} {cI cO cA : ClassId} {o : Int32 × zSt} (C : zC p s m args meth c D (ztys cI cO cA) 21 a cX6_numberOf 3 RX6 (some .int))  (v1 : Int32) (v2 : Int32) (σ : zSt) (h : L_X6_numberOf_8   v1 v2 σ = some o) : zV p l e rm_X6_numberOf s m args below meth c D 21 a (fM a cI) 3 (zQi below args s D 21 a (fM a cI) o) σ 8 [some (.ref (a 0)), some (.int v1), some (.int v2)] [] := by
  unfold L_X6_numberOf_8 at h
  refine zloop_ind (G := fun x => zV p l e rm_X6_numberOf s m args below meth c D 21 a (fM a cI) 3 (zQi below args s D 21 a (fM a cI) o) x.2.2 8 [some (.ref (a 0)), some (.int x.1), some (.int x.2.1)] []) ?_ zFU _ h
  intro rec hr x h
  exact tB_X6_numberOf_8 C   (fun v1 v2 σ => hr (v1, v2, σ)) _ _ _ h
set_option maxRecDepth 20000 in
theorem c_X6_numberOf {l : Launch} {D : va_G} {a : Nat → Nat} {cI cO cA : ClassId} (hinj : ∀ i j, i < 21 → j < 21 → a i = a j → i = j) {σ : zSt} {o : Int32 × zSt} (h : M_X6_numberOf  σ = some o) : zMi l D (ztys cI cO cA) 21 a (fM a cI) yX6_numberOf cX6_numberOf 3 (some .int) rm_X6_numberOf [.ref (a 0)] σ o := by
  unfold M_X6_numberOf at h
  refine zmeti (own := RX6) [some (.ref (a 0)), none, none] (by decide) rfl hinj (Nat.le_of_ble_eq_true rfl) rfl (fun p e s m args below meth c C => ?_)
  refine r_aload_n (x := (a 0)) C dX6_numberOf_0 rfl ?_
  refine r_callVv C [] [] (b := 0) (by decide) fM_0 rfl rfl zc_X6_149 zB_X6_findRow ⟨rfl, rfl, by decide, by decide⟩ (fun out h => c_X6_findRow C.2.2.2.2.2.2.2.1  h) rfl rfl (Nat.le_of_ble_eq_true rfl) dX6_numberOf_1 h (fun σ1 h => ?_)
  refine r_iconst (v := 0) C dX6_numberOf_4 (by decide) ?_
  refine r_istore_n (lv' := [some (.ref (a 0)), some (.int (0 : Int32)), none]) C dX6_numberOf_5 (by decide) rfl rfl ?_
  refine r_iconst (v := 0) C dX6_numberOf_6 (by decide) ?_
  refine r_istore_n (lv' := [some (.ref (a 0)), some (.int (0 : Int32)), some (.int (0 : Int32))]) C dX6_numberOf_7 (by decide) rfl rfl ?_
  exact r_le (lv' := [some (.ref (a 0)), some (.int (0 : Int32)), some (.int (0 : Int32))]) ⟨rfl, rfl, rfl, trivial⟩ (tL_X6_numberOf_8 C (0 : Int32) (0 : Int32) σ1 h)
/-! VineRowsModel.tellDay -/
abbrev rm_X6_tellDay : Room := { frames := 4, cells := 0, slots := 0, locals := 86 }
def M_X6_tellDay (p1 : Int32) (σ : zSt) : Option (Int32 × zSt) := (if p1 < (10 : Int32) then (if p1 = (0 : Int32) then zbv (M_X6_findFars σ) (fun σ1 => zbd (M_X6_longest σ1) (fun x3 σ2 => some (x3, σ2))) else (if p1 = (1 : Int32) then znm (σ 0 5) (fun x4 => zbd (M_X6_worthOfSet ((zon x4) - (1 : Int32)) σ) (fun x6 σ5 => some (x6, σ5))) else (if p1 = (2 : Int32) then zbd (M_X6_numberOf σ) (fun x8 σ7 => some (x8, σ7)) else (if p1 = (3 : Int32) then zbd (M_X6_ends σ) (fun x10 σ9 => some (x10, σ9)) else (znm (σ 0 5) (fun x11 => zbd (M_X6_worthOfSet ((zon x11) - (1 : Int32)) σ) (fun x13 σ12 => some (x13, σ12)))))))) else zbd (M_X6_isPost (p1 - (10 : Int32)) σ) (fun x15 σ14 => (if x15 = 0 then some ((-9 : Int32), σ14) else zga (σ14 4) (p1 - (10 : Int32)) 8 (fun x16 => some (x16, σ14)))))
set_option maxRecDepth 20000 in
theorem c_X6_tellDay {l : Launch} {D : va_G} {a : Nat → Nat} {cI cO cA : ClassId} (hinj : ∀ i j, i < 21 → j < 21 → a i = a j → i = j) {p1 : Int32} {σ : zSt} {o : Int32 × zSt} (h : M_X6_tellDay p1 σ = some o) : zMi l D (ztys cI cO cA) 21 a (fM a cI) yX6_tellDay cX6_tellDay 2 (some .int) rm_X6_tellDay [.ref (a 0), .int p1] σ o := by
  unfold M_X6_tellDay at h
  refine zmeti (own := RX6) [some (.ref (a 0)), some (.int p1)] (by decide) rfl hinj (Nat.le_of_ble_eq_true rfl) rfl (fun p e s m args below meth c C => ?_)
  refine r_iload_n (x := p1) C dX6_tellDay_0 rfl ?_
  refine r_bipush (v := 10) C dX6_tellDay_1 (by decide) ?_
  refine r_icmp_lt (tgt := 32) C dX6_tellDay_3 (by decide) h (fun h => ?_) (fun h => ?_)
  · refine r_iload_n (x := p1) C dX6_tellDay_32 rfl ?_
    by_cases hx0 : p1 = (0 : Int32)
    · rw [if_pos hx0] at h
      refine r_tableIn (tgt := 64) (off := 31) C dX6_tellDay_33 (by rw [hx0]; decide) (by rw [hx0]; decide) (by rw [hx0]; decide) (by decide) ?_
      refine r_aload_n (x := (a 0)) C dX6_tellDay_64 rfl ?_
      refine r_callVv C [] [] (b := 0) (by decide) fM_0 rfl rfl zc_X6_146 zB_X6_findFars ⟨rfl, rfl, by decide, by decide⟩ (fun out h => c_X6_findFars C.2.2.2.2.2.2.2.1  h) rfl rfl (Nat.le_of_ble_eq_true rfl) dX6_tellDay_65 h (fun σ1 h => ?_)
      refine r_aload_n (x := (a 0)) C dX6_tellDay_68 rfl ?_
      refine r_callVi C [] [] (b := 0) (by decide) fM_0 rfl rfl zc_X6_171 zB_X6_longest ⟨rfl, rfl, by decide, by decide⟩ (fun out h => c_X6_longest C.2.2.2.2.2.2.2.1  h) rfl rfl (Nat.le_of_ble_eq_true rfl) dX6_tellDay_69 h (fun x3 σ2 h => ?_)
      exact r_iret C dX6_tellDay_72 h
    · rw [if_neg hx0] at h
      by_cases hx1 : p1 = (1 : Int32)
      · rw [if_pos hx1] at h
        refine r_tableIn (tgt := 83) (off := 50) C dX6_tellDay_33 (by rw [hx1]; decide) (by rw [hx1]; decide) (by rw [hx1]; decide) (by decide) ?_
        refine r_aload_n (x := (a 0)) C dX6_tellDay_83 rfl ?_
        refine r_iconst (v := 1) C dX6_tellDay_84 (by decide) ?_
        refine r_aload_n (x := (a 0)) C dX6_tellDay_85 rfl ?_
        refine gf_X6_80 C dX6_tellDay_86 h (fun x4 h => ?_)
        refine r_ishl C dX6_tellDay_89 ?_
        refine r_iconst (v := 1) C dX6_tellDay_90 (by decide) ?_
        refine r_isub C dX6_tellDay_91 ?_
        refine r_callVi C [.int ((zon x4) - (1 : Int32))] [] (b := 0) (by decide) fM_0 rfl rfl zc_X6_181 zB_X6_worthOfSet ⟨rfl, rfl, by decide, by decide⟩ (fun out h => c_X6_worthOfSet C.2.2.2.2.2.2.2.1  h) rfl rfl (Nat.le_of_ble_eq_true rfl) dX6_tellDay_92 h (fun x6 σ5 h => ?_)
        exact r_iret C dX6_tellDay_95 h
      · rw [if_neg hx1] at h
        by_cases hx2 : p1 = (2 : Int32)
        · rw [if_pos hx2] at h
          refine r_tableIn (tgt := 73) (off := 40) C dX6_tellDay_33 (by rw [hx2]; decide) (by rw [hx2]; decide) (by rw [hx2]; decide) (by decide) ?_
          refine r_aload_n (x := (a 0)) C dX6_tellDay_73 rfl ?_
          refine r_callVi C [] [] (b := 0) (by decide) fM_0 rfl rfl zc_X6_175 zB_X6_numberOf ⟨rfl, rfl, by decide, by decide⟩ (fun out h => c_X6_numberOf C.2.2.2.2.2.2.2.1  h) rfl rfl (Nat.le_of_ble_eq_true rfl) dX6_tellDay_74 h (fun x8 σ7 h => ?_)
          exact r_iret C dX6_tellDay_77 h
        · rw [if_neg hx2] at h
          by_cases hx3 : p1 = (3 : Int32)
          · rw [if_pos hx3] at h
            refine r_tableIn (tgt := 78) (off := 45) C dX6_tellDay_33 (by rw [hx3]; decide) (by rw [hx3]; decide) (by rw [hx3]; decide) (by decide) ?_
            refine r_aload_n (x := (a 0)) C dX6_tellDay_78 rfl ?_
            refine r_callVi C [] [] (b := 0) (by decide) fM_0 rfl rfl zc_X6_178 zB_X6_ends ⟨rfl, rfl, by decide, by decide⟩ (fun out h => c_X6_ends C.2.2.2.2.2.2.2.1  h) rfl rfl (Nat.le_of_ble_eq_true rfl) dX6_tellDay_79 h (fun x10 σ9 h => ?_)
            exact r_iret C dX6_tellDay_82 h
          · rw [if_neg hx3] at h
            have hy0 := zne (n := 0) hx0 (by decide)
            have hy1 := zne (n := 1) hx1 (by decide)
            have hy2 := zne (n := 2) hx2 (by decide)
            have hy3 := zne (n := 3) hx3 (by decide)
            refine r_tableOut (tgt := 83) C dX6_tellDay_33 (by omega) (by decide) ?_
            refine r_aload_n (x := (a 0)) C dX6_tellDay_83 rfl ?_
            refine r_iconst (v := 1) C dX6_tellDay_84 (by decide) ?_
            refine r_aload_n (x := (a 0)) C dX6_tellDay_85 rfl ?_
            refine gf_X6_80 C dX6_tellDay_86 h (fun x11 h => ?_)
            refine r_ishl C dX6_tellDay_89 ?_
            refine r_iconst (v := 1) C dX6_tellDay_90 (by decide) ?_
            refine r_isub C dX6_tellDay_91 ?_
            refine r_callVi C [.int ((zon x11) - (1 : Int32))] [] (b := 0) (by decide) fM_0 rfl rfl zc_X6_181 zB_X6_worthOfSet ⟨rfl, rfl, by decide, by decide⟩ (fun out h => c_X6_worthOfSet C.2.2.2.2.2.2.2.1  h) rfl rfl (Nat.le_of_ble_eq_true rfl) dX6_tellDay_92 h (fun x13 σ12 h => ?_)
            exact r_iret C dX6_tellDay_95 h
  · refine r_aload_n (x := (a 0)) C dX6_tellDay_6 rfl ?_
    refine r_iload_n (x := p1) C dX6_tellDay_7 rfl ?_
    refine r_bipush (v := 10) C dX6_tellDay_8 (by decide) ?_
    refine r_isub C dX6_tellDay_10 ?_
    refine r_callVi C [.int (p1 - (10 : Int32))] [] (b := 0) (by decide) fM_0 rfl rfl zc_X6_83 zB_X6_isPost ⟨rfl, rfl, by decide, by decide⟩ (fun out h => c_X6_isPost C.2.2.2.2.2.2.2.1  h) rfl rfl (Nat.le_of_ble_eq_true rfl) dX6_tellDay_11 h (fun x15 σ14 h => ?_)
    refine r_if_eq (tgt := 29) C dX6_tellDay_14 (by decide) h (fun h => ?_) (fun h => ?_)
    · refine r_bipush (v := -9) C dX6_tellDay_29 (by decide) ?_
      exact r_iret C dX6_tellDay_31 h
    · refine r_aload_n (x := (a 0)) C dX6_tellDay_17 rfl ?_
      refine gf_X6_19 C dX6_tellDay_18 ?_
      refine r_iload_n (x := p1) C dX6_tellDay_21 rfl ?_
      refine r_bipush (v := 10) C dX6_tellDay_22 (by decide) ?_
      refine r_isub C dX6_tellDay_24 ?_
      refine r_iald (t0 := 0) C 4 aM_4 rfl dX6_tellDay_25 h (fun x16 h => ?_)
      refine r_goto (tgt := 31) C dX6_tellDay_26 (by decide) ?_
      exact r_iret C dX6_tellDay_31 h
/-! VineRowsModel.day -/
abbrev rm_X6_day : Room := { frames := 5, cells := 0, slots := 0, locals := 107 }
def B_X6_day_223 (p1 : Int32) (p2 : Int32) (p3 : Int32) (p4 : Int32) (p5 : Int32) (K223 : (Int32 → Int32 → Int32 → zSt → Option (Int32 × zSt))) (v8 : Int32) (v9 : Int32) (v10 : Int32) (σ : zSt) : Option (Int32 × zSt) := znm (σ 0 5) (fun x33 => (if x33 ≤ v10 then (if p5 = (1 : Int32) then some (v8, σ) else (if v8 = (-9 : Int32) then some (v9, σ) else some (((-100 : Int32) - v8), σ))) else zga (σ 13) v10 8 (fun x34 => zgs σ 4 v10 8 x34 (fun σ35 => zga (σ35 14) v10 8 (fun x36 => zgs σ35 6 v10 8 x36 (fun σ37 => znm (v10 + (1 : Int32)) (fun x38 => K223 v8 v9 x38 σ37)))))))
def L_X6_day_223 (p1 : Int32) (p2 : Int32) (p3 : Int32) (p4 : Int32) (p5 : Int32) (v8 : Int32) (v9 : Int32) (v10 : Int32) (σ : zSt) : Option (Int32 × zSt) := zloop (fun (rec : Int32 × Int32 × Int32 × zSt → Option (Int32 × zSt)) x => B_X6_day_223 p1 p2 p3 p4 p5  (fun v8 v9 v10 σ => rec (v8, v9, v10, σ)) x.1 x.2.1 x.2.2.1 x.2.2.2) zFU (v8, v9, v10, σ)
def B_X6_day_159 (p1 : Int32) (p2 : Int32) (p3 : Int32) (p4 : Int32) (p5 : Int32) (K159 : (Int32 → Int32 → zSt → Option (Int32 × zSt))) (v7 : Int32) (v8 : Int32) (σ : zSt) : Option (Int32 × zSt) := znm (σ 0 5) (fun x23 => (if x23 ≤ v8 then zbd (M_X6_goDay v7 p4 σ) (fun x25 σ24 => zbd (M_X6_tellDay p5 σ24) (fun x27 σ26 => L_X6_day_223 p1 p2 p3 p4 p5 x25 x27 (0 : Int32) σ26)) else zga (σ 4) v8 8 (fun x28 => zgs σ 13 v8 8 x28 (fun σ29 => zga (σ29 6) v8 8 (fun x30 => zgs σ29 14 v8 8 x30 (fun σ31 => znm (v8 + (1 : Int32)) (fun x32 => K159 v7 x32 σ31)))))))
def L_X6_day_159 (p1 : Int32) (p2 : Int32) (p3 : Int32) (p4 : Int32) (p5 : Int32) (v7 : Int32) (v8 : Int32) (σ : zSt) : Option (Int32 × zSt) := zloop (fun (rec : Int32 × Int32 × zSt → Option (Int32 × zSt)) x => B_X6_day_159 p1 p2 p3 p4 p5  (fun v7 v8 σ => rec (v7, v8, σ)) x.1 x.2.1 x.2.2) zFU (v7, v8, σ)
def B_X6_day_103 (p1 : Int32) (p2 : Int32) (p3 : Int32) (p4 : Int32) (p5 : Int32) (K103 : (Int32 → Int32 → zSt → Option (Int32 × zSt))) (v7 : Int32) (v8 : Int32) (σ : zSt) : Option (Int32 × zSt) := (if p4 ≤ v8 then L_X6_day_159 p1 p2 p3 p4 p5 v7 (0 : Int32) σ else zga (σ 3) (v7 + ((2 : Int32) * v8)) 240 (fun x18 => zga (σ 3) ((v7 + ((2 : Int32) * v8)) + (1 : Int32)) 240 (fun x19 => zbd (M_X6_refusesPair x18 x19 σ) (fun x21 σ20 => (if x21 = 0 then znm (v8 + (1 : Int32)) (fun x22 => K103 v7 x22 σ20) else some (x21, σ20))))))
def L_X6_day_103 (p1 : Int32) (p2 : Int32) (p3 : Int32) (p4 : Int32) (p5 : Int32) (v7 : Int32) (v8 : Int32) (σ : zSt) : Option (Int32 × zSt) := zloop (fun (rec : Int32 × Int32 × zSt → Option (Int32 × zSt)) x => B_X6_day_103 p1 p2 p3 p4 p5  (fun v7 v8 σ => rec (v7, v8, σ)) x.1 x.2.1 x.2.2) zFU (v7, v8, σ)
def B_X6_day_57 (p1 : Int32) (p2 : Int32) (p3 : Int32) (p4 : Int32) (p5 : Int32) (σ : zSt) : Option (Int32 × zSt) := zbd (M_X6_against p1 p2 p3 ((2 : Int32) * p4) σ) (fun x13 σ12 => (if x13 = 0 then znm (σ12 0 5) (fun x14 => (if x14 = 0 then some ((-3 : Int32), σ12) else znm ((((60 : Int32) * p1) + p3)) (fun x15 => L_X6_day_103 p1 p2 p3 p4 p5 x15 (0 : Int32) σ12))) else zbd (M_X6_fails x13 σ12) (fun x17 σ16 => some (x17, σ16))))
def M_X6_day (p1 : Int32) (p2 : Int32) (p3 : Int32) (p4 : Int32) (p5 : Int32) (σ : zSt) : Option (Int32 × zSt) := znm (zsu σ 0 (upd (σ 0) 0 (0 : Int32))) (fun σ1 => zbd (M_X6_isSheet p1 σ1) (fun x3 σ2 => (if x3 = 0 then some ((-1 : Int32), σ2) else zbd (M_X6_isSort p2 σ2) (fun x5 σ4 => (if x5 = 0 then some ((-2 : Int32), σ4) else zbd (M_X6_within p4 (0 : Int32) (20 : Int32) σ4) (fun x7 σ6 => (if x7 = 0 then some ((-2 : Int32), σ6) else zbd (M_X6_within p5 (0 : Int32) (4 : Int32) σ6) (fun x9 σ8 => (if x9 = 0 then zbd (M_X6_within p5 (10 : Int32) (17 : Int32) σ8) (fun x11 σ10 => (if x11 = 0 then some ((-2 : Int32), σ10) else B_X6_day_57 p1 p2 p3 p4 p5 σ10)) else B_X6_day_57 p1 p2 p3 p4 p5 σ8)))))))))
set_option maxRecDepth 20000 in
theorem tB_X6_day_223 {p : Program} {l : Launch} {e : Env} {s : State} {m : MethodId} {args : Array Value} {below : List Frame} {meth : Method} {c : Code} {D : va_G} {a : Nat → Nat} {cI cO cA : ClassId} {o : Int32 × zSt} (C : zC p s m args meth c D (ztys cI cO cA) 21 a cX6_day 11 RX6 (some .int)) {p1 : Int32} {p2 : Int32} {p3 : Int32} {p4 : Int32} {p5 : Int32} {K223 : (Int32 → Int32 → Int32 → zSt → Option (Int32 × zSt))} (hK223 : ∀ (v8 : Int32) (v9 : Int32) (v10 : Int32) (σ : zSt), K223 v8 v9 v10 σ = some o → zV p l e rm_X6_day s m args below meth c D 21 a (fM a cI) 11 (zQi below args s D 21 a (fM a cI) o) σ 223 [some (.ref (a 0)), none, none, none, none, some (.int p5), none, none, some (.int v8), some (.int v9), some (.int v10)] []) (v8 : Int32) (v9 : Int32) (v10 : Int32) (σ : zSt) (h : B_X6_day_223 p1 p2 p3 p4 p5 K223 v8 v9 v10 σ = some o) : zV p l e rm_X6_day s m args below meth c D 21 a (fM a cI) 11 (zQi below args s D 21 a (fM a cI) o) σ 223 [some (.ref (a 0)), none, none, none, none, some (.int p5), none, none, some (.int v8), some (.int v9), some (.int v10)] [] := by
  unfold B_X6_day_223 at h
  refine r_iload (x := v10) C dX6_day_223 rfl ?_
  refine r_aload_n (x := (a 0)) C dX6_day_225 rfl ?_
  refine gf_X6_80 C dX6_day_226 h (fun x33 h => ?_)
  refine r_icmp_ge (tgt := 266) C dX6_day_229 (by decide) h (fun h => ?_) (fun h => ?_)
  · refine r_iload (x := p5) C dX6_day_266 rfl ?_
    refine r_iconst (v := 1) C dX6_day_268 (by decide) ?_
    refine r_icmp_ne (tgt := 277) C dX6_day_269 (by decide) h (fun h => ?_) (fun h => ?_)
    · refine r_iload (x := v8) C dX6_day_277 rfl ?_
      refine r_bipush (v := -9) C dX6_day_279 (by decide) ?_
      refine r_icmp_ne (tgt := 289) C dX6_day_281 (by decide) h (fun h => ?_) (fun h => ?_)
      · refine r_bipush (v := -100) C dX6_day_289 (by decide) ?_
        refine r_iload (x := v8) C dX6_day_291 rfl ?_
        refine r_isub C dX6_day_293 ?_
        exact r_iret C dX6_day_294 h
      · refine r_iload (x := v9) C dX6_day_284 rfl ?_
        refine r_goto (tgt := 294) C dX6_day_286 (by decide) ?_
        exact r_iret C dX6_day_294 h
    · refine r_iload (x := v8) C dX6_day_272 rfl ?_
      refine r_goto (tgt := 294) C dX6_day_274 (by decide) ?_
      exact r_iret C dX6_day_294 h
  · refine r_aload_n (x := (a 0)) C dX6_day_232 rfl ?_
    refine gf_X6_19 C dX6_day_233 ?_
    refine r_iload (x := v10) C dX6_day_236 rfl ?_
    refine r_aload_n (x := (a 0)) C dX6_day_238 rfl ?_
    refine gf_X6_46 C dX6_day_239 ?_
    refine r_iload (x := v10) C dX6_day_242 rfl ?_
    refine r_iald (t0 := 0) C 13 aM_13 rfl dX6_day_244 h (fun x34 h => ?_)
    refine r_iast (t0 := 0) C 4 aM_4 rfl dX6_day_245 h (fun σ35 h => ?_)
    refine r_aload_n (x := (a 0)) C dX6_day_246 rfl ?_
    refine gf_X6_25 C dX6_day_247 ?_
    refine r_iload (x := v10) C dX6_day_250 rfl ?_
    refine r_aload_n (x := (a 0)) C dX6_day_252 rfl ?_
    refine gf_X6_49 C dX6_day_253 ?_
    refine r_iload (x := v10) C dX6_day_256 rfl ?_
    refine r_iald (t0 := 0) C 14 aM_14 rfl dX6_day_258 h (fun x36 h => ?_)
    refine r_iast (t0 := 0) C 6 aM_6 rfl dX6_day_259 h (fun σ37 h => ?_)
    refine r_gen h (fun x38 ex38 h => ?_)
    refine r_iinc (x := v10) (v := x38) (lv' := [some (.ref (a 0)), none, none, none, none, some (.int p5), none, none, some (.int v8), some (.int v9), some (.int x38)]) C dX6_day_260 rfl (by rw [← ex38]; rfl) (by decide) rfl rfl ?_
    clear ex38
    refine r_goto (tgt := 223) C dX6_day_263 (by decide) ?_
    exact r_le (lv' := [some (.ref (a 0)), none, none, none, none, some (.int p5), none, none, some (.int v8), some (.int v9), some (.int x38)]) ⟨rfl, rfl, rfl, rfl, rfl, trivial⟩ (hK223 v8 v9 x38 σ37 h)
set_option maxRecDepth 20000 in
theorem tL_X6_day_223 {p : Program} {l : Launch} {e : Env} {s : State} {m : MethodId} {args : Array Value} {below : List Frame} {meth : Method} {c : Code} {D : va_G} {a : Nat → Nat} {cI cO cA : ClassId} {o : Int32 × zSt} (C : zC p s m args meth c D (ztys cI cO cA) 21 a cX6_day 11 RX6 (some .int)) {p1 : Int32} {p2 : Int32} {p3 : Int32} {p4 : Int32} {p5 : Int32}  (v8 : Int32) (v9 : Int32) (v10 : Int32) (σ : zSt) (h : L_X6_day_223 p1 p2 p3 p4 p5  v8 v9 v10 σ = some o) : zV p l e rm_X6_day s m args below meth c D 21 a (fM a cI) 11 (zQi below args s D 21 a (fM a cI) o) σ 223 [some (.ref (a 0)), none, none, none, none, some (.int p5), none, none, some (.int v8), some (.int v9), some (.int v10)] [] := by
  unfold L_X6_day_223 at h
  refine zloop_ind (G := fun x => zV p l e rm_X6_day s m args below meth c D 21 a (fM a cI) 11 (zQi below args s D 21 a (fM a cI) o) x.2.2.2 223 [some (.ref (a 0)), none, none, none, none, some (.int p5), none, none, some (.int x.1), some (.int x.2.1), some (.int x.2.2.1)] []) ?_ zFU _ h
  intro rec hr x h
  exact tB_X6_day_223 C   (fun v8 v9 v10 σ => hr (v8, v9, v10, σ)) _ _ _ _ h
set_option maxRecDepth 20000 in
theorem tB_X6_day_159 {p : Program} {l : Launch} {e : Env} {s : State} {m : MethodId} {args : Array Value} {below : List Frame} {meth : Method} {c : Code} {D : va_G} {a : Nat → Nat} {cI cO cA : ClassId} {o : Int32 × zSt} (C : zC p s m args meth c D (ztys cI cO cA) 21 a cX6_day 11 RX6 (some .int)) {p1 : Int32} {p2 : Int32} {p3 : Int32} {p4 : Int32} {p5 : Int32} {K159 : (Int32 → Int32 → zSt → Option (Int32 × zSt))} (hK159 : ∀ (v7 : Int32) (v8 : Int32) (σ : zSt), K159 v7 v8 σ = some o → zV p l e rm_X6_day s m args below meth c D 21 a (fM a cI) 11 (zQi below args s D 21 a (fM a cI) o) σ 159 [some (.ref (a 0)), none, none, none, some (.int p4), some (.int p5), none, some (.int v7), some (.int v8), none, none] []) (v7 : Int32) (v8 : Int32) (σ : zSt) (h : B_X6_day_159 p1 p2 p3 p4 p5 K159 v7 v8 σ = some o) : zV p l e rm_X6_day s m args below meth c D 21 a (fM a cI) 11 (zQi below args s D 21 a (fM a cI) o) σ 159 [some (.ref (a 0)), none, none, none, some (.int p4), some (.int p5), none, some (.int v7), some (.int v8), none, none] [] := by
  unfold B_X6_day_159 at h
  refine r_iload (x := v8) C dX6_day_159 rfl ?_
  refine r_aload_n (x := (a 0)) C dX6_day_161 rfl ?_
  refine gf_X6_80 C dX6_day_162 h (fun x23 h => ?_)
  refine r_icmp_ge (tgt := 202) C dX6_day_165 (by decide) h (fun h => ?_) (fun h => ?_)
  · refine r_aload_n (x := (a 0)) C dX6_day_202 rfl ?_
    refine r_iload (x := v7) C dX6_day_203 rfl ?_
    refine r_iload (x := p4) C dX6_day_205 rfl ?_
    refine r_callVi C [.int v7, .int p4] [] (b := 0) (by decide) fM_0 rfl rfl zc_X6_165 zB_X6_goDay ⟨rfl, rfl, by decide, by decide⟩ (fun out h => c_X6_goDay C.2.2.2.2.2.2.2.1  h) rfl rfl (Nat.le_of_ble_eq_true rfl) dX6_day_207 h (fun x25 σ24 h => ?_)
    refine r_istore (lv' := [some (.ref (a 0)), none, none, none, some (.int p4), some (.int p5), none, some (.int v7), some (.int x25), none, none]) C dX6_day_210 (by decide) rfl rfl ?_
    refine r_aload_n (x := (a 0)) C dX6_day_212 rfl ?_
    refine r_iload (x := p5) C dX6_day_213 rfl ?_
    refine r_callVi C [.int p5] [] (b := 0) (by decide) fM_0 rfl rfl zc_X6_168 zB_X6_tellDay ⟨rfl, rfl, by decide, by decide⟩ (fun out h => c_X6_tellDay C.2.2.2.2.2.2.2.1  h) rfl rfl (Nat.le_of_ble_eq_true rfl) dX6_day_215 h (fun x27 σ26 h => ?_)
    refine r_istore (lv' := [some (.ref (a 0)), none, none, none, some (.int p4), some (.int p5), none, some (.int v7), some (.int x25), some (.int x27), none]) C dX6_day_218 (by decide) rfl rfl ?_
    refine r_iconst (v := 0) C dX6_day_220 (by decide) ?_
    refine r_istore (lv' := [some (.ref (a 0)), none, none, none, some (.int p4), some (.int p5), none, some (.int v7), some (.int x25), some (.int x27), some (.int (0 : Int32))]) C dX6_day_221 (by decide) rfl rfl ?_
    exact r_le (lv' := [some (.ref (a 0)), none, none, none, none, some (.int p5), none, none, some (.int x25), some (.int x27), some (.int (0 : Int32))]) ⟨rfl, rfl, rfl, rfl, rfl, trivial⟩ (tL_X6_day_223 C x25 x27 (0 : Int32) σ26 h)
  · refine r_aload_n (x := (a 0)) C dX6_day_168 rfl ?_
    refine gf_X6_46 C dX6_day_169 ?_
    refine r_iload (x := v8) C dX6_day_172 rfl ?_
    refine r_aload_n (x := (a 0)) C dX6_day_174 rfl ?_
    refine gf_X6_19 C dX6_day_175 ?_
    refine r_iload (x := v8) C dX6_day_178 rfl ?_
    refine r_iald (t0 := 0) C 4 aM_4 rfl dX6_day_180 h (fun x28 h => ?_)
    refine r_iast (t0 := 0) C 13 aM_13 rfl dX6_day_181 h (fun σ29 h => ?_)
    refine r_aload_n (x := (a 0)) C dX6_day_182 rfl ?_
    refine gf_X6_49 C dX6_day_183 ?_
    refine r_iload (x := v8) C dX6_day_186 rfl ?_
    refine r_aload_n (x := (a 0)) C dX6_day_188 rfl ?_
    refine gf_X6_25 C dX6_day_189 ?_
    refine r_iload (x := v8) C dX6_day_192 rfl ?_
    refine r_iald (t0 := 0) C 6 aM_6 rfl dX6_day_194 h (fun x30 h => ?_)
    refine r_iast (t0 := 0) C 14 aM_14 rfl dX6_day_195 h (fun σ31 h => ?_)
    refine r_gen h (fun x32 ex32 h => ?_)
    refine r_iinc (x := v8) (v := x32) (lv' := [some (.ref (a 0)), none, none, none, some (.int p4), some (.int p5), none, some (.int v7), some (.int x32), none, none]) C dX6_day_196 rfl (by rw [← ex32]; rfl) (by decide) rfl rfl ?_
    clear ex32
    refine r_goto (tgt := 159) C dX6_day_199 (by decide) ?_
    exact r_le (lv' := [some (.ref (a 0)), none, none, none, some (.int p4), some (.int p5), none, some (.int v7), some (.int x32), none, none]) ⟨rfl, rfl, rfl, rfl, rfl, trivial⟩ (hK159 v7 x32 σ31 h)
set_option maxRecDepth 20000 in
theorem tL_X6_day_159 {p : Program} {l : Launch} {e : Env} {s : State} {m : MethodId} {args : Array Value} {below : List Frame} {meth : Method} {c : Code} {D : va_G} {a : Nat → Nat} {cI cO cA : ClassId} {o : Int32 × zSt} (C : zC p s m args meth c D (ztys cI cO cA) 21 a cX6_day 11 RX6 (some .int)) {p1 : Int32} {p2 : Int32} {p3 : Int32} {p4 : Int32} {p5 : Int32}  (v7 : Int32) (v8 : Int32) (σ : zSt) (h : L_X6_day_159 p1 p2 p3 p4 p5  v7 v8 σ = some o) : zV p l e rm_X6_day s m args below meth c D 21 a (fM a cI) 11 (zQi below args s D 21 a (fM a cI) o) σ 159 [some (.ref (a 0)), none, none, none, some (.int p4), some (.int p5), none, some (.int v7), some (.int v8), none, none] [] := by
  unfold L_X6_day_159 at h
  refine zloop_ind (G := fun x => zV p l e rm_X6_day s m args below meth c D 21 a (fM a cI) 11 (zQi below args s D 21 a (fM a cI) o) x.2.2 159 [some (.ref (a 0)), none, none, none, some (.int p4), some (.int p5), none, some (.int x.1), some (.int x.2.1), none, none] []) ?_ zFU _ h
  intro rec hr x h
  exact tB_X6_day_159 C   (fun v7 v8 σ => hr (v7, v8, σ)) _ _ _ h
set_option maxRecDepth 20000 in
theorem tB_X6_day_103 {p : Program} {l : Launch} {e : Env} {s : State} {m : MethodId} {args : Array Value} {below : List Frame} {meth : Method} {c : Code} {D : va_G} {a : Nat → Nat} {cI cO cA : ClassId} {o : Int32 × zSt} (C : zC p s m args meth c D (ztys cI cO cA) 21 a cX6_day 11 RX6 (some .int)) {p1 : Int32} {p2 : Int32} {p3 : Int32} {p4 : Int32} {p5 : Int32} {K103 : (Int32 → Int32 → zSt → Option (Int32 × zSt))} (hK103 : ∀ (v7 : Int32) (v8 : Int32) (σ : zSt), K103 v7 v8 σ = some o → zV p l e rm_X6_day s m args below meth c D 21 a (fM a cI) 11 (zQi below args s D 21 a (fM a cI) o) σ 103 [some (.ref (a 0)), none, none, none, some (.int p4), some (.int p5), none, some (.int v7), some (.int v8), none, none] []) (v7 : Int32) (v8 : Int32) (σ : zSt) (h : B_X6_day_103 p1 p2 p3 p4 p5 K103 v7 v8 σ = some o) : zV p l e rm_X6_day s m args below meth c D 21 a (fM a cI) 11 (zQi below args s D 21 a (fM a cI) o) σ 103 [some (.ref (a 0)), none, none, none, some (.int p4), some (.int p5), none, some (.int v7), some (.int v8), none, none] [] := by
  unfold B_X6_day_103 at h
  refine r_iload (x := v8) C dX6_day_103 rfl ?_
  refine r_iload (x := p4) C dX6_day_105 rfl ?_
  refine r_icmp_ge (tgt := 156) C dX6_day_107 (by decide) h (fun h => ?_) (fun h => ?_)
  · refine r_iconst (v := 0) C dX6_day_156 (by decide) ?_
    refine r_istore (lv' := [some (.ref (a 0)), none, none, none, some (.int p4), some (.int p5), none, some (.int v7), some (.int (0 : Int32)), none, none]) C dX6_day_157 (by decide) rfl rfl ?_
    exact r_le (lv' := [some (.ref (a 0)), none, none, none, some (.int p4), some (.int p5), none, some (.int v7), some (.int (0 : Int32)), none, none]) ⟨rfl, rfl, rfl, rfl, rfl, trivial⟩ (tL_X6_day_159 C v7 (0 : Int32) σ h)
  · refine r_aload_n (x := (a 0)) C dX6_day_110 rfl ?_
    refine r_aload_n (x := (a 0)) C dX6_day_111 rfl ?_
    refine gf_X6_16 C dX6_day_112 ?_
    refine r_iload (x := v7) C dX6_day_115 rfl ?_
    refine r_iconst (v := 2) C dX6_day_117 (by decide) ?_
    refine r_iload (x := v8) C dX6_day_118 rfl ?_
    refine r_imul C dX6_day_120 ?_
    refine r_iadd C dX6_day_121 ?_
    refine r_iald (t0 := 0) C 3 aM_3 rfl dX6_day_122 h (fun x18 h => ?_)
    refine r_aload_n (x := (a 0)) C dX6_day_123 rfl ?_
    refine gf_X6_16 C dX6_day_124 ?_
    refine r_iload (x := v7) C dX6_day_127 rfl ?_
    refine r_iconst (v := 2) C dX6_day_129 (by decide) ?_
    refine r_iload (x := v8) C dX6_day_130 rfl ?_
    refine r_imul C dX6_day_132 ?_
    refine r_iadd C dX6_day_133 ?_
    refine r_iconst (v := 1) C dX6_day_134 (by decide) ?_
    refine r_iadd C dX6_day_135 ?_
    refine r_iald (t0 := 0) C 3 aM_3 rfl dX6_day_136 h (fun x19 h => ?_)
    refine r_callVi C [.int x18, .int x19] [] (b := 0) (by decide) fM_0 rfl rfl zc_X6_161 zB_X6_refusesPair ⟨rfl, rfl, by decide, by decide⟩ (fun out h => c_X6_refusesPair C.2.2.2.2.2.2.2.1  h) rfl rfl (Nat.le_of_ble_eq_true rfl) dX6_day_137 h (fun x21 σ20 h => ?_)
    refine r_istore (lv' := [some (.ref (a 0)), none, none, none, some (.int p4), some (.int p5), none, some (.int v7), some (.int v8), some (.int x21), none]) C dX6_day_140 (by decide) rfl rfl ?_
    refine r_iload (x := x21) C dX6_day_142 rfl ?_
    refine r_if_eq (tgt := 150) C dX6_day_144 (by decide) h (fun h => ?_) (fun h => ?_)
    · refine r_gen h (fun x22 ex22 h => ?_)
      refine r_iinc (x := v8) (v := x22) (lv' := [some (.ref (a 0)), none, none, none, some (.int p4), some (.int p5), none, some (.int v7), some (.int x22), some (.int x21), none]) C dX6_day_150 rfl (by rw [← ex22]; rfl) (by decide) rfl rfl ?_
      clear ex22
      refine r_goto (tgt := 103) C dX6_day_153 (by decide) ?_
      exact r_le (lv' := [some (.ref (a 0)), none, none, none, some (.int p4), some (.int p5), none, some (.int v7), some (.int x22), none, none]) ⟨rfl, rfl, rfl, rfl, rfl, trivial⟩ (hK103 v7 x22 σ20 h)
    · refine r_iload (x := x21) C dX6_day_147 rfl ?_
      exact r_iret C dX6_day_149 h
set_option maxRecDepth 20000 in
theorem tL_X6_day_103 {p : Program} {l : Launch} {e : Env} {s : State} {m : MethodId} {args : Array Value} {below : List Frame} {meth : Method} {c : Code} {D : va_G} {a : Nat → Nat} {cI cO cA : ClassId} {o : Int32 × zSt} (C : zC p s m args meth c D (ztys cI cO cA) 21 a cX6_day 11 RX6 (some .int)) {p1 : Int32} {p2 : Int32} {p3 : Int32} {p4 : Int32} {p5 : Int32}  (v7 : Int32) (v8 : Int32) (σ : zSt) (h : L_X6_day_103 p1 p2 p3 p4 p5  v7 v8 σ = some o) : zV p l e rm_X6_day s m args below meth c D 21 a (fM a cI) 11 (zQi below args s D 21 a (fM a cI) o) σ 103 [some (.ref (a 0)), none, none, none, some (.int p4), some (.int p5), none, some (.int v7), some (.int v8), none, none] [] := by
  unfold L_X6_day_103 at h
  refine zloop_ind (G := fun x => zV p l e rm_X6_day s m args below meth c D 21 a (fM a cI) 11 (zQi below args s D 21 a (fM a cI) o) x.2.2 103 [some (.ref (a 0)), none, none, none, some (.int p4), some (.int p5), none, some (.int x.1), some (.int x.2.1), none, none] []) ?_ zFU _ h
  intro rec hr x h
  exact tB_X6_day_103 C   (fun v7 v8 σ => hr (v7, v8, σ)) _ _ _ h
set_option maxRecDepth 20000 in
theorem tB_X6_day_57 {p : Program} {l : Launch} {e : Env} {s : State} {m : MethodId} {args : Array Value} {below : List Frame} {meth : Method} {c : Code} {D : va_G} {a : Nat → Nat} {cI cO cA : ClassId} {o : Int32 × zSt} (C : zC p s m args meth c D (ztys cI cO cA) 21 a cX6_day 11 RX6 (some .int)) {p1 : Int32} {p2 : Int32} {p3 : Int32} {p4 : Int32} {p5 : Int32}  (σ : zSt) (h : B_X6_day_57 p1 p2 p3 p4 p5   σ = some o) : zV p l e rm_X6_day s m args below meth c D 21 a (fM a cI) 11 (zQi below args s D 21 a (fM a cI) o) σ 57 [some (.ref (a 0)), some (.int p1), some (.int p2), some (.int p3), some (.int p4), some (.int p5), none, none, none, none, none] [] := by
  unfold B_X6_day_57 at h
  refine r_aload_n (x := (a 0)) C dX6_day_57 rfl ?_
  refine r_iload_n (x := p1) C dX6_day_58 rfl ?_
  refine r_iload_n (x := p2) C dX6_day_59 rfl ?_
  refine r_iload_n (x := p3) C dX6_day_60 rfl ?_
  refine r_iconst (v := 2) C dX6_day_61 (by decide) ?_
  refine r_iload (x := p4) C dX6_day_62 rfl ?_
  refine r_imul C dX6_day_64 ?_
  refine r_callVi C [.int p1, .int p2, .int p3, .int ((2 : Int32) * p4)] [] (b := 0) (by decide) fM_0 rfl rfl zc_X6_100 zB_X6_against ⟨rfl, rfl, by decide, by decide⟩ (fun out h => c_X6_against C.2.2.2.2.2.2.2.1  h) rfl rfl (Nat.le_of_ble_eq_true rfl) dX6_day_65 h (fun x13 σ12 h => ?_)
  refine r_istore (lv' := [some (.ref (a 0)), some (.int p1), some (.int p2), some (.int p3), some (.int p4), some (.int p5), some (.int x13), none, none, none, none]) C dX6_day_68 (by decide) rfl rfl ?_
  refine r_iload (x := x13) C dX6_day_70 rfl ?_
  refine r_if_eq (tgt := 82) C dX6_day_72 (by decide) h (fun h => ?_) (fun h => ?_)
  · refine r_aload_n (x := (a 0)) C dX6_day_82 rfl ?_
    refine gf_X6_80 C dX6_day_83 h (fun x14 h => ?_)
    refine r_if_ne (tgt := 92) C dX6_day_86 (by decide) h (fun h => ?_) (fun h => ?_)
    · refine r_bipush (v := 60) C dX6_day_92 (by decide) ?_
      refine r_iload_n (x := p1) C dX6_day_94 rfl ?_
      refine r_imul C dX6_day_95 ?_
      refine r_iload_n (x := p3) C dX6_day_96 rfl ?_
      refine r_iadd C dX6_day_97 ?_
      refine r_nm h (fun x15 h => ?_)
      refine r_istore (lv' := [some (.ref (a 0)), some (.int p1), some (.int p2), some (.int p3), some (.int p4), some (.int p5), some (.int x13), some (.int x15), none, none, none]) C dX6_day_98 (by decide) rfl rfl ?_
      refine r_iconst (v := 0) C dX6_day_100 (by decide) ?_
      refine r_istore (lv' := [some (.ref (a 0)), some (.int p1), some (.int p2), some (.int p3), some (.int p4), some (.int p5), some (.int x13), some (.int x15), some (.int (0 : Int32)), none, none]) C dX6_day_101 (by decide) rfl rfl ?_
      exact r_le (lv' := [some (.ref (a 0)), none, none, none, some (.int p4), some (.int p5), none, some (.int x15), some (.int (0 : Int32)), none, none]) ⟨rfl, rfl, rfl, rfl, rfl, trivial⟩ (tL_X6_day_103 C x15 (0 : Int32) σ12 h)
    · refine r_bipush (v := -3) C dX6_day_89 (by decide) ?_
      exact r_iret C dX6_day_91 h
  · refine r_aload_n (x := (a 0)) C dX6_day_75 rfl ?_
    refine r_iload (x := x13) C dX6_day_76 rfl ?_
    refine r_callVi C [.int x13] [] (b := 0) (by decide) fM_0 rfl rfl zc_X6_104 zB_X6_fails ⟨rfl, rfl, by decide, by decide⟩ (fun out h => c_X6_fails C.2.2.2.2.2.2.2.1  h) rfl rfl (Nat.le_of_ble_eq_true rfl) dX6_day_78 h (fun x17 σ16 h => ?_)
    exact r_iret C dX6_day_81 h
set_option maxRecDepth 20000 in
theorem c_X6_day {l : Launch} {D : va_G} {a : Nat → Nat} {cI cO cA : ClassId} (hinj : ∀ i j, i < 21 → j < 21 → a i = a j → i = j) {p1 : Int32} {p2 : Int32} {p3 : Int32} {p4 : Int32} {p5 : Int32} {σ : zSt} {o : Int32 × zSt} (h : M_X6_day p1 p2 p3 p4 p5 σ = some o) : zMi l D (ztys cI cO cA) 21 a (fM a cI) yX6_day cX6_day 11 (some .int) rm_X6_day [.ref (a 0), .int p1, .int p2, .int p3, .int p4, .int p5] σ o := by
  unfold M_X6_day at h
  refine zmeti (own := RX6) [some (.ref (a 0)), some (.int p1), some (.int p2), some (.int p3), some (.int p4), some (.int p5), none, none, none, none, none] (by decide) rfl hinj (Nat.le_of_ble_eq_true rfl) rfl (fun p e s m args below meth c C => ?_)
  refine r_aload_n (x := (a 0)) C dX6_day_0 rfl ?_
  refine r_iconst (v := 0) C dX6_day_1 (by decide) ?_
  refine pf_X6_70 C dX6_day_2 h (fun σ1 h => ?_)
  refine r_iload_n (x := p1) C dX6_day_5 rfl ?_
  refine r_callSi C [.int p1] [] zc_X6_94 zB_X6_isSheet ⟨rfl, rfl, by decide, by decide⟩ (fun out h => c_X6_isSheet C.2.2.2.2.2.2.2.1  h) rfl rfl (Nat.le_of_ble_eq_true rfl) dX6_day_6 h (fun x3 σ2 h => ?_)
  refine r_if_ne (tgt := 14) C dX6_day_9 (by decide) h (fun h => ?_) (fun h => ?_)
  · refine r_iload_n (x := p2) C dX6_day_14 rfl ?_
    refine r_callSi C [.int p2] [] zc_X6_97 zB_X6_isSort ⟨rfl, rfl, by decide, by decide⟩ (fun out h => c_X6_isSort C.2.2.2.2.2.2.2.1  h) rfl rfl (Nat.le_of_ble_eq_true rfl) dX6_day_15 h (fun x5 σ4 h => ?_)
    refine r_if_eq (tgt := 54) C dX6_day_18 (by decide) h (fun h => ?_) (fun h => ?_)
    · refine r_bipush (v := -2) C dX6_day_54 (by decide) ?_
      exact r_iret C dX6_day_56 h
    · refine r_iload (x := p4) C dX6_day_21 rfl ?_
      refine r_iconst (v := 0) C dX6_day_23 (by decide) ?_
      refine r_bipush (v := 20) C dX6_day_24 (by decide) ?_
      refine r_callSi C [.int p4, .int (0 : Int32), .int (20 : Int32)] [] zc_X6_76 zB_X6_within ⟨rfl, rfl, by decide, by decide⟩ (fun out h => c_X6_within C.2.2.2.2.2.2.2.1  h) rfl rfl (Nat.le_of_ble_eq_true rfl) dX6_day_26 h (fun x7 σ6 h => ?_)
      refine r_if_eq (tgt := 54) C dX6_day_29 (by decide) h (fun h => ?_) (fun h => ?_)
      · refine r_bipush (v := -2) C dX6_day_54 (by decide) ?_
        exact r_iret C dX6_day_56 h
      · refine r_iload (x := p5) C dX6_day_32 rfl ?_
        refine r_iconst (v := 0) C dX6_day_34 (by decide) ?_
        refine r_iconst (v := 4) C dX6_day_35 (by decide) ?_
        refine r_callSi C [.int p5, .int (0 : Int32), .int (4 : Int32)] [] zc_X6_76 zB_X6_within ⟨rfl, rfl, by decide, by decide⟩ (fun out h => c_X6_within C.2.2.2.2.2.2.2.1  h) rfl rfl (Nat.le_of_ble_eq_true rfl) dX6_day_36 h (fun x9 σ8 h => ?_)
        refine r_if_ne (tgt := 57) C dX6_day_39 (by decide) h (fun h => ?_) (fun h => ?_)
        · exact r_le (lv' := [some (.ref (a 0)), some (.int p1), some (.int p2), some (.int p3), some (.int p4), some (.int p5), none, none, none, none, none]) ⟨rfl, rfl, rfl, rfl, rfl, rfl, trivial⟩ (tB_X6_day_57 C σ8 h)
        · refine r_iload (x := p5) C dX6_day_42 rfl ?_
          refine r_bipush (v := 10) C dX6_day_44 (by decide) ?_
          refine r_bipush (v := 17) C dX6_day_46 (by decide) ?_
          refine r_callSi C [.int p5, .int (10 : Int32), .int (17 : Int32)] [] zc_X6_76 zB_X6_within ⟨rfl, rfl, by decide, by decide⟩ (fun out h => c_X6_within C.2.2.2.2.2.2.2.1  h) rfl rfl (Nat.le_of_ble_eq_true rfl) dX6_day_48 h (fun x11 σ10 h => ?_)
          refine r_if_ne (tgt := 57) C dX6_day_51 (by decide) h (fun h => ?_) (fun h => ?_)
          · exact r_le (lv' := [some (.ref (a 0)), some (.int p1), some (.int p2), some (.int p3), some (.int p4), some (.int p5), none, none, none, none, none]) ⟨rfl, rfl, rfl, rfl, rfl, rfl, trivial⟩ (tB_X6_day_57 C σ10 h)
          · refine r_bipush (v := -2) C dX6_day_54 (by decide) ?_
            exact r_iret C dX6_day_56 h
  · refine r_iconst (v := -1) C dX6_day_12 (by decide) ?_
    exact r_iret C dX6_day_13 h
/-! VineRowsModel.far -/
abbrev rm_X6_far : Room := { frames := 2, cells := 0, slots := 0, locals := 47 }
def M_X6_far (p1 : Int32) (p2 : Int32) (σ : zSt) : Option (Int32 × zSt) := zbd (M_X6_isPost p1 σ) (fun x2 σ1 => (if x2 = 0 then some ((-1 : Int32), σ1) else zbd (M_X6_isPost p2 σ1) (fun x4 σ3 => (if x4 = 0 then some ((-1 : Int32), σ3) else zbv (M_X6_findFars σ3) (fun σ5 => zga (σ5 10) (((8 : Int32) * p1) + p2) 64 (fun x6 => some (x6, σ5)))))))
set_option maxRecDepth 20000 in
theorem c_X6_far {l : Launch} {D : va_G} {a : Nat → Nat} {cI cO cA : ClassId} (hinj : ∀ i j, i < 21 → j < 21 → a i = a j → i = j) {p1 : Int32} {p2 : Int32} {σ : zSt} {o : Int32 × zSt} (h : M_X6_far p1 p2 σ = some o) : zMi l D (ztys cI cO cA) 21 a (fM a cI) yX6_far cX6_far 3 (some .int) rm_X6_far [.ref (a 0), .int p1, .int p2] σ o := by
  unfold M_X6_far at h
  refine zmeti (own := RX6) [some (.ref (a 0)), some (.int p1), some (.int p2)] (by decide) rfl hinj (Nat.le_of_ble_eq_true rfl) rfl (fun p e s m args below meth c C => ?_)
  refine r_aload_n (x := (a 0)) C dX6_far_0 rfl ?_
  refine r_iload_n (x := p1) C dX6_far_1 rfl ?_
  refine r_callVi C [.int p1] [] (b := 0) (by decide) fM_0 rfl rfl zc_X6_83 zB_X6_isPost ⟨rfl, rfl, by decide, by decide⟩ (fun out h => c_X6_isPost C.2.2.2.2.2.2.2.1  h) rfl rfl (Nat.le_of_ble_eq_true rfl) dX6_far_2 h (fun x2 σ1 h => ?_)
  refine r_if_eq (tgt := 16) C dX6_far_5 (by decide) h (fun h => ?_) (fun h => ?_)
  · refine r_iconst (v := -1) C dX6_far_16 (by decide) ?_
    exact r_iret C dX6_far_17 h
  · refine r_aload_n (x := (a 0)) C dX6_far_8 rfl ?_
    refine r_iload_n (x := p2) C dX6_far_9 rfl ?_
    refine r_callVi C [.int p2] [] (b := 0) (by decide) fM_0 rfl rfl zc_X6_83 zB_X6_isPost ⟨rfl, rfl, by decide, by decide⟩ (fun out h => c_X6_isPost C.2.2.2.2.2.2.2.1  h) rfl rfl (Nat.le_of_ble_eq_true rfl) dX6_far_10 h (fun x4 σ3 h => ?_)
    refine r_if_ne (tgt := 18) C dX6_far_13 (by decide) h (fun h => ?_) (fun h => ?_)
    · refine r_aload_n (x := (a 0)) C dX6_far_18 rfl ?_
      refine r_callVv C [] [] (b := 0) (by decide) fM_0 rfl rfl zc_X6_146 zB_X6_findFars ⟨rfl, rfl, by decide, by decide⟩ (fun out h => c_X6_findFars C.2.2.2.2.2.2.2.1  h) rfl rfl (Nat.le_of_ble_eq_true rfl) dX6_far_19 h (fun σ5 h => ?_)
      refine r_aload_n (x := (a 0)) C dX6_far_22 rfl ?_
      refine gf_X6_37 C dX6_far_23 ?_
      refine r_bipush (v := 8) C dX6_far_26 (by decide) ?_
      refine r_iload_n (x := p1) C dX6_far_28 rfl ?_
      refine r_imul C dX6_far_29 ?_
      refine r_iload_n (x := p2) C dX6_far_30 rfl ?_
      refine r_iadd C dX6_far_31 ?_
      refine r_iald (t0 := 0) C 10 aM_10 rfl dX6_far_32 h (fun x6 h => ?_)
      exact r_iret C dX6_far_33 h
    · refine r_iconst (v := -1) C dX6_far_16 (by decide) ?_
      exact r_iret C dX6_far_17 h
/-! VineRowsModel.way -/
abbrev rm_X6_way : Room := { frames := 2, cells := 0, slots := 0, locals := 47 }
def B_X6_way_107 (p1 : Int32) (p2 : Int32) (p3 : Int32) (K60 : (Int32 → Int32 → zSt → Option (Int32 × zSt))) (v4 : Int32) (v5 : Int32) (σ : zSt) : Option (Int32 × zSt) := znm (v5 + (1 : Int32)) (fun x12 => K60 v4 x12 σ)
def B_X6_way_60 (p1 : Int32) (p2 : Int32) (p3 : Int32) (K60 : (Int32 → Int32 → zSt → Option (Int32 × zSt))) (v4 : Int32) (v5 : Int32) (σ : zSt) : Option (Int32 × zSt) := znm (σ 0 5) (fun x9 => (if x9 ≤ v5 then some ((-9 : Int32), σ) else zga (σ 10) (((8 : Int32) * p1) + v5) 64 (fun x10 => (if x10 = p3 then zga (σ 10) (((8 : Int32) * v5) + p2) 64 (fun x11 => (if x11 = (v4 - p3) then some (v5, σ) else B_X6_way_107 p1 p2 p3 K60 v4 v5 σ)) else B_X6_way_107 p1 p2 p3 K60 v4 v5 σ))))
def L_X6_way_60 (p1 : Int32) (p2 : Int32) (p3 : Int32) (v4 : Int32) (v5 : Int32) (σ : zSt) : Option (Int32 × zSt) := zloop (fun (rec : Int32 × Int32 × zSt → Option (Int32 × zSt)) x => B_X6_way_60 p1 p2 p3  (fun v4 v5 σ => rec (v4, v5, σ)) x.1 x.2.1 x.2.2) zFU (v4, v5, σ)
def M_X6_way (p1 : Int32) (p2 : Int32) (p3 : Int32) (σ : zSt) : Option (Int32 × zSt) := zbd (M_X6_isPost p1 σ) (fun x2 σ1 => (if x2 = 0 then some ((-1 : Int32), σ1) else zbd (M_X6_isPost p2 σ1) (fun x4 σ3 => (if x4 = 0 then some ((-1 : Int32), σ3) else zbd (M_X6_within p3 (0 : Int32) (7 : Int32) σ3) (fun x6 σ5 => (if x6 = 0 then some ((-2 : Int32), σ5) else zbv (M_X6_findFars σ5) (fun σ7 => zga (σ7 10) (((8 : Int32) * p1) + p2) 64 (fun x8 => (if p3 ≤ x8 then L_X6_way_60 p1 p2 p3 x8 (0 : Int32) σ7 else some ((-9 : Int32), σ7))))))))))
set_option maxRecDepth 20000 in
theorem tB_X6_way_107 {p : Program} {l : Launch} {e : Env} {s : State} {m : MethodId} {args : Array Value} {below : List Frame} {meth : Method} {c : Code} {D : va_G} {a : Nat → Nat} {cI cO cA : ClassId} {o : Int32 × zSt} (C : zC p s m args meth c D (ztys cI cO cA) 21 a cX6_way 6 RX6 (some .int)) {p1 : Int32} {p2 : Int32} {p3 : Int32} {K60 : (Int32 → Int32 → zSt → Option (Int32 × zSt))} (hK60 : ∀ (v4 : Int32) (v5 : Int32) (σ : zSt), K60 v4 v5 σ = some o → zV p l e rm_X6_way s m args below meth c D 21 a (fM a cI) 6 (zQi below args s D 21 a (fM a cI) o) σ 60 [some (.ref (a 0)), some (.int p1), some (.int p2), some (.int p3), some (.int v4), some (.int v5)] []) (v4 : Int32) (v5 : Int32) (σ : zSt) (h : B_X6_way_107 p1 p2 p3 K60 v4 v5 σ = some o) : zV p l e rm_X6_way s m args below meth c D 21 a (fM a cI) 6 (zQi below args s D 21 a (fM a cI) o) σ 107 [some (.ref (a 0)), some (.int p1), some (.int p2), some (.int p3), some (.int v4), some (.int v5)] [] := by
  unfold B_X6_way_107 at h
  refine r_gen h (fun x12 ex12 h => ?_)
  refine r_iinc (x := v5) (v := x12) (lv' := [some (.ref (a 0)), some (.int p1), some (.int p2), some (.int p3), some (.int v4), some (.int x12)]) C dX6_way_107 rfl (by rw [← ex12]; rfl) (by decide) rfl rfl ?_
  clear ex12
  refine r_goto (tgt := 60) C dX6_way_110 (by decide) ?_
  exact r_le (lv' := [some (.ref (a 0)), some (.int p1), some (.int p2), some (.int p3), some (.int v4), some (.int x12)]) ⟨rfl, rfl, rfl, rfl, rfl, rfl, trivial⟩ (hK60 v4 x12 σ h)
set_option maxRecDepth 20000 in
theorem tB_X6_way_60 {p : Program} {l : Launch} {e : Env} {s : State} {m : MethodId} {args : Array Value} {below : List Frame} {meth : Method} {c : Code} {D : va_G} {a : Nat → Nat} {cI cO cA : ClassId} {o : Int32 × zSt} (C : zC p s m args meth c D (ztys cI cO cA) 21 a cX6_way 6 RX6 (some .int)) {p1 : Int32} {p2 : Int32} {p3 : Int32} {K60 : (Int32 → Int32 → zSt → Option (Int32 × zSt))} (hK60 : ∀ (v4 : Int32) (v5 : Int32) (σ : zSt), K60 v4 v5 σ = some o → zV p l e rm_X6_way s m args below meth c D 21 a (fM a cI) 6 (zQi below args s D 21 a (fM a cI) o) σ 60 [some (.ref (a 0)), some (.int p1), some (.int p2), some (.int p3), some (.int v4), some (.int v5)] []) (v4 : Int32) (v5 : Int32) (σ : zSt) (h : B_X6_way_60 p1 p2 p3 K60 v4 v5 σ = some o) : zV p l e rm_X6_way s m args below meth c D 21 a (fM a cI) 6 (zQi below args s D 21 a (fM a cI) o) σ 60 [some (.ref (a 0)), some (.int p1), some (.int p2), some (.int p3), some (.int v4), some (.int v5)] [] := by
  unfold B_X6_way_60 at h
  refine r_iload (x := v5) C dX6_way_60 rfl ?_
  refine r_aload_n (x := (a 0)) C dX6_way_62 rfl ?_
  refine gf_X6_80 C dX6_way_63 h (fun x9 h => ?_)
  refine r_icmp_ge (tgt := 113) C dX6_way_66 (by decide) h (fun h => ?_) (fun h => ?_)
  · refine r_bipush (v := -9) C dX6_way_113 (by decide) ?_
    exact r_iret C dX6_way_115 h
  · refine r_aload_n (x := (a 0)) C dX6_way_69 rfl ?_
    refine gf_X6_37 C dX6_way_70 ?_
    refine r_bipush (v := 8) C dX6_way_73 (by decide) ?_
    refine r_iload_n (x := p1) C dX6_way_75 rfl ?_
    refine r_imul C dX6_way_76 ?_
    refine r_iload (x := v5) C dX6_way_77 rfl ?_
    refine r_iadd C dX6_way_79 ?_
    refine r_iald (t0 := 0) C 10 aM_10 rfl dX6_way_80 h (fun x10 h => ?_)
    refine r_iload_n (x := p3) C dX6_way_81 rfl ?_
    refine r_icmp_ne (tgt := 107) C dX6_way_82 (by decide) h (fun h => ?_) (fun h => ?_)
    · exact r_le (lv' := [some (.ref (a 0)), some (.int p1), some (.int p2), some (.int p3), some (.int v4), some (.int v5)]) ⟨rfl, rfl, rfl, rfl, rfl, rfl, trivial⟩ (tB_X6_way_107 C (K60 := K60) hK60 v4 v5 σ h)
    · refine r_aload_n (x := (a 0)) C dX6_way_85 rfl ?_
      refine gf_X6_37 C dX6_way_86 ?_
      refine r_bipush (v := 8) C dX6_way_89 (by decide) ?_
      refine r_iload (x := v5) C dX6_way_91 rfl ?_
      refine r_imul C dX6_way_93 ?_
      refine r_iload_n (x := p2) C dX6_way_94 rfl ?_
      refine r_iadd C dX6_way_95 ?_
      refine r_iald (t0 := 0) C 10 aM_10 rfl dX6_way_96 h (fun x11 h => ?_)
      refine r_iload (x := v4) C dX6_way_97 rfl ?_
      refine r_iload_n (x := p3) C dX6_way_99 rfl ?_
      refine r_isub C dX6_way_100 ?_
      refine r_icmp_ne (tgt := 107) C dX6_way_101 (by decide) h (fun h => ?_) (fun h => ?_)
      · exact r_le (lv' := [some (.ref (a 0)), some (.int p1), some (.int p2), some (.int p3), some (.int v4), some (.int v5)]) ⟨rfl, rfl, rfl, rfl, rfl, rfl, trivial⟩ (tB_X6_way_107 C (K60 := K60) hK60 v4 v5 σ h)
      · refine r_iload (x := v5) C dX6_way_104 rfl ?_
        exact r_iret C dX6_way_106 h
set_option maxRecDepth 20000 in
theorem tL_X6_way_60 {p : Program} {l : Launch} {e : Env} {s : State} {m : MethodId} {args : Array Value} {below : List Frame} {meth : Method} {c : Code} {D : va_G} {a : Nat → Nat} {cI cO cA : ClassId} {o : Int32 × zSt} (C : zC p s m args meth c D (ztys cI cO cA) 21 a cX6_way 6 RX6 (some .int)) {p1 : Int32} {p2 : Int32} {p3 : Int32}  (v4 : Int32) (v5 : Int32) (σ : zSt) (h : L_X6_way_60 p1 p2 p3  v4 v5 σ = some o) : zV p l e rm_X6_way s m args below meth c D 21 a (fM a cI) 6 (zQi below args s D 21 a (fM a cI) o) σ 60 [some (.ref (a 0)), some (.int p1), some (.int p2), some (.int p3), some (.int v4), some (.int v5)] [] := by
  unfold L_X6_way_60 at h
  refine zloop_ind (G := fun x => zV p l e rm_X6_way s m args below meth c D 21 a (fM a cI) 6 (zQi below args s D 21 a (fM a cI) o) x.2.2 60 [some (.ref (a 0)), some (.int p1), some (.int p2), some (.int p3), some (.int x.1), some (.int x.2.1)] []) ?_ zFU _ h
  intro rec hr x h
  exact tB_X6_way_60 C   (fun v4 v5 σ => hr (v4, v5, σ)) _ _ _ h
set_option maxRecDepth 20000 in
theorem c_X6_way {l : Launch} {D : va_G} {a : Nat → Nat} {cI cO cA : ClassId} (hinj : ∀ i j, i < 21 → j < 21 → a i = a j → i = j) {p1 : Int32} {p2 : Int32} {p3 : Int32} {σ : zSt} {o : Int32 × zSt} (h : M_X6_way p1 p2 p3 σ = some o) : zMi l D (ztys cI cO cA) 21 a (fM a cI) yX6_way cX6_way 6 (some .int) rm_X6_way [.ref (a 0), .int p1, .int p2, .int p3] σ o := by
  unfold M_X6_way at h
  refine zmeti (own := RX6) [some (.ref (a 0)), some (.int p1), some (.int p2), some (.int p3), none, none] (by decide) rfl hinj (Nat.le_of_ble_eq_true rfl) rfl (fun p e s m args below meth c C => ?_)
  refine r_aload_n (x := (a 0)) C dX6_way_0 rfl ?_
  refine r_iload_n (x := p1) C dX6_way_1 rfl ?_
  refine r_callVi C [.int p1] [] (b := 0) (by decide) fM_0 rfl rfl zc_X6_83 zB_X6_isPost ⟨rfl, rfl, by decide, by decide⟩ (fun out h => c_X6_isPost C.2.2.2.2.2.2.2.1  h) rfl rfl (Nat.le_of_ble_eq_true rfl) dX6_way_2 h (fun x2 σ1 h => ?_)
  refine r_if_eq (tgt := 16) C dX6_way_5 (by decide) h (fun h => ?_) (fun h => ?_)
  · refine r_iconst (v := -1) C dX6_way_16 (by decide) ?_
    exact r_iret C dX6_way_17 h
  · refine r_aload_n (x := (a 0)) C dX6_way_8 rfl ?_
    refine r_iload_n (x := p2) C dX6_way_9 rfl ?_
    refine r_callVi C [.int p2] [] (b := 0) (by decide) fM_0 rfl rfl zc_X6_83 zB_X6_isPost ⟨rfl, rfl, by decide, by decide⟩ (fun out h => c_X6_isPost C.2.2.2.2.2.2.2.1  h) rfl rfl (Nat.le_of_ble_eq_true rfl) dX6_way_10 h (fun x4 σ3 h => ?_)
    refine r_if_ne (tgt := 18) C dX6_way_13 (by decide) h (fun h => ?_) (fun h => ?_)
    · refine r_iload_n (x := p3) C dX6_way_18 rfl ?_
      refine r_iconst (v := 0) C dX6_way_19 (by decide) ?_
      refine r_bipush (v := 7) C dX6_way_20 (by decide) ?_
      refine r_callSi C [.int p3, .int (0 : Int32), .int (7 : Int32)] [] zc_X6_76 zB_X6_within ⟨rfl, rfl, by decide, by decide⟩ (fun out h => c_X6_within C.2.2.2.2.2.2.2.1  h) rfl rfl (Nat.le_of_ble_eq_true rfl) dX6_way_22 h (fun x6 σ5 h => ?_)
      refine r_if_ne (tgt := 31) C dX6_way_25 (by decide) h (fun h => ?_) (fun h => ?_)
      · refine r_aload_n (x := (a 0)) C dX6_way_31 rfl ?_
        refine r_callVv C [] [] (b := 0) (by decide) fM_0 rfl rfl zc_X6_146 zB_X6_findFars ⟨rfl, rfl, by decide, by decide⟩ (fun out h => c_X6_findFars C.2.2.2.2.2.2.2.1  h) rfl rfl (Nat.le_of_ble_eq_true rfl) dX6_way_32 h (fun σ7 h => ?_)
        refine r_aload_n (x := (a 0)) C dX6_way_35 rfl ?_
        refine gf_X6_37 C dX6_way_36 ?_
        refine r_bipush (v := 8) C dX6_way_39 (by decide) ?_
        refine r_iload_n (x := p1) C dX6_way_41 rfl ?_
        refine r_imul C dX6_way_42 ?_
        refine r_iload_n (x := p2) C dX6_way_43 rfl ?_
        refine r_iadd C dX6_way_44 ?_
        refine r_iald (t0 := 0) C 10 aM_10 rfl dX6_way_45 h (fun x8 h => ?_)
        refine r_istore (lv' := [some (.ref (a 0)), some (.int p1), some (.int p2), some (.int p3), some (.int x8), none]) C dX6_way_46 (by decide) rfl rfl ?_
        refine r_iload_n (x := p3) C dX6_way_48 rfl ?_
        refine r_iload (x := x8) C dX6_way_49 rfl ?_
        refine r_icmp_le (tgt := 57) C dX6_way_51 (by decide) h (fun h => ?_) (fun h => ?_)
        · refine r_iconst (v := 0) C dX6_way_57 (by decide) ?_
          refine r_istore (lv' := [some (.ref (a 0)), some (.int p1), some (.int p2), some (.int p3), some (.int x8), some (.int (0 : Int32))]) C dX6_way_58 (by decide) rfl rfl ?_
          exact r_le (lv' := [some (.ref (a 0)), some (.int p1), some (.int p2), some (.int p3), some (.int x8), some (.int (0 : Int32))]) ⟨rfl, rfl, rfl, rfl, rfl, rfl, trivial⟩ (tL_X6_way_60 C x8 (0 : Int32) σ7 h)
        · refine r_bipush (v := -9) C dX6_way_54 (by decide) ?_
          exact r_iret C dX6_way_56 h
      · refine r_bipush (v := -2) C dX6_way_28 (by decide) ?_
        exact r_iret C dX6_way_30 h
    · refine r_iconst (v := -1) C dX6_way_16 (by decide) ?_
      exact r_iret C dX6_way_17 h
/-! VineRowsModel.middle -/
abbrev rm_X6_middle : Room := { frames := 2, cells := 0, slots := 0, locals := 47 }
def B_X6_middle_103 (p1 : Int32) (K44 : (Int32 → Int32 → Int32 → zSt → Option (Int32 × zSt))) (v3 : Int32) (v4 : Int32) (s0 : Int32) (σ : zSt) : Option (Int32 × zSt) := znm (v4 + (1 : Int32)) (fun x10 => K44 s0 v3 x10 σ)
def B_X6_middle_90 (p1 : Int32) (K44 : (Int32 → Int32 → Int32 → zSt → Option (Int32 × zSt))) (v2 : Int32) (v4 : Int32) (v5 : Int32) (s0 : Int32) (σ : zSt) : Option (Int32 × zSt) := (if v2 ≤ v5 then B_X6_middle_103 p1 K44 s0 v4 v2 σ else B_X6_middle_103 p1 K44 s0 v4 v5 σ)
def B_X6_middle_44 (p1 : Int32) (K44 : (Int32 → Int32 → Int32 → zSt → Option (Int32 × zSt))) (v2 : Int32) (v3 : Int32) (v4 : Int32) (σ : zSt) : Option (Int32 × zSt) := znm (σ 0 5) (fun x7 => (if x7 ≤ v4 then some (v3, σ) else zbd (M_X6_farthestFrom v4 σ) (fun x9 σ8 => (if v2 ≤ x9 then (if x9 = v2 then B_X6_middle_90 p1 K44 v2 v4 x9 (v3 ||| (zon v4)) σ8 else B_X6_middle_90 p1 K44 v2 v4 x9 v3 σ8) else B_X6_middle_90 p1 K44 v2 v4 x9 (zon v4) σ8))))
def L_X6_middle_44 (p1 : Int32) (v2 : Int32) (v3 : Int32) (v4 : Int32) (σ : zSt) : Option (Int32 × zSt) := zloop (fun (rec : Int32 × Int32 × Int32 × zSt → Option (Int32 × zSt)) x => B_X6_middle_44 p1  (fun v2 v3 v4 σ => rec (v2, v3, v4, σ)) x.1 x.2.1 x.2.2.1 x.2.2.2) zFU (v2, v3, v4, σ)
def M_X6_middle (p1 : Int32) (σ : zSt) : Option (Int32 × zSt) := zbd (M_X6_within p1 (0 : Int32) (1 : Int32) σ) (fun x2 σ1 => (if x2 = 0 then some ((-2 : Int32), σ1) else znm (σ1 0 5) (fun x3 => (if x3 = 0 then some ((-3 : Int32), σ1) else zbv (M_X6_findFars σ1) (fun σ4 => (if p1 = (1 : Int32) then zbd (M_X6_longest σ4) (fun x6 σ5 => some (x6, σ5)) else L_X6_middle_44 p1 (8 : Int32) (0 : Int32) (0 : Int32) σ4))))))
set_option maxRecDepth 20000 in
theorem tB_X6_middle_103 {p : Program} {l : Launch} {e : Env} {s : State} {m : MethodId} {args : Array Value} {below : List Frame} {meth : Method} {c : Code} {D : va_G} {a : Nat → Nat} {cI cO cA : ClassId} {o : Int32 × zSt} (C : zC p s m args meth c D (ztys cI cO cA) 21 a cX6_middle 6 RX6 (some .int)) {p1 : Int32} {K44 : (Int32 → Int32 → Int32 → zSt → Option (Int32 × zSt))} (hK44 : ∀ (v2 : Int32) (v3 : Int32) (v4 : Int32) (σ : zSt), K44 v2 v3 v4 σ = some o → zV p l e rm_X6_middle s m args below meth c D 21 a (fM a cI) 6 (zQi below args s D 21 a (fM a cI) o) σ 44 [some (.ref (a 0)), none, some (.int v2), some (.int v3), some (.int v4), none] []) (v3 : Int32) (v4 : Int32) (s0 : Int32) (σ : zSt) (h : B_X6_middle_103 p1 K44 v3 v4 s0 σ = some o) : zV p l e rm_X6_middle s m args below meth c D 21 a (fM a cI) 6 (zQi below args s D 21 a (fM a cI) o) σ 103 [some (.ref (a 0)), none, none, some (.int v3), some (.int v4), none] [.int s0] := by
  unfold B_X6_middle_103 at h
  refine r_istore_n (lv' := [some (.ref (a 0)), none, some (.int s0), some (.int v3), some (.int v4), none]) C dX6_middle_103 (by decide) rfl rfl ?_
  refine r_gen h (fun x10 ex10 h => ?_)
  refine r_iinc (x := v4) (v := x10) (lv' := [some (.ref (a 0)), none, some (.int s0), some (.int v3), some (.int x10), none]) C dX6_middle_104 rfl (by rw [← ex10]; rfl) (by decide) rfl rfl ?_
  clear ex10
  refine r_goto (tgt := 44) C dX6_middle_107 (by decide) ?_
  exact r_le (lv' := [some (.ref (a 0)), none, some (.int s0), some (.int v3), some (.int x10), none]) ⟨rfl, rfl, rfl, rfl, trivial⟩ (hK44 s0 v3 x10 σ h)
set_option maxRecDepth 20000 in
theorem tB_X6_middle_90 {p : Program} {l : Launch} {e : Env} {s : State} {m : MethodId} {args : Array Value} {below : List Frame} {meth : Method} {c : Code} {D : va_G} {a : Nat → Nat} {cI cO cA : ClassId} {o : Int32 × zSt} (C : zC p s m args meth c D (ztys cI cO cA) 21 a cX6_middle 6 RX6 (some .int)) {p1 : Int32} {K44 : (Int32 → Int32 → Int32 → zSt → Option (Int32 × zSt))} (hK44 : ∀ (v2 : Int32) (v3 : Int32) (v4 : Int32) (σ : zSt), K44 v2 v3 v4 σ = some o → zV p l e rm_X6_middle s m args below meth c D 21 a (fM a cI) 6 (zQi below args s D 21 a (fM a cI) o) σ 44 [some (.ref (a 0)), none, some (.int v2), some (.int v3), some (.int v4), none] []) (v2 : Int32) (v4 : Int32) (v5 : Int32) (s0 : Int32) (σ : zSt) (h : B_X6_middle_90 p1 K44 v2 v4 v5 s0 σ = some o) : zV p l e rm_X6_middle s m args below meth c D 21 a (fM a cI) 6 (zQi below args s D 21 a (fM a cI) o) σ 90 [some (.ref (a 0)), none, some (.int v2), none, some (.int v4), some (.int v5)] [.int s0] := by
  unfold B_X6_middle_90 at h
  refine r_istore_n (lv' := [some (.ref (a 0)), none, some (.int v2), some (.int s0), some (.int v4), some (.int v5)]) C dX6_middle_90 (by decide) rfl rfl ?_
  refine r_iload (x := v5) C dX6_middle_91 rfl ?_
  refine r_iload_n (x := v2) C dX6_middle_93 rfl ?_
  refine r_icmp_ge (tgt := 102) C dX6_middle_94 (by decide) h (fun h => ?_) (fun h => ?_)
  · refine r_iload_n (x := v2) C dX6_middle_102 rfl ?_
    exact r_le (lv' := [some (.ref (a 0)), none, none, some (.int s0), some (.int v4), none]) ⟨rfl, rfl, rfl, trivial⟩ (tB_X6_middle_103 C (K44 := K44) hK44 s0 v4 v2 σ h)
  · refine r_iload (x := v5) C dX6_middle_97 rfl ?_
    refine r_goto (tgt := 103) C dX6_middle_99 (by decide) ?_
    exact r_le (lv' := [some (.ref (a 0)), none, none, some (.int s0), some (.int v4), none]) ⟨rfl, rfl, rfl, trivial⟩ (tB_X6_middle_103 C (K44 := K44) hK44 s0 v4 v5 σ h)
set_option maxRecDepth 20000 in
theorem tB_X6_middle_44 {p : Program} {l : Launch} {e : Env} {s : State} {m : MethodId} {args : Array Value} {below : List Frame} {meth : Method} {c : Code} {D : va_G} {a : Nat → Nat} {cI cO cA : ClassId} {o : Int32 × zSt} (C : zC p s m args meth c D (ztys cI cO cA) 21 a cX6_middle 6 RX6 (some .int)) {p1 : Int32} {K44 : (Int32 → Int32 → Int32 → zSt → Option (Int32 × zSt))} (hK44 : ∀ (v2 : Int32) (v3 : Int32) (v4 : Int32) (σ : zSt), K44 v2 v3 v4 σ = some o → zV p l e rm_X6_middle s m args below meth c D 21 a (fM a cI) 6 (zQi below args s D 21 a (fM a cI) o) σ 44 [some (.ref (a 0)), none, some (.int v2), some (.int v3), some (.int v4), none] []) (v2 : Int32) (v3 : Int32) (v4 : Int32) (σ : zSt) (h : B_X6_middle_44 p1 K44 v2 v3 v4 σ = some o) : zV p l e rm_X6_middle s m args below meth c D 21 a (fM a cI) 6 (zQi below args s D 21 a (fM a cI) o) σ 44 [some (.ref (a 0)), none, some (.int v2), some (.int v3), some (.int v4), none] [] := by
  unfold B_X6_middle_44 at h
  refine r_iload (x := v4) C dX6_middle_44 rfl ?_
  refine r_aload_n (x := (a 0)) C dX6_middle_46 rfl ?_
  refine gf_X6_80 C dX6_middle_47 h (fun x7 h => ?_)
  refine r_icmp_ge (tgt := 110) C dX6_middle_50 (by decide) h (fun h => ?_) (fun h => ?_)
  · refine r_iload_n (x := v3) C dX6_middle_110 rfl ?_
    exact r_iret C dX6_middle_111 h
  · refine r_aload_n (x := (a 0)) C dX6_middle_53 rfl ?_
    refine r_iload (x := v4) C dX6_middle_54 rfl ?_
    refine r_callVi C [.int v4] [] (b := 0) (by decide) fM_0 rfl rfl zc_X6_143 zB_X6_farthestFrom ⟨rfl, rfl, by decide, by decide⟩ (fun out h => c_X6_farthestFrom C.2.2.2.2.2.2.2.1  h) rfl rfl (Nat.le_of_ble_eq_true rfl) dX6_middle_56 h (fun x9 σ8 h => ?_)
    refine r_istore (lv' := [some (.ref (a 0)), none, some (.int v2), some (.int v3), some (.int v4), some (.int x9)]) C dX6_middle_59 (by decide) rfl rfl ?_
    refine r_iload (x := x9) C dX6_middle_61 rfl ?_
    refine r_iload_n (x := v2) C dX6_middle_63 rfl ?_
    refine r_icmp_ge (tgt := 74) C dX6_middle_64 (by decide) h (fun h => ?_) (fun h => ?_)
    · refine r_iload (x := x9) C dX6_middle_74 rfl ?_
      refine r_iload_n (x := v2) C dX6_middle_76 rfl ?_
      refine r_icmp_ne (tgt := 89) C dX6_middle_77 (by decide) h (fun h => ?_) (fun h => ?_)
      · refine r_iload_n (x := v3) C dX6_middle_89 rfl ?_
        exact r_le (lv' := [some (.ref (a 0)), none, some (.int v2), none, some (.int v4), some (.int x9)]) ⟨rfl, rfl, rfl, rfl, trivial⟩ (tB_X6_middle_90 C (K44 := K44) hK44 v2 v4 x9 v3 σ8 h)
      · refine r_iload_n (x := v3) C dX6_middle_80 rfl ?_
        refine r_iconst (v := 1) C dX6_middle_81 (by decide) ?_
        refine r_iload (x := v4) C dX6_middle_82 rfl ?_
        refine r_ishl C dX6_middle_84 ?_
        refine r_ior C dX6_middle_85 ?_
        refine r_goto (tgt := 90) C dX6_middle_86 (by decide) ?_
        exact r_le (lv' := [some (.ref (a 0)), none, some (.int v2), none, some (.int v4), some (.int x9)]) ⟨rfl, rfl, rfl, rfl, trivial⟩ (tB_X6_middle_90 C (K44 := K44) hK44 v2 v4 x9 (v3 ||| (zon v4)) σ8 h)
    · refine r_iconst (v := 1) C dX6_middle_67 (by decide) ?_
      refine r_iload (x := v4) C dX6_middle_68 rfl ?_
      refine r_ishl C dX6_middle_70 ?_
      refine r_goto (tgt := 90) C dX6_middle_71 (by decide) ?_
      exact r_le (lv' := [some (.ref (a 0)), none, some (.int v2), none, some (.int v4), some (.int x9)]) ⟨rfl, rfl, rfl, rfl, trivial⟩ (tB_X6_middle_90 C (K44 := K44) hK44 v2 v4 x9 (zon v4) σ8 h)
set_option maxRecDepth 20000 in
theorem tL_X6_middle_44 {p : Program} {l : Launch} {e : Env} {s : State} {m : MethodId} {args : Array Value} {below : List Frame} {meth : Method} {c : Code} {D : va_G} {a : Nat → Nat} {cI cO cA : ClassId} {o : Int32 × zSt} (C : zC p s m args meth c D (ztys cI cO cA) 21 a cX6_middle 6 RX6 (some .int)) {p1 : Int32}  (v2 : Int32) (v3 : Int32) (v4 : Int32) (σ : zSt) (h : L_X6_middle_44 p1  v2 v3 v4 σ = some o) : zV p l e rm_X6_middle s m args below meth c D 21 a (fM a cI) 6 (zQi below args s D 21 a (fM a cI) o) σ 44 [some (.ref (a 0)), none, some (.int v2), some (.int v3), some (.int v4), none] [] := by
  unfold L_X6_middle_44 at h
  refine zloop_ind (G := fun x => zV p l e rm_X6_middle s m args below meth c D 21 a (fM a cI) 6 (zQi below args s D 21 a (fM a cI) o) x.2.2.2 44 [some (.ref (a 0)), none, some (.int x.1), some (.int x.2.1), some (.int x.2.2.1), none] []) ?_ zFU _ h
  intro rec hr x h
  exact tB_X6_middle_44 C   (fun v2 v3 v4 σ => hr (v2, v3, v4, σ)) _ _ _ _ h
set_option maxRecDepth 20000 in
theorem c_X6_middle {l : Launch} {D : va_G} {a : Nat → Nat} {cI cO cA : ClassId} (hinj : ∀ i j, i < 21 → j < 21 → a i = a j → i = j) {p1 : Int32} {σ : zSt} {o : Int32 × zSt} (h : M_X6_middle p1 σ = some o) : zMi l D (ztys cI cO cA) 21 a (fM a cI) yX6_middle cX6_middle 6 (some .int) rm_X6_middle [.ref (a 0), .int p1] σ o := by
  unfold M_X6_middle at h
  refine zmeti (own := RX6) [some (.ref (a 0)), some (.int p1), none, none, none, none] (by decide) rfl hinj (Nat.le_of_ble_eq_true rfl) rfl (fun p e s m args below meth c C => ?_)
  refine r_iload_n (x := p1) C dX6_middle_0 rfl ?_
  refine r_iconst (v := 0) C dX6_middle_1 (by decide) ?_
  refine r_iconst (v := 1) C dX6_middle_2 (by decide) ?_
  refine r_callSi C [.int p1, .int (0 : Int32), .int (1 : Int32)] [] zc_X6_76 zB_X6_within ⟨rfl, rfl, by decide, by decide⟩ (fun out h => c_X6_within C.2.2.2.2.2.2.2.1  h) rfl rfl (Nat.le_of_ble_eq_true rfl) dX6_middle_3 h (fun x2 σ1 h => ?_)
  refine r_if_ne (tgt := 12) C dX6_middle_6 (by decide) h (fun h => ?_) (fun h => ?_)
  · refine r_aload_n (x := (a 0)) C dX6_middle_12 rfl ?_
    refine gf_X6_80 C dX6_middle_13 h (fun x3 h => ?_)
    refine r_if_ne (tgt := 22) C dX6_middle_16 (by decide) h (fun h => ?_) (fun h => ?_)
    · refine r_aload_n (x := (a 0)) C dX6_middle_22 rfl ?_
      refine r_callVv C [] [] (b := 0) (by decide) fM_0 rfl rfl zc_X6_146 zB_X6_findFars ⟨rfl, rfl, by decide, by decide⟩ (fun out h => c_X6_findFars C.2.2.2.2.2.2.2.1  h) rfl rfl (Nat.le_of_ble_eq_true rfl) dX6_middle_23 h (fun σ4 h => ?_)
      refine r_iload_n (x := p1) C dX6_middle_26 rfl ?_
      refine r_iconst (v := 1) C dX6_middle_27 (by decide) ?_
      refine r_icmp_ne (tgt := 36) C dX6_middle_28 (by decide) h (fun h => ?_) (fun h => ?_)
      · refine r_bipush (v := 8) C dX6_middle_36 (by decide) ?_
        refine r_istore_n (lv' := [some (.ref (a 0)), some (.int p1), some (.int (8 : Int32)), none, none, none]) C dX6_middle_38 (by decide) rfl rfl ?_
        refine r_iconst (v := 0) C dX6_middle_39 (by decide) ?_
        refine r_istore_n (lv' := [some (.ref (a 0)), some (.int p1), some (.int (8 : Int32)), some (.int (0 : Int32)), none, none]) C dX6_middle_40 (by decide) rfl rfl ?_
        refine r_iconst (v := 0) C dX6_middle_41 (by decide) ?_
        refine r_istore (lv' := [some (.ref (a 0)), some (.int p1), some (.int (8 : Int32)), some (.int (0 : Int32)), some (.int (0 : Int32)), none]) C dX6_middle_42 (by decide) rfl rfl ?_
        exact r_le (lv' := [some (.ref (a 0)), none, some (.int (8 : Int32)), some (.int (0 : Int32)), some (.int (0 : Int32)), none]) ⟨rfl, rfl, rfl, rfl, trivial⟩ (tL_X6_middle_44 C (8 : Int32) (0 : Int32) (0 : Int32) σ4 h)
      · refine r_aload_n (x := (a 0)) C dX6_middle_31 rfl ?_
        refine r_callVi C [] [] (b := 0) (by decide) fM_0 rfl rfl zc_X6_171 zB_X6_longest ⟨rfl, rfl, by decide, by decide⟩ (fun out h => c_X6_longest C.2.2.2.2.2.2.2.1  h) rfl rfl (Nat.le_of_ble_eq_true rfl) dX6_middle_32 h (fun x6 σ5 h => ?_)
        exact r_iret C dX6_middle_35 h
    · refine r_bipush (v := -3) C dX6_middle_19 (by decide) ?_
      exact r_iret C dX6_middle_21 h
  · refine r_bipush (v := -2) C dX6_middle_9 (by decide) ?_
    exact r_iret C dX6_middle_11 h
/-! VineRowsModel.number -/
abbrev rm_X6_number : Room := { frames := 4, cells := 0, slots := 0, locals := 86 }
def M_X6_number (σ : zSt) : Option (Int32 × zSt) := znm (σ 0 5) (fun x1 => (if x1 = 0 then some ((-3 : Int32), σ) else zbd (M_X6_numberOf σ) (fun x3 σ2 => some (x3, σ2))))
set_option maxRecDepth 20000 in
theorem c_X6_number {l : Launch} {D : va_G} {a : Nat → Nat} {cI cO cA : ClassId} (hinj : ∀ i j, i < 21 → j < 21 → a i = a j → i = j) {σ : zSt} {o : Int32 × zSt} (h : M_X6_number  σ = some o) : zMi l D (ztys cI cO cA) 21 a (fM a cI) yX6_number cX6_number 1 (some .int) rm_X6_number [.ref (a 0)] σ o := by
  unfold M_X6_number at h
  refine zmeti (own := RX6) [some (.ref (a 0))] (by decide) rfl hinj (Nat.le_of_ble_eq_true rfl) rfl (fun p e s m args below meth c C => ?_)
  refine r_aload_n (x := (a 0)) C dX6_number_0 rfl ?_
  refine gf_X6_80 C dX6_number_1 h (fun x1 h => ?_)
  refine r_if_ne (tgt := 12) C dX6_number_4 (by decide) h (fun h => ?_) (fun h => ?_)
  · refine r_aload_n (x := (a 0)) C dX6_number_12 rfl ?_
    refine r_callVi C [] [] (b := 0) (by decide) fM_0 rfl rfl zc_X6_175 zB_X6_numberOf ⟨rfl, rfl, by decide, by decide⟩ (fun out h => c_X6_numberOf C.2.2.2.2.2.2.2.1  h) rfl rfl (Nat.le_of_ble_eq_true rfl) dX6_number_13 h (fun x3 σ2 h => ?_)
    exact r_iret C dX6_number_16 h
  · refine r_bipush (v := -3) C dX6_number_7 (by decide) ?_
    refine r_goto (tgt := 16) C dX6_number_9 (by decide) ?_
    exact r_iret C dX6_number_16 h
/-! VineRowsModel.orders -/
abbrev rm_X6_orders : Room := { frames := 0, cells := 0, slots := 0, locals := 0 }
def B_X6_orders_4 (K4 : (Int32 → Int32 → zSt → Option (Int32 × zSt))) (v1 : Int32) (v2 : Int32) (σ : zSt) : Option (Int32 × zSt) := znm (σ 0 5) (fun x1 => (if x1 < v2 then some (v1, σ) else znm ((v1 * v2)) (fun x2 => znm (v2 + (1 : Int32)) (fun x3 => K4 x2 x3 σ))))
def L_X6_orders_4 (v1 : Int32) (v2 : Int32) (σ : zSt) : Option (Int32 × zSt) := zloop (fun (rec : Int32 × Int32 × zSt → Option (Int32 × zSt)) x => B_X6_orders_4   (fun v1 v2 σ => rec (v1, v2, σ)) x.1 x.2.1 x.2.2) zFU (v1, v2, σ)
def M_X6_orders (σ : zSt) : Option (Int32 × zSt) := L_X6_orders_4 (1 : Int32) (2 : Int32) σ
set_option maxRecDepth 20000 in
theorem tB_X6_orders_4 {p : Program} {l : Launch} {e : Env} {s : State} {m : MethodId} {args : Array Value} {below : List Frame} {meth : Method} {c : Code} {D : va_G} {a : Nat → Nat} {cI cO cA : ClassId} {o : Int32 × zSt} (C : zC p s m args meth c D (ztys cI cO cA) 21 a cX6_orders 3 RX6 (some .int)) {K4 : (Int32 → Int32 → zSt → Option (Int32 × zSt))} (hK4 : ∀ (v1 : Int32) (v2 : Int32) (σ : zSt), K4 v1 v2 σ = some o → zV p l e rm_X6_orders s m args below meth c D 21 a (fM a cI) 3 (zQi below args s D 21 a (fM a cI) o) σ 4 [some (.ref (a 0)), some (.int v1), some (.int v2)] []) (v1 : Int32) (v2 : Int32) (σ : zSt) (h : B_X6_orders_4  K4 v1 v2 σ = some o) : zV p l e rm_X6_orders s m args below meth c D 21 a (fM a cI) 3 (zQi below args s D 21 a (fM a cI) o) σ 4 [some (.ref (a 0)), some (.int v1), some (.int v2)] [] := by
  unfold B_X6_orders_4 at h
  refine r_iload_n (x := v2) C dX6_orders_4 rfl ?_
  refine r_aload_n (x := (a 0)) C dX6_orders_5 rfl ?_
  refine gf_X6_80 C dX6_orders_6 h (fun x1 h => ?_)
  refine r_icmp_gt (tgt := 22) C dX6_orders_9 (by decide) h (fun h => ?_) (fun h => ?_)
  · refine r_iload_n (x := v1) C dX6_orders_22 rfl ?_
    exact r_iret C dX6_orders_23 h
  · refine r_iload_n (x := v1) C dX6_orders_12 rfl ?_
    refine r_iload_n (x := v2) C dX6_orders_13 rfl ?_
    refine r_imul C dX6_orders_14 ?_
    refine r_nm h (fun x2 h => ?_)
    refine r_istore_n (lv' := [some (.ref (a 0)), some (.int x2), some (.int v2)]) C dX6_orders_15 (by decide) rfl rfl ?_
    refine r_gen h (fun x3 ex3 h => ?_)
    refine r_iinc (x := v2) (v := x3) (lv' := [some (.ref (a 0)), some (.int x2), some (.int x3)]) C dX6_orders_16 rfl (by rw [← ex3]; rfl) (by decide) rfl rfl ?_
    clear ex3
    refine r_goto (tgt := 4) C dX6_orders_19 (by decide) ?_
    exact r_le (lv' := [some (.ref (a 0)), some (.int x2), some (.int x3)]) ⟨rfl, rfl, rfl, trivial⟩ (hK4 x2 x3 σ h)
set_option maxRecDepth 20000 in
theorem tL_X6_orders_4 {p : Program} {l : Launch} {e : Env} {s : State} {m : MethodId} {args : Array Value} {below : List Frame} {meth : Method} {c : Code} {D : va_G} {a : Nat → Nat} {cI cO cA : ClassId} {o : Int32 × zSt} (C : zC p s m args meth c D (ztys cI cO cA) 21 a cX6_orders 3 RX6 (some .int))  (v1 : Int32) (v2 : Int32) (σ : zSt) (h : L_X6_orders_4   v1 v2 σ = some o) : zV p l e rm_X6_orders s m args below meth c D 21 a (fM a cI) 3 (zQi below args s D 21 a (fM a cI) o) σ 4 [some (.ref (a 0)), some (.int v1), some (.int v2)] [] := by
  unfold L_X6_orders_4 at h
  refine zloop_ind (G := fun x => zV p l e rm_X6_orders s m args below meth c D 21 a (fM a cI) 3 (zQi below args s D 21 a (fM a cI) o) x.2.2 4 [some (.ref (a 0)), some (.int x.1), some (.int x.2.1)] []) ?_ zFU _ h
  intro rec hr x h
  exact tB_X6_orders_4 C   (fun v1 v2 σ => hr (v1, v2, σ)) _ _ _ h
set_option maxRecDepth 20000 in
theorem c_X6_orders {l : Launch} {D : va_G} {a : Nat → Nat} {cI cO cA : ClassId} (hinj : ∀ i j, i < 21 → j < 21 → a i = a j → i = j) {σ : zSt} {o : Int32 × zSt} (h : M_X6_orders  σ = some o) : zMi l D (ztys cI cO cA) 21 a (fM a cI) yX6_orders cX6_orders 3 (some .int) rm_X6_orders [.ref (a 0)] σ o := by
  unfold M_X6_orders at h
  refine zmeti (own := RX6) [some (.ref (a 0)), none, none] (by decide) rfl hinj (Nat.le_of_ble_eq_true rfl) rfl (fun p e s m args below meth c C => ?_)
  refine r_iconst (v := 1) C dX6_orders_0 (by decide) ?_
  refine r_istore_n (lv' := [some (.ref (a 0)), some (.int (1 : Int32)), none]) C dX6_orders_1 (by decide) rfl rfl ?_
  refine r_iconst (v := 2) C dX6_orders_2 (by decide) ?_
  refine r_istore_n (lv' := [some (.ref (a 0)), some (.int (1 : Int32)), some (.int (2 : Int32))]) C dX6_orders_3 (by decide) rfl rfl ?_
  exact r_le (lv' := [some (.ref (a 0)), some (.int (1 : Int32)), some (.int (2 : Int32))]) ⟨rfl, rfl, rfl, trivial⟩ (tL_X6_orders_4 C (1 : Int32) (2 : Int32) σ h)
end
