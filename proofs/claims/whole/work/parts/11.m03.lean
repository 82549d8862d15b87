noncomputable section
/-! VineRowsModel.findNames -/
abbrev rm_X6_findNames : Room := { frames := 2, cells := 0, slots := 0, locals := 42 }
def B_X6_findNames_63 (p1 : Int32) (K14 : (Int32 → Int32 → Int32 → zSt → Option (zSt))) (K53 : (Int32 → Int32 → Int32 → Int32 → Int32 → Int32 → zSt → Option (zSt))) (K63 : (Int32 → Int32 → Int32 → Int32 → Int32 → Int32 → zSt → Option (zSt))) (v2 : Int32) (v3 : Int32) (v4 : Int32) (v5 : Int32) (v6 : Int32) (v7 : Int32) (σ : zSt) : Option (zSt) := zbd (M_X6_isOf v3 v6 σ) (fun x15 σ14 => (if x15 = 0 then znm (v6 + (1 : Int32)) (fun x17 => K63 v2 v3 v4 v5 x17 v7 σ14) else znm (v7 + (1 : Int32)) (fun x16 => K53 v2 v3 v4 v5 v6 x16 σ14)))
def L_X6_findNames_63 (p1 : Int32) (K14 : (Int32 → Int32 → Int32 → zSt → Option (zSt))) (K53 : (Int32 → Int32 → Int32 → Int32 → Int32 → Int32 → zSt → Option (zSt))) (v2 : Int32) (v3 : Int32) (v4 : Int32) (v5 : Int32) (v6 : Int32) (v7 : Int32) (σ : zSt) : Option (zSt) := zloop (fun (rec : Int32 × Int32 × Int32 × Int32 × Int32 × Int32 × zSt → Option (zSt)) x => B_X6_findNames_63 p1 K14 K53 (fun v2 v3 v4 v5 v6 v7 σ => rec (v2, v3, v4, v5, v6, v7, σ)) x.1 x.2.1 x.2.2.1 x.2.2.2.1 x.2.2.2.2.1 x.2.2.2.2.2.1 x.2.2.2.2.2.2) zFU (v2, v3, v4, v5, v6, v7, σ)
def B_X6_findNames_53 (p1 : Int32) (K14 : (Int32 → Int32 → Int32 → zSt → Option (zSt))) (K53 : (Int32 → Int32 → Int32 → Int32 → Int32 → Int32 → zSt → Option (zSt))) (v2 : Int32) (v3 : Int32) (v4 : Int32) (v5 : Int32) (v6 : Int32) (v7 : Int32) (σ : zSt) : Option (zSt) := (if v5 ≤ v7 then zgs σ 15 v4 8 v6 (fun σ10 => znm ((v3 &&& (znt (zon v6)))) (fun x11 => znm (v4 + (1 : Int32)) (fun x12 => K14 v2 x11 x12 σ10))) else znm (v6 + (1 : Int32)) (fun x13 => L_X6_findNames_63 p1 K14 K53 v2 v3 v4 v5 x13 v7 σ))
def L_X6_findNames_53 (p1 : Int32) (K14 : (Int32 → Int32 → Int32 → zSt → Option (zSt))) (v2 : Int32) (v3 : Int32) (v4 : Int32) (v5 : Int32) (v6 : Int32) (v7 : Int32) (σ : zSt) : Option (zSt) := zloop (fun (rec : Int32 × Int32 × Int32 × Int32 × Int32 × Int32 × zSt → Option (zSt)) x => B_X6_findNames_53 p1 K14 (fun v2 v3 v4 v5 v6 v7 σ => rec (v2, v3, v4, v5, v6, v7, σ)) x.1 x.2.1 x.2.2.1 x.2.2.2.1 x.2.2.2.2.1 x.2.2.2.2.2.1 x.2.2.2.2.2.2) zFU (v2, v3, v4, v5, v6, v7, σ)
def B_X6_findNames_14 (p1 : Int32) (K14 : (Int32 → Int32 → Int32 → zSt → Option (zSt))) (v2 : Int32) (v3 : Int32) (v4 : Int32) (σ : zSt) : Option (zSt) := znm (σ 0 5) (fun x3 => (if x3 ≤ v4 then some σ else znm (σ 0 5) (fun x4 => zrm v2 (x4 - v4) (fun x5 => znm (σ 0 5) (fun x6 => zdv v2 (x6 - v4) (fun x7 => zbd (M_X6_leastOf v3 σ) (fun x9 σ8 => L_X6_findNames_53 p1 K14 x7 v3 v4 x5 x9 (0 : Int32) σ8)))))))
def L_X6_findNames_14 (p1 : Int32) (v2 : Int32) (v3 : Int32) (v4 : Int32) (σ : zSt) : Option (zSt) := zloop (fun (rec : Int32 × Int32 × Int32 × zSt → Option (zSt)) x => B_X6_findNames_14 p1  (fun v2 v3 v4 σ => rec (v2, v3, v4, σ)) x.1 x.2.1 x.2.2.1 x.2.2.2) zFU (v2, v3, v4, σ)
def M_X6_findNames (p1 : Int32) (σ : zSt) : Option (zSt) := znm (σ 0 5) (fun x1 => znm (((zon x1) - (1 : Int32))) (fun x2 => L_X6_findNames_14 p1 p1 x2 (0 : Int32) σ))
set_option maxRecDepth 20000 in
theorem tB_X6_findNames_63 {p : Program} {l : Launch} {e : Env} {s : State} {m : MethodId} {args : Array Value} {below : List Frame} {meth : Method} {c : Code} {D : va_G} {a : Nat → Nat} {cI cO cA : ClassId} {o : zSt} (C : zC p s m args meth c D (ztys cI cO cA) 21 a cX6_findNames 8 RX6 none) {p1 : Int32} {K14 : (Int32 → Int32 → Int32 → zSt → Option (zSt))} {K53 : (Int32 → Int32 → Int32 → Int32 → Int32 → Int32 → zSt → Option (zSt))} {K63 : (Int32 → Int32 → Int32 → Int32 → Int32 → Int32 → zSt → Option (zSt))} (hK14 : ∀ (v2 : Int32) (v3 : Int32) (v4 : Int32) (σ : zSt), K14 v2 v3 v4 σ = some o → zV p l e rm_X6_findNames s m args below meth c D 21 a (fM a cI) 8 (zQv below args s D 21 a (fM a cI) o) σ 14 [some (.ref (a 0)), none, some (.int v2), some (.int v3), some (.int v4), none, none, none] []) (hK53 : ∀ (v2 : Int32) (v3 : Int32) (v4 : Int32) (v5 : Int32) (v6 : Int32) (v7 : Int32) (σ : zSt), K53 v2 v3 v4 v5 v6 v7 σ = some o → zV p l e rm_X6_findNames s m args below meth c D 21 a (fM a cI) 8 (zQv below args s D 21 a (fM a cI) o) σ 53 [some (.ref (a 0)), none, some (.int v2), some (.int v3), some (.int v4), some (.int v5), some (.int v6), some (.int v7)] []) (hK63 : ∀ (v2 : Int32) (v3 : Int32) (v4 : Int32) (v5 : Int32) (v6 : Int32) (v7 : Int32) (σ : zSt), K63 v2 v3 v4 v5 v6 v7 σ = some o → zV p l e rm_X6_findNames s m args below meth c D 21 a (fM a cI) 8 (zQv below args s D 21 a (fM a cI) o) σ 63 [some (.ref (a 0)), none, some (.int v2), some (.int v3), some (.int v4), some (.int v5), some (.int v6), some (.int v7)] []) (v2 : Int32) (v3 : Int32) (v4 : Int32) (v5 : Int32) (v6 : Int32) (v7 : Int32) (σ : zSt) (h : B_X6_findNames_63 p1 K14 K53 K63 v2 v3 v4 v5 v6 v7 σ = some o) : zV p l e rm_X6_findNames s m args below meth c D 21 a (fM a cI) 8 (zQv below args s D 21 a (fM a cI) o) σ 63 [some (.ref (a 0)), none, some (.int v2), some (.int v3), some (.int v4), some (.int v5), some (.int v6), some (.int v7)] [] := by
  unfold B_X6_findNames_63 at h
  refine r_iload_n (x := v3) C dX6_findNames_63 rfl ?_
  refine r_iload (x := v6) C dX6_findNames_64 rfl ?_
  refine r_callSi C [.int v3, .int v6] [] zc_X6_87 zB_X6_isOf ⟨rfl, rfl, by decide, by decide⟩ (fun out h => c_X6_isOf C.2.2.2.2.2.2.2.1  h) rfl rfl (Nat.le_of_ble_eq_true rfl) dX6_findNames_66 h (fun x15 σ14 h => ?_)
  refine r_if_ne (tgt := 78) C dX6_findNames_69 (by decide) h (fun h => ?_) (fun h => ?_)
  · refine r_gen h (fun x16 ex16 h => ?_)
    refine r_iinc (x := v7) (v := x16) (lv' := [some (.ref (a 0)), none, some (.int v2), some (.int v3), some (.int v4), some (.int v5), some (.int v6), some (.int x16)]) C dX6_findNames_78 rfl (by rw [← ex16]; rfl) (by decide) rfl rfl ?_
    clear ex16
    refine r_goto (tgt := 53) C dX6_findNames_81 (by decide) ?_
    exact r_le (lv' := [some (.ref (a 0)), none, some (.int v2), some (.int v3), some (.int v4), some (.int v5), some (.int v6), some (.int x16)]) ⟨rfl, rfl, rfl, rfl, rfl, rfl, rfl, trivial⟩ (hK53 v2 v3 v4 v5 v6 x16 σ14 h)
  · refine r_gen h (fun x17 ex17 h => ?_)
    refine r_iinc (x := v6) (v := x17) (lv' := [some (.ref (a 0)), none, some (.int v2), some (.int v3), some (.int v4), some (.int v5), some (.int x17), some (.int v7)]) C dX6_findNames_72 rfl (by rw [← ex17]; rfl) (by decide) rfl rfl ?_
    clear ex17
    refine r_goto (tgt := 63) C dX6_findNames_75 (by decide) ?_
    exact r_le (lv' := [some (.ref (a 0)), none, some (.int v2), some (.int v3), some (.int v4), some (.int v5), some (.int x17), some (.int v7)]) ⟨rfl, rfl, rfl, rfl, rfl, rfl, rfl, trivial⟩ (hK63 v2 v3 v4 v5 x17 v7 σ14 h)
set_option maxRecDepth 20000 in
theorem tL_X6_findNames_63 {p : Program} {l : Launch} {e : Env} {s : State} {m : MethodId} {args : Array Value} {below : List Frame} {meth : Method} {c : Code} {D : va_G} {a : Nat → Nat} {cI cO cA : ClassId} {o : zSt} (C : zC p s m args meth c D (ztys cI cO cA) 21 a cX6_findNames 8 RX6 none) {p1 : Int32} {K14 : (Int32 → Int32 → Int32 → zSt → Option (zSt))} {K53 : (Int32 → Int32 → Int32 → Int32 → Int32 → Int32 → zSt → Option (zSt))} (hK14 : ∀ (v2 : Int32) (v3 : Int32) (v4 : Int32) (σ : zSt), K14 v2 v3 v4 σ = some o → zV p l e rm_X6_findNames s m args below meth c D 21 a (fM a cI) 8 (zQv below args s D 21 a (fM a cI) o) σ 14 [some (.ref (a 0)), none, some (.int v2), some (.int v3), some (.int v4), none, none, none] []) (hK53 : ∀ (v2 : Int32) (v3 : Int32) (v4 : Int32) (v5 : Int32) (v6 : Int32) (v7 : Int32) (σ : zSt), K53 v2 v3 v4 v5 v6 v7 σ = some o → zV p l e rm_X6_findNames s m args below meth c D 21 a (fM a cI) 8 (zQv below args s D 21 a (fM a cI) o) σ 53 [some (.ref (a 0)), none, some (.int v2), some (.int v3), some (.int v4), some (.int v5), some (.int v6), some (.int v7)] []) (v2 : Int32) (v3 : Int32) (v4 : Int32) (v5 : Int32) (v6 : Int32) (v7 : Int32) (σ : zSt) (h : L_X6_findNames_63 p1 K14 K53 v2 v3 v4 v5 v6 v7 σ = some o) : zV p l e rm_X6_findNames s m args below meth c D 21 a (fM a cI) 8 (zQv below args s D 21 a (fM a cI) o) σ 63 [some (.ref (a 0)), none, some (.int v2), some (.int v3), some (.int v4), some (.int v5), some (.int v6), some (.int v7)] [] := by
  unfold L_X6_findNames_63 at h
  refine zloop_ind (G := fun x => zV p l e rm_X6_findNames s m args below meth c D 21 a (fM a cI) 8 (zQv below args s D 21 a (fM a cI) o) x.2.2.2.2.2.2 63 [some (.ref (a 0)), none, some (.int x.1), some (.int x.2.1), some (.int x.2.2.1), some (.int x.2.2.2.1), some (.int x.2.2.2.2.1), some (.int x.2.2.2.2.2.1)] []) ?_ zFU _ h
  intro rec hr x h
  exact tB_X6_findNames_63 C  hK14 hK53 (fun v2 v3 v4 v5 v6 v7 σ => hr (v2, v3, v4, v5, v6, v7, σ)) _ _ _ _ _ _ _ h
set_option maxRecDepth 20000 in
theorem tB_X6_findNames_53 {p : Program} {l : Launch} {e : Env} {s : State} {m : MethodId} {args : Array Value} {below : List Frame} {meth : Method} {c : Code} {D : va_G} {a : Nat → Nat} {cI cO cA : ClassId} {o : zSt} (C : zC p s m args meth c D (ztys cI cO cA) 21 a cX6_findNames 8 RX6 none) {p1 : Int32} {K14 : (Int32 → Int32 → Int32 → zSt → Option (zSt))} {K53 : (Int32 → Int32 → Int32 → Int32 → Int32 → Int32 → zSt → Option (zSt))} (hK14 : ∀ (v2 : Int32) (v3 : Int32) (v4 : Int32) (σ : zSt), K14 v2 v3 v4 σ = some o → zV p l e rm_X6_findNames s m args below meth c D 21 a (fM a cI) 8 (zQv below args s D 21 a (fM a cI) o) σ 14 [some (.ref (a 0)), none, some (.int v2), some (.int v3), some (.int v4), none, none, none] []) (hK53 : ∀ (v2 : Int32) (v3 : Int32) (v4 : Int32) (v5 : Int32) (v6 : Int32) (v7 : Int32) (σ : zSt), K53 v2 v3 v4 v5 v6 v7 σ = some o → zV p l e rm_X6_findNames s m args below meth c D 21 a (fM a cI) 8 (zQv below args s D 21 a (fM a cI) o) σ 53 [some (.ref (a 0)), none, some (.int v2), some (.int v3), some (.int v4), some (.int v5), some (.int v6), some (.int v7)] []) (v2 : Int32) (v3 : Int32) (v4 : Int32) (v5 : Int32) (v6 : Int32) (v7 : Int32) (σ : zSt) (h : B_X6_findNames_53 p1 K14 K53 v2 v3 v4 v5 v6 v7 σ = some o) : zV p l e rm_X6_findNames s m args below meth c D 21 a (fM a cI) 8 (zQv below args s D 21 a (fM a cI) o) σ 53 [some (.ref (a 0)), none, some (.int v2), some (.int v3), some (.int v4), some (.int v5), some (.int v6), some (.int v7)] [] := by
  unfold B_X6_findNames_53 at h
  refine r_iload (x := v7) C dX6_findNames_53 rfl ?_
  refine r_iload (x := v5) C dX6_findNames_55 rfl ?_
  refine r_icmp_ge (tgt := 84) C dX6_findNames_57 (by decide) h (fun h => ?_) (fun h => ?_)
  · refine r_aload_n (x := (a 0)) C dX6_findNames_84 rfl ?_
    refine gf_X6_52 C dX6_findNames_85 ?_
    refine r_iload (x := v4) C dX6_findNames_88 rfl ?_
    refine r_iload (x := v6) C dX6_findNames_90 rfl ?_
    refine r_iast (t0 := 0) C 15 aM_15 rfl dX6_findNames_92 h (fun σ10 h => ?_)
    refine r_iload_n (x := v3) C dX6_findNames_93 rfl ?_
    refine r_iconst (v := 1) C dX6_findNames_94 (by decide) ?_
    refine r_iload (x := v6) C dX6_findNames_95 rfl ?_
    refine r_ishl C dX6_findNames_97 ?_
    refine r_iconst (v := -1) C dX6_findNames_98 (by decide) ?_
    refine r_ixor C dX6_findNames_99 ?_
    refine r_iand C dX6_findNames_100 ?_
    refine r_nm h (fun x11 h => ?_)
    refine r_istore_n (lv' := [some (.ref (a 0)), none, some (.int v2), some (.int x11), some (.int v4), some (.int v5), some (.int v6), some (.int v7)]) C dX6_findNames_101 (by decide) rfl rfl ?_
    refine r_gen h (fun x12 ex12 h => ?_)
    refine r_iinc (x := v4) (v := x12) (lv' := [some (.ref (a 0)), none, some (.int v2), some (.int x11), some (.int x12), some (.int v5), some (.int v6), some (.int v7)]) C dX6_findNames_102 rfl (by rw [← ex12]; rfl) (by decide) rfl rfl ?_
    clear ex12
    refine r_goto (tgt := 14) C dX6_findNames_105 (by decide) ?_
    exact r_le (lv' := [some (.ref (a 0)), none, some (.int v2), some (.int x11), some (.int x12), none, none, none]) ⟨rfl, rfl, rfl, rfl, trivial⟩ (hK14 v2 x11 x12 σ10 h)
  · refine r_gen h (fun x13 ex13 h => ?_)
    refine r_iinc (x := v6) (v := x13) (lv' := [some (.ref (a 0)), none, some (.int v2), some (.int v3), some (.int v4), some (.int v5), some (.int x13), some (.int v7)]) C dX6_findNames_60 rfl (by rw [← ex13]; rfl) (by decide) rfl rfl ?_
    clear ex13
    exact r_le (lv' := [some (.ref (a 0)), none, some (.int v2), some (.int v3), some (.int v4), some (.int v5), some (.int x13), some (.int v7)]) ⟨rfl, rfl, rfl, rfl, rfl, rfl, rfl, trivial⟩ (tL_X6_findNames_63 C (K14 := K14) (K53 := K53) hK14 hK53 v2 v3 v4 v5 x13 v7 σ h)
set_option maxRecDepth 20000 in
theorem tL_X6_findNames_53 {p : Program} {l : Launch} {e : Env} {s : State} {m : MethodId} {args : Array Value} {below : List Frame} {meth : Method} {c : Code} {D : va_G} {a : Nat → Nat} {cI cO cA : ClassId} {o : zSt} (C : zC p s m args meth c D (ztys cI cO cA) 21 a cX6_findNames 8 RX6 none) {p1 : Int32} {K14 : (Int32 → Int32 → Int32 → zSt → Option (zSt))} (hK14 : ∀ (v2 : Int32) (v3 : Int32) (v4 : Int32) (σ : zSt), K14 v2 v3 v4 σ = some o → zV p l e rm_X6_findNames s m args below meth c D 21 a (fM a cI) 8 (zQv below args s D 21 a (fM a cI) o) σ 14 [some (.ref (a 0)), none, some (.int v2), some (.int v3), some (.int v4), none, none, none] []) (v2 : Int32) (v3 : Int32) (v4 : Int32) (v5 : Int32) (v6 : Int32) (v7 : Int32) (σ : zSt) (h : L_X6_findNames_53 p1 K14 v2 v3 v4 v5 v6 v7 σ = some o) : zV p l e rm_X6_findNames s m args below meth c D 21 a (fM a cI) 8 (zQv below args s D 21 a (fM a cI) o) σ 53 [some (.ref (a 0)), none, some (.int v2), some (.int v3), some (.int v4), some (.int v5), some (.int v6), some (.int v7)] [] := by
  unfold L_X6_findNames_53 at h
  refine zloop_ind (G := fun x => zV p l e rm_X6_findNames s m args below meth c D 21 a (fM a cI) 8 (zQv below args s D 21 a (fM a cI) o) x.2.2.2.2.2.2 53 [some (.ref (a 0)), none, some (.int x.1), some (.int x.2.1), some (.int x.2.2.1), some (.int x.2.2.2.1), some (.int x.2.2.2.2.1), some (.int x.2.2.2.2.2.1)] []) ?_ zFU _ h
  intro rec hr x h
  exact tB_X6_findNames_53 C  hK14 (fun v2 v3 v4 v5 v6 v7 σ => hr (v2, v3, v4, v5, v6, v7, σ)) _ _ _ _ _ _ _ h
set_option maxRecDepth 20000 in
theorem tB_X6_findNames_14 {p : Program} {l : Launch} {e : Env} {s : State} {m : MethodId} {args : Array Value} {below : List Frame} {meth : Method} {c : Code} {D : va_G} {a : Nat → Nat} {cI cO cA : ClassId} {o : zSt} (C : zC p s m args meth c D (ztys cI cO cA) 21 a cX6_findNames 8 RX6 none) {p1 : Int32} {K14 : (Int32 → Int32 → Int32 → zSt → Option (zSt))} (hK14 : ∀ (v2 : Int32) (v3 : Int32) (v4 : Int32) (σ : zSt), K14 v2 v3 v4 σ = some o → zV p l e rm_X6_findNames s m args below meth c D 21 a (fM a cI) 8 (zQv below args s D 21 a (fM a cI) o) σ 14 [some (.ref (a 0)), none, some (.int v2), some (.int v3), some (.int v4), none, none, none] []) (v2 : Int32) (v3 : Int32) (v4 : Int32) (σ : zSt) (h : B_X6_findNames_14 p1 K14 v2 v3 v4 σ = some o) : zV p l e rm_X6_findNames s m args below meth c D 21 a (fM a cI) 8 (zQv below args s D 21 a (fM a cI) o) σ 14 [some (.ref (a 0)), none, some (.int v2), some (.int v3), some (.int v4), none, none, none] [] := by
  unfold B_X6_findNames_14 at h
  refine r_iload (x := v4) C dX6_findNames_14 rfl ?_
  refine r_aload_n (x := (a 0)) C dX6_findNames_16 rfl ?_
  refine gf_X6_80 C dX6_findNames_17 h (fun x3 h => ?_)
  refine r_icmp_ge (tgt := 108) C dX6_findNames_20 (by decide) h (fun h => ?_) (fun h => ?_)
  · exact r_vret C dX6_findNames_108 h
  · refine r_iload_n (x := v2) C dX6_findNames_23 rfl ?_
    refine r_aload_n (x := (a 0)) C dX6_findNames_24 rfl ?_
    refine gf_X6_80 C dX6_findNames_25 h (fun x4 h => ?_)
    refine r_iload (x := v4) C dX6_findNames_28 rfl ?_
    refine r_isub C dX6_findNames_30 ?_
    refine r_irem C dX6_findNames_31 h (fun x5 h => ?_)
    refine r_istore (lv' := [some (.ref (a 0)), none, some (.int v2), some (.int v3), some (.int v4), some (.int x5), none, none]) C dX6_findNames_32 (by decide) rfl rfl ?_
    refine r_iload_n (x := v2) C dX6_findNames_34 rfl ?_
    refine r_aload_n (x := (a 0)) C dX6_findNames_35 rfl ?_
    refine gf_X6_80 C dX6_findNames_36 h (fun x6 h => ?_)
    refine r_iload (x := v4) C dX6_findNames_39 rfl ?_
    refine r_isub C dX6_findNames_41 ?_
    refine r_idiv C dX6_findNames_42 h (fun x7 h => ?_)
    refine r_istore_n (lv' := [some (.ref (a 0)), none, some (.int x7), some (.int v3), some (.int v4), some (.int x5), none, none]) C dX6_findNames_43 (by decide) rfl rfl ?_
    refine r_iload_n (x := v3) C dX6_findNames_44 rfl ?_
    refine r_callSi C [.int v3] [] zc_X6_130 zB_X6_leastOf ⟨rfl, rfl, by decide, by decide⟩ (fun out h => c_X6_leastOf C.2.2.2.2.2.2.2.1  h) rfl rfl (Nat.le_of_ble_eq_true rfl) dX6_findNames_45 h (fun x9 σ8 h => ?_)
    refine r_istore (lv' := [some (.ref (a 0)), none, some (.int x7), some (.int v3), some (.int v4), some (.int x5), some (.int x9), none]) C dX6_findNames_48 (by decide) rfl rfl ?_
    refine r_iconst (v := 0) C dX6_findNames_50 (by decide) ?_
    refine r_istore (lv' := [some (.ref (a 0)), none, some (.int x7), some (.int v3), some (.int v4), some (.int x5), some (.int x9), some (.int (0 : Int32))]) C dX6_findNames_51 (by decide) rfl rfl ?_
    exact r_le (lv' := [some (.ref (a 0)), none, some (.int x7), some (.int v3), some (.int v4), some (.int x5), some (.int x9), some (.int (0 : Int32))]) ⟨rfl, rfl, rfl, rfl, rfl, rfl, rfl, trivial⟩ (tL_X6_findNames_53 C (K14 := K14) hK14 x7 v3 v4 x5 x9 (0 : Int32) σ8 h)
set_option maxRecDepth 20000 in
theorem tL_X6_findNames_14 {p : Program} {l : Launch} {e : Env} {s : State} {m : MethodId} {args : Array Value} {below : List Frame} {meth : Method} {c : Code} {D : va_G} {a : Nat → Nat} {cI cO cA : ClassId} {o : zSt} (C : zC p s m args meth c D (ztys cI cO cA) 21 a cX6_findNames 8 RX6 none) {p1 : Int32}  (v2 : Int32) (v3 : Int32) (v4 : Int32) (σ : zSt) (h : L_X6_findNames_14 p1  v2 v3 v4 σ = some o) : zV p l e rm_X6_findNames s m args below meth c D 21 a (fM a cI) 8 (zQv below args s D 21 a (fM a cI) o) σ 14 [some (.ref (a 0)), none, some (.int v2), some (.int v3), some (.int v4), none, none, none] [] := by
  unfold L_X6_findNames_14 at h
  refine zloop_ind (G := fun x => zV p l e rm_X6_findNames s m args below meth c D 21 a (fM a cI) 8 (zQv below args s D 21 a (fM a cI) o) x.2.2.2 14 [some (.ref (a 0)), none, some (.int x.1), some (.int x.2.1), some (.int x.2.2.1), none, none, none] []) ?_ zFU _ h
  intro rec hr x h
  exact tB_X6_findNames_14 C   (fun v2 v3 v4 σ => hr (v2, v3, v4, σ)) _ _ _ _ h
set_option maxRecDepth 20000 in
theorem c_X6_findNames {l : Launch} {D : va_G} {a : Nat → Nat} {cI cO cA : ClassId} (hinj : ∀ i j, i < 21 → j < 21 → a i = a j → i = j) {p1 : Int32} {σ : zSt} {o : zSt} (h : M_X6_findNames p1 σ = some o) : zMv l D (ztys cI cO cA) 21 a (fM a cI) yX6_findNames cX6_findNames 8 none rm_X6_findNames [.ref (a 0), .int p1] σ o := by
  unfold M_X6_findNames at h
  refine zmetv (own := RX6) [some (.ref (a 0)), some (.int p1), none, none, none, none, none, none] (by decide) rfl hinj (Nat.le_of_ble_eq_true rfl) rfl (fun p e s m args below meth c C => ?_)
  refine r_iload_n (x := p1) C dX6_findNames_0 rfl ?_
  refine r_istore_n (lv' := [some (.ref (a 0)), some (.int p1), some (.int p1), none, none, none, none, none]) C dX6_findNames_1 (by decide) rfl rfl ?_
  refine r_iconst (v := 1) C dX6_findNames_2 (by decide) ?_
  refine r_aload_n (x := (a 0)) C dX6_findNames_3 rfl ?_
  refine gf_X6_80 C dX6_findNames_4 h (fun x1 h => ?_)
  refine r_ishl C dX6_findNames_7 ?_
  refine r_iconst (v := 1) C dX6_findNames_8 (by decide) ?_
  refine r_isub C dX6_findNames_9 ?_
  refine r_nm h (fun x2 h => ?_)
  refine r_istore_n (lv' := [some (.ref (a 0)), some (.int p1), some (.int p1), some (.int x2), none, none, none, none]) C dX6_findNames_10 (by decide) rfl rfl ?_
  refine r_iconst (v := 0) C dX6_findNames_11 (by decide) ?_
  refine r_istore (lv' := [some (.ref (a 0)), some (.int p1), some (.int p1), some (.int x2), some (.int (0 : Int32)), none, none, none]) C dX6_findNames_12 (by decide) rfl rfl ?_
  exact r_le (lv' := [some (.ref (a 0)), none, some (.int p1), some (.int x2), some (.int (0 : Int32)), none, none, none]) ⟨rfl, rfl, rfl, rfl, trivial⟩ (tL_X6_findNames_14 C p1 x2 (0 : Int32) σ h)
/-! VineRowsModel.isSame -/
abbrev rm_X6_isSame : Room := { frames := 1, cells := 0, slots := 0, locals := 21 }
def B_X6_isSame_48 (K2 : (Int32 → zSt → Option (Int32 × zSt))) (K14 : (Int32 → Int32 → Int32 → zSt → Option (Int32 × zSt))) (v1 : Int32) (v3 : Int32) (s0 : Int32) (s1 : Int32) (σ : zSt) : Option (Int32 × zSt) := znm ((s1 ||| s0)) (fun x10 => znm (v3 + (1 : Int32)) (fun x11 => K14 v1 x10 x11 σ))
def B_X6_isSame_14 (K2 : (Int32 → zSt → Option (Int32 × zSt))) (K14 : (Int32 → Int32 → Int32 → zSt → Option (Int32 × zSt))) (v1 : Int32) (v2 : Int32) (v3 : Int32) (σ : zSt) : Option (Int32 × zSt) := znm (σ 0 5) (fun x2 => (if x2 ≤ v3 then zga (σ 15) v1 8 (fun x3 => zga (σ 4) x3 8 (fun x4 => (if v2 = x4 then znm (v1 + (1 : Int32)) (fun x5 => K2 x5 σ) else zgz (0 : Int32) σ))) else zga (σ 4) v1 8 (fun x6 => zbd (M_X6_isOf x6 v3 σ) (fun x8 σ7 => (if x8 = 0 then B_X6_isSame_48 K2 K14 v1 v3 (0 : Int32) v2 σ7 else zga (σ7 15) v3 8 (fun x9 => B_X6_isSame_48 K2 K14 v1 v3 (zon x9) v2 σ7))))))
def L_X6_isSame_14 (K2 : (Int32 → zSt → Option (Int32 × zSt))) (v1 : Int32) (v2 : Int32) (v3 : Int32) (σ : zSt) : Option (Int32 × zSt) := zloop (fun (rec : Int32 × Int32 × Int32 × zSt → Option (Int32 × zSt)) x => B_X6_isSame_14  K2 (fun v1 v2 v3 σ => rec (v1, v2, v3, σ)) x.1 x.2.1 x.2.2.1 x.2.2.2) zFU (v1, v2, v3, σ)
def B_X6_isSame_2 (K2 : (Int32 → zSt → Option (Int32 × zSt))) (v1 : Int32) (σ : zSt) : Option (Int32 × zSt) := znm (σ 0 5) (fun x1 => (if x1 ≤ v1 then zgz (1 : Int32) σ else L_X6_isSame_14 K2 v1 (0 : Int32) (0 : Int32) σ))
def L_X6_isSame_2 (v1 : Int32) (σ : zSt) : Option (Int32 × zSt) := zloop (fun (rec : Int32 × zSt → Option (Int32 × zSt)) x => B_X6_isSame_2   (fun v1 σ => rec (v1, σ)) x.1 x.2) zFU (v1, σ)
def M_X6_isSame (σ : zSt) : Option (Int32 × zSt) := L_X6_isSame_2 (0 : Int32) σ
set_option maxRecDepth 20000 in
theorem tB_X6_isSame_48 {p : Program} {l : Launch} {e : Env} {s : State} {m : MethodId} {args : Array Value} {below : List Frame} {meth : Method} {c : Code} {D : va_G} {a : Nat → Nat} {cI cO cA : ClassId} {o : Int32 × zSt} (C : zC p s m args meth c D (ztys cI cO cA) 21 a cX6_isSame 4 RX6 (some .boolean)) {K2 : (Int32 → zSt → Option (Int32 × zSt))} {K14 : (Int32 → Int32 → Int32 → zSt → Option (Int32 × zSt))} (hK2 : ∀ (v1 : Int32) (σ : zSt), K2 v1 σ = some o → zV p l e rm_X6_isSame s m args below meth c D 21 a (fM a cI) 4 (zQi below args s D 21 a (fM a cI) o) σ 2 [some (.ref (a 0)), some (.int v1), none, none] []) (hK14 : ∀ (v1 : Int32) (v2 : Int32) (v3 : Int32) (σ : zSt), K14 v1 v2 v3 σ = some o → zV p l e rm_X6_isSame s m args below meth c D 21 a (fM a cI) 4 (zQi below args s D 21 a (fM a cI) o) σ 14 [some (.ref (a 0)), some (.int v1), some (.int v2), some (.int v3)] []) (v1 : Int32) (v3 : Int32) (s0 : Int32) (s1 : Int32) (σ : zSt) (h : B_X6_isSame_48  K2 K14 v1 v3 s0 s1 σ = some o) : zV p l e rm_X6_isSame s m args below meth c D 21 a (fM a cI) 4 (zQi below args s D 21 a (fM a cI) o) σ 48 [some (.ref (a 0)), some (.int v1), none, some (.int v3)] [.int s0, .int s1] := by
  unfold B_X6_isSame_48 at h
  refine r_ior C dX6_isSame_48 ?_
  refine r_nm h (fun x10 h => ?_)
  refine r_istore_n (lv' := [some (.ref (a 0)), some (.int v1), some (.int x10), some (.int v3)]) C dX6_isSame_49 (by decide) rfl rfl ?_
  refine r_gen h (fun x11 ex11 h => ?_)
  refine r_iinc (x := v3) (v := x11) (lv' := [some (.ref (a 0)), some (.int v1), some (.int x10), some (.int x11)]) C dX6_isSame_50 rfl (by rw [← ex11]; rfl) (by decide) rfl rfl ?_
  clear ex11
  refine r_goto (tgt := 14) C dX6_isSame_53 (by decide) ?_
  exact r_le (lv' := [some (.ref (a 0)), some (.int v1), some (.int x10), some (.int x11)]) ⟨rfl, rfl, rfl, rfl, trivial⟩ (hK14 v1 x10 x11 σ h)
set_option maxRecDepth 20000 in
theorem tB_X6_isSame_14 {p : Program} {l : Launch} {e : Env} {s : State} {m : MethodId} {args : Array Value} {below : List Frame} {meth : Method} {c : Code} {D : va_G} {a : Nat → Nat} {cI cO cA : ClassId} {o : Int32 × zSt} (C : zC p s m args meth c D (ztys cI cO cA) 21 a cX6_isSame 4 RX6 (some .boolean)) {K2 : (Int32 → zSt → Option (Int32 × zSt))} {K14 : (Int32 → Int32 → Int32 → zSt → Option (Int32 × zSt))} (hK2 : ∀ (v1 : Int32) (σ : zSt), K2 v1 σ = some o → zV p l e rm_X6_isSame s m args below meth c D 21 a (fM a cI) 4 (zQi below args s D 21 a (fM a cI) o) σ 2 [some (.ref (a 0)), some (.int v1), none, none] []) (hK14 : ∀ (v1 : Int32) (v2 : Int32) (v3 : Int32) (σ : zSt), K14 v1 v2 v3 σ = some o → zV p l e rm_X6_isSame s m args below meth c D 21 a (fM a cI) 4 (zQi below args s D 21 a (fM a cI) o) σ 14 [some (.ref (a 0)), some (.int v1), some (.int v2), some (.int v3)] []) (v1 : Int32) (v2 : Int32) (v3 : Int32) (σ : zSt) (h : B_X6_isSame_14  K2 K14 v1 v2 v3 σ = some o) : zV p l e rm_X6_isSame s m args below meth c D 21 a (fM a cI) 4 (zQi below args s D 21 a (fM a cI) o) σ 14 [some (.ref (a 0)), some (.int v1), some (.int v2), some (.int v3)] [] := by
  unfold B_X6_isSame_14 at h
  refine r_iload_n (x := v3) C dX6_isSame_14 rfl ?_
  refine r_aload_n (x := (a 0)) C dX6_isSame_15 rfl ?_
  refine gf_X6_80 C dX6_isSame_16 h (fun x2 h => ?_)
  refine r_icmp_ge (tgt := 56) C dX6_isSame_19 (by decide) h (fun h => ?_) (fun h => ?_)
  · refine r_iload_n (x := v2) C dX6_isSame_56 rfl ?_
    refine r_aload_n (x := (a 0)) C dX6_isSame_57 rfl ?_
    refine gf_X6_19 C dX6_isSame_58 ?_
    refine r_aload_n (x := (a 0)) C dX6_isSame_61 rfl ?_
    refine gf_X6_52 C dX6_isSame_62 ?_
    refine r_iload_n (x := v1) C dX6_isSame_65 rfl ?_
    refine r_iald (t0 := 0) C 15 aM_15 rfl dX6_isSame_66 h (fun x3 h => ?_)
    refine r_iald (t0 := 0) C 4 aM_4 rfl dX6_isSame_67 h (fun x4 h => ?_)
    refine r_icmp_eq (tgt := 73) C dX6_isSame_68 (by decide) h (fun h => ?_) (fun h => ?_)
    · refine r_gen h (fun x5 ex5 h => ?_)
      refine r_iinc (x := v1) (v := x5) (lv' := [some (.ref (a 0)), some (.int x5), some (.int v2), some (.int v3)]) C dX6_isSame_73 rfl (by rw [← ex5]; rfl) (by decide) rfl rfl ?_
      clear ex5
      refine r_goto (tgt := 2) C dX6_isSame_76 (by decide) ?_
      exact r_le (lv' := [some (.ref (a 0)), some (.int x5), none, none]) ⟨rfl, rfl, trivial⟩ (hK2 x5 σ h)
    · refine r_iconst (v := 0) C dX6_isSame_71 (by decide) ?_
      exact r_zret C dX6_isSame_72 h
  · refine r_iload_n (x := v2) C dX6_isSame_22 rfl ?_
    refine r_aload_n (x := (a 0)) C dX6_isSame_23 rfl ?_
    refine gf_X6_19 C dX6_isSame_24 ?_
    refine r_iload_n (x := v1) C dX6_isSame_27 rfl ?_
    refine r_iald (t0 := 0) C 4 aM_4 rfl dX6_isSame_28 h (fun x6 h => ?_)
    refine r_iload_n (x := v3) C dX6_isSame_29 rfl ?_
    refine r_callSi C [.int x6, .int v3] [.int v2] zc_X6_87 zB_X6_isOf ⟨rfl, rfl, by decide, by decide⟩ (fun out h => c_X6_isOf C.2.2.2.2.2.2.2.1  h) rfl rfl (Nat.le_of_ble_eq_true rfl) dX6_isSame_30 h (fun x8 σ7 h => ?_)
    refine r_if_eq (tgt := 47) C dX6_isSame_33 (by decide) h (fun h => ?_) (fun h => ?_)
    · refine r_iconst (v := 0) C dX6_isSame_47 (by decide) ?_
      exact r_le (lv' := [some (.ref (a 0)), some (.int v1), none, some (.int v3)]) ⟨rfl, rfl, rfl, trivial⟩ (tB_X6_isSame_48 C (K2 := K2) (K14 := K14) hK2 hK14 v1 v3 (0 : Int32) v2 σ7 h)
    · refine r_iconst (v := 1) C dX6_isSame_36 (by decide) ?_
      refine r_aload_n (x := (a 0)) C dX6_isSame_37 rfl ?_
      refine gf_X6_52 C dX6_isSame_38 ?_
      refine r_iload_n (x := v3) C dX6_isSame_41 rfl ?_
      refine r_iald (t0 := 0) C 15 aM_15 rfl dX6_isSame_42 h (fun x9 h => ?_)
      refine r_ishl C dX6_isSame_43 ?_
      refine r_goto (tgt := 48) C dX6_isSame_44 (by decide) ?_
      exact r_le (lv' := [some (.ref (a 0)), some (.int v1), none, some (.int v3)]) ⟨rfl, rfl, rfl, trivial⟩ (tB_X6_isSame_48 C (K2 := K2) (K14 := K14) hK2 hK14 v1 v3 (zon x9) v2 σ7 h)
set_option maxRecDepth 20000 in
theorem tL_X6_isSame_14 {p : Program} {l : Launch} {e : Env} {s : State} {m : MethodId} {args : Array Value} {below : List Frame} {meth : Method} {c : Code} {D : va_G} {a : Nat → Nat} {cI cO cA : ClassId} {o : Int32 × zSt} (C : zC p s m args meth c D (ztys cI cO cA) 21 a cX6_isSame 4 RX6 (some .boolean)) {K2 : (Int32 → zSt → Option (Int32 × zSt))} (hK2 : ∀ (v1 : Int32) (σ : zSt), K2 v1 σ = some o → zV p l e rm_X6_isSame s m args below meth c D 21 a (fM a cI) 4 (zQi below args s D 21 a (fM a cI) o) σ 2 [some (.ref (a 0)), some (.int v1), none, none] []) (v1 : Int32) (v2 : Int32) (v3 : Int32) (σ : zSt) (h : L_X6_isSame_14  K2 v1 v2 v3 σ = some o) : zV p l e rm_X6_isSame s m args below meth c D 21 a (fM a cI) 4 (zQi below args s D 21 a (fM a cI) o) σ 14 [some (.ref (a 0)), some (.int v1), some (.int v2), some (.int v3)] [] := by
  unfold L_X6_isSame_14 at h
  refine zloop_ind (G := fun x => zV p l e rm_X6_isSame s m args below meth c D 21 a (fM a cI) 4 (zQi below args s D 21 a (fM a cI) o) x.2.2.2 14 [some (.ref (a 0)), some (.int x.1), some (.int x.2.1), some (.int x.2.2.1)] []) ?_ zFU _ h
  intro rec hr x h
  exact tB_X6_isSame_14 C  hK2 (fun v1 v2 v3 σ => hr (v1, v2, v3, σ)) _ _ _ _ h
set_option maxRecDepth 20000 in
theorem tB_X6_isSame_2 {p : Program} {l : Launch} {e : Env} {s : State} {m : MethodId} {args : Array Value} {below : List Frame} {meth : Method} {c : Code} {D : va_G} {a : Nat → Nat} {cI cO cA : ClassId} {o : Int32 × zSt} (C : zC p s m args meth c D (ztys cI cO cA) 21 a cX6_isSame 4 RX6 (some .boolean)) {K2 : (Int32 → zSt → Option (Int32 × zSt))} (hK2 : ∀ (v1 : Int32) (σ : zSt), K2 v1 σ = some o → zV p l e rm_X6_isSame s m args below meth c D 21 a (fM a cI) 4 (zQi below args s D 21 a (fM a cI) o) σ 2 [some (.ref (a 0)), some (.int v1), none, none] []) (v1 : Int32) (σ : zSt) (h : B_X6_isSame_2  K2 v1 σ = some o) : zV p l e rm_X6_isSame s m args below meth c D 21 a (fM a cI) 4 (zQi below args s D 21 a (fM a cI) o) σ 2 [some (.ref (a 0)), some (.int v1), none, none] [] := by
  unfold B_X6_isSame_2 at h
  refine r_iload_n (x := v1) C dX6_isSame_2 rfl ?_
  refine r_aload_n (x := (a 0)) C dX6_isSame_3 rfl ?_
  refine gf_X6_80 C dX6_isSame_4 h (fun x1 h => ?_)
  refine r_icmp_ge (tgt := 79) C dX6_isSame_7 (by decide) h (fun h => ?_) (fun h => ?_)
  · refine r_iconst (v := 1) C dX6_isSame_79 (by decide) ?_
    exact r_zret C dX6_isSame_80 h
  · refine r_iconst (v := 0) C dX6_isSame_10 (by decide) ?_
    refine r_istore_n (lv' := [some (.ref (a 0)), some (.int v1), some (.int (0 : Int32)), none]) C dX6_isSame_11 (by decide) rfl rfl ?_
    refine r_iconst (v := 0) C dX6_isSame_12 (by decide) ?_
    refine r_istore_n (lv' := [some (.ref (a 0)), some (.int v1), some (.int (0 : Int32)), some (.int (0 : Int32))]) C dX6_isSame_13 (by decide) rfl rfl ?_
    exact r_le (lv' := [some (.ref (a 0)), some (.int v1), some (.int (0 : Int32)), some (.int (0 : Int32))]) ⟨rfl, rfl, rfl, rfl, trivial⟩ (tL_X6_isSame_14 C (K2 := K2) hK2 v1 (0 : Int32) (0 : Int32) σ h)
set_option maxRecDepth 20000 in
theorem tL_X6_isSame_2 {p : Program} {l : Launch} {e : Env} {s : State} {m : MethodId} {args : Array Value} {below : List Frame} {meth : Method} {c : Code} {D : va_G} {a : Nat → Nat} {cI cO cA : ClassId} {o : Int32 × zSt} (C : zC p s m args meth c D (ztys cI cO cA) 21 a cX6_isSame 4 RX6 (some .boolean))  (v1 : Int32) (σ : zSt) (h : L_X6_isSame_2   v1 σ = some o) : zV p l e rm_X6_isSame s m args below meth c D 21 a (fM a cI) 4 (zQi below args s D 21 a (fM a cI) o) σ 2 [some (.ref (a 0)), some (.int v1), none, none] [] := by
  unfold L_X6_isSame_2 at h
  refine zloop_ind (G := fun x => zV p l e rm_X6_isSame s m args below meth c D 21 a (fM a cI) 4 (zQi below args s D 21 a (fM a cI) o) x.2 2 [some (.ref (a 0)), some (.int x.1), none, none] []) ?_ zFU _ h
  intro rec hr x h
  exact tB_X6_isSame_2 C   (fun v1 σ => hr (v1, σ)) _ _ h
set_option maxRecDepth 20000 in
theorem c_X6_isSame {l : Launch} {D : va_G} {a : Nat → Nat} {cI cO cA : ClassId} (hinj : ∀ i j, i < 21 → j < 21 → a i = a j → i = j) {σ : zSt} {o : Int32 × zSt} (h : M_X6_isSame  σ = some o) : zMi l D (ztys cI cO cA) 21 a (fM a cI) yX6_isSame cX6_isSame 4 (some .boolean) rm_X6_isSame [.ref (a 0)] σ o := by
  unfold M_X6_isSame at h
  refine zmeti (own := RX6) [some (.ref (a 0)), none, none, none] (by decide) rfl hinj (Nat.le_of_ble_eq_true rfl) rfl (fun p e s m args below meth c C => ?_)
  refine r_iconst (v := 0) C dX6_isSame_0 (by decide) ?_
  refine r_istore_n (lv' := [some (.ref (a 0)), some (.int (0 : Int32)), none, none]) C dX6_isSame_1 (by decide) rfl rfl ?_
  exact r_le (lv' := [some (.ref (a 0)), some (.int (0 : Int32)), none, none]) ⟨rfl, rfl, trivial⟩ (tL_X6_isSame_2 C (0 : Int32) σ h)
/-! VineRowsModel.alike -/
abbrev rm_X6_alike : Room := { frames := 3, cells := 0, slots := 0, locals := 69 }
def B_X6_alike_42 (K19 : (Int32 → Int32 → Int32 → zSt → Option (Int32 × zSt))) (v2 : Int32) (v3 : Int32) (s0 : Int32) (s1 : Int32) (σ : zSt) : Option (Int32 × zSt) := znm ((s1 + s0)) (fun x8 => znm (v3 + (1 : Int32)) (fun x9 => K19 x8 v2 x9 σ))
def B_X6_alike_19 (K19 : (Int32 → Int32 → Int32 → zSt → Option (Int32 × zSt))) (v1 : Int32) (v2 : Int32) (v3 : Int32) (σ : zSt) : Option (Int32 × zSt) := (if v2 ≤ v3 then zdv v2 v1 (fun x4 => some (x4, σ)) else zbv (M_X6_findNames v3 σ) (fun σ5 => zbd (M_X6_isSame σ5) (fun x7 σ6 => (if x7 = 0 then B_X6_alike_42 K19 v2 v3 (0 : Int32) v1 σ6 else B_X6_alike_42 K19 v2 v3 (1 : Int32) v1 σ6))))
def L_X6_alike_19 (v1 : Int32) (v2 : Int32) (v3 : Int32) (σ : zSt) : Option (Int32 × zSt) := zloop (fun (rec : Int32 × Int32 × Int32 × zSt → Option (Int32 × zSt)) x => B_X6_alike_19   (fun v1 v2 v3 σ => rec (v1, v2, v3, σ)) x.1 x.2.1 x.2.2.1 x.2.2.2) zFU (v1, v2, v3, σ)
def M_X6_alike (σ : zSt) : Option (Int32 × zSt) := znm (σ 0 5) (fun x1 => (if x1 = 0 then some ((-3 : Int32), σ) else zbd (M_X6_orders σ) (fun x3 σ2 => L_X6_alike_19 (0 : Int32) x3 (0 : Int32) σ2)))
set_option maxRecDepth 20000 in
theorem tB_X6_alike_42 {p : Program} {l : Launch} {e : Env} {s : State} {m : MethodId} {args : Array Value} {below : List Frame} {meth : Method} {c : Code} {D : va_G} {a : Nat → Nat} {cI cO cA : ClassId} {o : Int32 × zSt} (C : zC p s m args meth c D (ztys cI cO cA) 21 a cX6_alike 4 RX6 (some .int)) {K19 : (Int32 → Int32 → Int32 → zSt → Option (Int32 × zSt))} (hK19 : ∀ (v1 : Int32) (v2 : Int32) (v3 : Int32) (σ : zSt), K19 v1 v2 v3 σ = some o → zV p l e rm_X6_alike s m args below meth c D 21 a (fM a cI) 4 (zQi below args s D 21 a (fM a cI) o) σ 19 [some (.ref (a 0)), some (.int v1), some (.int v2), some (.int v3)] []) (v2 : Int32) (v3 : Int32) (s0 : Int32) (s1 : Int32) (σ : zSt) (h : B_X6_alike_42  K19 v2 v3 s0 s1 σ = some o) : zV p l e rm_X6_alike s m args below meth c D 21 a (fM a cI) 4 (zQi below args s D 21 a (fM a cI) o) σ 42 [some (.ref (a 0)), none, some (.int v2), some (.int v3)] [.int s0, .int s1] := by
  unfold B_X6_alike_42 at h
  refine r_iadd C dX6_alike_42 ?_
  refine r_nm h (fun x8 h => ?_)
  refine r_istore_n (lv' := [some (.ref (a 0)), some (.int x8), some (.int v2), some (.int v3)]) C dX6_alike_43 (by decide) rfl rfl ?_
  refine r_gen h (fun x9 ex9 h => ?_)
  refine r_iinc (x := v3) (v := x9) (lv' := [some (.ref (a 0)), some (.int x8), some (.int v2), some (.int x9)]) C dX6_alike_44 rfl (by rw [← ex9]; rfl) (by decide) rfl rfl ?_
  clear ex9
  refine r_goto (tgt := 19) C dX6_alike_47 (by decide) ?_
  exact r_le (lv' := [some (.ref (a 0)), some (.int x8), some (.int v2), some (.int x9)]) ⟨rfl, rfl, rfl, rfl, trivial⟩ (hK19 x8 v2 x9 σ h)
set_option maxRecDepth 20000 in
theorem tB_X6_alike_19 {p : Program} {l : Launch} {e : Env} {s : State} {m : MethodId} {args : Array Value} {below : List Frame} {meth : Method} {c : Code} {D : va_G} {a : Nat → Nat} {cI cO cA : ClassId} {o : Int32 × zSt} (C : zC p s m args meth c D (ztys cI cO cA) 21 a cX6_alike 4 RX6 (some .int)) {K19 : (Int32 → Int32 → Int32 → zSt → Option (Int32 × zSt))} (hK19 : ∀ (v1 : Int32) (v2 : Int32) (v3 : Int32) (σ : zSt), K19 v1 v2 v3 σ = some o → zV p l e rm_X6_alike s m args below meth c D 21 a (fM a cI) 4 (zQi below args s D 21 a (fM a cI) o) σ 19 [some (.ref (a 0)), some (.int v1), some (.int v2), some (.int v3)] []) (v1 : Int32) (v2 : Int32) (v3 : Int32) (σ : zSt) (h : B_X6_alike_19  K19 v1 v2 v3 σ = some o) : zV p l e rm_X6_alike s m args below meth c D 21 a (fM a cI) 4 (zQi below args s D 21 a (fM a cI) o) σ 19 [some (.ref (a 0)), some (.int v1), some (.int v2), some (.int v3)] [] := by
  unfold B_X6_alike_19 at h
  refine r_iload_n (x := v3) C dX6_alike_19 rfl ?_
  refine r_iload_n (x := v2) C dX6_alike_20 rfl ?_
  refine r_icmp_ge (tgt := 50) C dX6_alike_21 (by decide) h (fun h => ?_) (fun h => ?_)
  · refine r_iload_n (x := v2) C dX6_alike_50 rfl ?_
    refine r_iload_n (x := v1) C dX6_alike_51 rfl ?_
    refine r_idiv C dX6_alike_52 h (fun x4 h => ?_)
    exact r_iret C dX6_alike_53 h
  · refine r_aload_n (x := (a 0)) C dX6_alike_24 rfl ?_
    refine r_iload_n (x := v3) C dX6_alike_25 rfl ?_
    refine r_callVv C [.int v3] [] (b := 0) (by decide) fM_0 rfl rfl zc_X6_187 zB_X6_findNames ⟨rfl, rfl, by decide, by decide⟩ (fun out h => c_X6_findNames C.2.2.2.2.2.2.2.1  h) rfl rfl (Nat.le_of_ble_eq_true rfl) dX6_alike_26 h (fun σ5 h => ?_)
    refine r_iload_n (x := v1) C dX6_alike_29 rfl ?_
    refine r_aload_n (x := (a 0)) C dX6_alike_30 rfl ?_
    refine r_callVi C [] [.int v1] (b := 0) (by decide) fM_0 rfl rfl zc_X6_191 zB_X6_isSame ⟨rfl, rfl, by decide, by decide⟩ (fun out h => c_X6_isSame C.2.2.2.2.2.2.2.1  h) rfl rfl (Nat.le_of_ble_eq_true rfl) dX6_alike_31 h (fun x7 σ6 h => ?_)
    refine r_if_eq (tgt := 41) C dX6_alike_34 (by decide) h (fun h => ?_) (fun h => ?_)
    · refine r_iconst (v := 0) C dX6_alike_41 (by decide) ?_
      exact r_le (lv' := [some (.ref (a 0)), none, some (.int v2), some (.int v3)]) ⟨rfl, rfl, rfl, trivial⟩ (tB_X6_alike_42 C (K19 := K19) hK19 v2 v3 (0 : Int32) v1 σ6 h)
    · refine r_iconst (v := 1) C dX6_alike_37 (by decide) ?_
      refine r_goto (tgt := 42) C dX6_alike_38 (by decide) ?_
      exact r_le (lv' := [some (.ref (a 0)), none, some (.int v2), some (.int v3)]) ⟨rfl, rfl, rfl, trivial⟩ (tB_X6_alike_42 C (K19 := K19) hK19 v2 v3 (1 : Int32) v1 σ6 h)
set_option maxRecDepth 20000 in
theorem tL_X6_alike_19 {p : Program} {l : Launch} {e : Env} {s : State} {m : MethodId} {args : Array Value} {below : List Frame} {meth : Method} {c : Code} {D : va_G} {a : Nat → Nat} {cI cO cA : ClassId} {o : Int32 × zSt} (C : zC p s m args meth c D (ztys cI cO cA) 21 a cX6_alike 4 RX6 (some .int))  (v1 : Int32) (v2 : Int32) (v3 : Int32) (σ : zSt) (h : L_X6_alike_19   v1 v2 v3 σ = some o) : zV p l e rm_X6_alike s m args below meth c D 21 a (fM a cI) 4 (zQi below args s D 21 a (fM a cI) o) σ 19 [some (.ref (a 0)), some (.int v1), some (.int v2), some (.int v3)] [] := by
  unfold L_X6_alike_19 at h
  refine zloop_ind (G := fun x => zV p l e rm_X6_alike s m args below meth c D 21 a (fM a cI) 4 (zQi below args s D 21 a (fM a cI) o) x.2.2.2 19 [some (.ref (a 0)), some (.int x.1), some (.int x.2.1), some (.int x.2.2.1)] []) ?_ zFU _ h
  intro rec hr x h
  exact tB_X6_alike_19 C   (fun v1 v2 v3 σ => hr (v1, v2, v3, σ)) _ _ _ _ h
set_option maxRecDepth 20000 in
theorem c_X6_alike {l : Launch} {D : va_G} {a : Nat → Nat} {cI cO cA : ClassId} (hinj : ∀ i j, i < 21 → j < 21 → a i = a j → i = j) {σ : zSt} {o : Int32 × zSt} (h : M_X6_alike  σ = some o) : zMi l D (ztys cI cO cA) 21 a (fM a cI) yX6_alike cX6_alike 4 (some .int) rm_X6_alike [.ref (a 0)] σ o := by
  unfold M_X6_alike at h
  refine zmeti (own := RX6) [some (.ref (a 0)), none, none, none] (by decide) rfl hinj (Nat.le_of_ble_eq_true rfl) rfl (fun p e s m args below meth c C => ?_)
  refine r_aload_n (x := (a 0)) C dX6_alike_0 rfl ?_
  refine gf_X6_80 C dX6_alike_1 h (fun x1 h => ?_)
  refine r_if_ne (tgt := 10) C dX6_alike_4 (by decide) h (fun h => ?_) (fun h => ?_)
  · refine r_iconst (v := 0) C dX6_alike_10 (by decide) ?_
    refine r_istore_n (lv' := [some (.ref (a 0)), some (.int (0 : Int32)), none, none]) C dX6_alike_11 (by decide) rfl rfl ?_
    refine r_aload_n (x := (a 0)) C dX6_alike_12 rfl ?_
    refine r_callVi C [] [] (b := 0) (by decide) fM_0 rfl rfl zc_X6_184 zB_X6_orders ⟨rfl, rfl, by decide, by decide⟩ (fun out h => c_X6_orders C.2.2.2.2.2.2.2.1  h) rfl rfl (Nat.le_of_ble_eq_true rfl) dX6_alike_13 h (fun x3 σ2 h => ?_)
    refine r_istore_n (lv' := [some (.ref (a 0)), some (.int (0 : Int32)), some (.int x3), none]) C dX6_alike_16 (by decide) rfl rfl ?_
    refine r_iconst (v := 0) C dX6_alike_17 (by decide) ?_
    refine r_istore_n (lv' := [some (.ref (a 0)), some (.int (0 : Int32)), some (.int x3), some (.int (0 : Int32))]) C dX6_alike_18 (by decide) rfl rfl ?_
    exact r_le (lv' := [some (.ref (a 0)), some (.int (0 : Int32)), some (.int x3), some (.int (0 : Int32))]) ⟨rfl, rfl, rfl, rfl, trivial⟩ (tL_X6_alike_19 C (0 : Int32) x3 (0 : Int32) σ2 h)
  · refine r_bipush (v := -3) C dX6_alike_7 (by decide) ?_
    exact r_iret C dX6_alike_9 h
/-! VineRowsModel.findTwigs -/
abbrev rm_X6_findTwigs : Room := { frames := 1, cells := 0, slots := 0, locals := 21 }
def B_X6_findTwigs_54 (K4 : (Int32 → Int32 → zSt → Option (Int32 × zSt))) (K16 : (Int32 → Int32 → Int32 → zSt → Option (Int32 × zSt))) (v1 : Int32) (v2 : Int32) (v3 : Int32) (σ : zSt) : Option (Int32 × zSt) := znm (v3 + (1 : Int32)) (fun x11 => K16 v1 v2 x11 σ)
def B_X6_findTwigs_16 (K4 : (Int32 → Int32 → zSt → Option (Int32 × zSt))) (K16 : (Int32 → Int32 → Int32 → zSt → Option (Int32 × zSt))) (v1 : Int32) (v2 : Int32) (v3 : Int32) (σ : zSt) : Option (Int32 × zSt) := znm (σ 0 5) (fun x3 => (if x3 ≤ v3 then znm (v2 + (1 : Int32)) (fun x4 => K4 v1 x4 σ) else zga (σ 4) v2 8 (fun x5 => zbd (M_X6_isOf x5 v3 σ) (fun x7 σ6 => (if x7 = 0 then B_X6_findTwigs_54 K4 K16 v1 v2 v3 σ6 else zgs σ6 16 v1 7 v2 (fun σ8 => zgs σ8 17 v1 7 v3 (fun σ9 => znm (v1 + (1 : Int32)) (fun x10 => B_X6_findTwigs_54 K4 K16 x10 v2 v3 σ9))))))))
def L_X6_findTwigs_16 (K4 : (Int32 → Int32 → zSt → Option (Int32 × zSt))) (v1 : Int32) (v2 : Int32) (v3 : Int32) (σ : zSt) : Option (Int32 × zSt) := zloop (fun (rec : Int32 × Int32 × Int32 × zSt → Option (Int32 × zSt)) x => B_X6_findTwigs_16  K4 (fun v1 v2 v3 σ => rec (v1, v2, v3, σ)) x.1 x.2.1 x.2.2.1 x.2.2.2) zFU (v1, v2, v3, σ)
def B_X6_findTwigs_4 (K4 : (Int32 → Int32 → zSt → Option (Int32 × zSt))) (v1 : Int32) (v2 : Int32) (σ : zSt) : Option (Int32 × zSt) := znm (σ 0 5) (fun x1 => (if x1 ≤ v2 then some (v1, σ) else znm ((v2 + (1 : Int32))) (fun x2 => L_X6_findTwigs_16 K4 v1 v2 x2 σ)))
def L_X6_findTwigs_4 (v1 : Int32) (v2 : Int32) (σ : zSt) : Option (Int32 × zSt) := zloop (fun (rec : Int32 × Int32 × zSt → Option (Int32 × zSt)) x => B_X6_findTwigs_4   (fun v1 v2 σ => rec (v1, v2, σ)) x.1 x.2.1 x.2.2) zFU (v1, v2, σ)
def M_X6_findTwigs (σ : zSt) : Option (Int32 × zSt) := L_X6_findTwigs_4 (0 : Int32) (0 : Int32) σ
set_option maxRecDepth 20000 in
theorem tB_X6_findTwigs_54 {p : Program} {l : Launch} {e : Env} {s : State} {m : MethodId} {args : Array Value} {below : List Frame} {meth : Method} {c : Code} {D : va_G} {a : Nat → Nat} {cI cO cA : ClassId} {o : Int32 × zSt} (C : zC p s m args meth c D (ztys cI cO cA) 21 a cX6_findTwigs 4 RX6 (some .int)) {K4 : (Int32 → Int32 → zSt → Option (Int32 × zSt))} {K16 : (Int32 → Int32 → Int32 → zSt → Option (Int32 × zSt))} (hK4 : ∀ (v1 : Int32) (v2 : Int32) (σ : zSt), K4 v1 v2 σ = some o → zV p l e rm_X6_findTwigs s m args below meth c D 21 a (fM a cI) 4 (zQi below args s D 21 a (fM a cI) o) σ 4 [some (.ref (a 0)), some (.int v1), some (.int v2), none] []) (hK16 : ∀ (v1 : Int32) (v2 : Int32) (v3 : Int32) (σ : zSt), K16 v1 v2 v3 σ = some o → zV p l e rm_X6_findTwigs s m args below meth c D 21 a (fM a cI) 4 (zQi below args s D 21 a (fM a cI) o) σ 16 [some (.ref (a 0)), some (.int v1), some (.int v2), some (.int v3)] []) (v1 : Int32) (v2 : Int32) (v3 : Int32) (σ : zSt) (h : B_X6_findTwigs_54  K4 K16 v1 v2 v3 σ = some o) : zV p l e rm_X6_findTwigs s m args below meth c D 21 a (fM a cI) 4 (zQi below args s D 21 a (fM a cI) o) σ 54 [some (.ref (a 0)), some (.int v1), some (.int v2), some (.int v3)] [] := by
  unfold B_X6_findTwigs_54 at h
  refine r_gen h (fun x11 ex11 h => ?_)
  refine r_iinc (x := v3) (v := x11) (lv' := [some (.ref (a 0)), some (.int v1), some (.int v2), some (.int x11)]) C dX6_findTwigs_54 rfl (by rw [← ex11]; rfl) (by decide) rfl rfl ?_
  clear ex11
  refine r_goto (tgt := 16) C dX6_findTwigs_57 (by decide) ?_
  exact r_le (lv' := [some (.ref (a 0)), some (.int v1), some (.int v2), some (.int x11)]) ⟨rfl, rfl, rfl, rfl, trivial⟩ (hK16 v1 v2 x11 σ h)
set_option maxRecDepth 20000 in
theorem tB_X6_findTwigs_16 {p : Program} {l : Launch} {e : Env} {s : State} {m : MethodId} {args : Array Value} {below : List Frame} {meth : Method} {c : Code} {D : va_G} {a : Nat → Nat} {cI cO cA : ClassId} {o : Int32 × zSt} (C : zC p s m args meth c D (ztys cI cO cA) 21 a cX6_findTwigs 4 RX6 (some .int)) {K4 : (Int32 → Int32 → zSt → Option (Int32 × zSt))} {K16 : (Int32 → Int32 → Int32 → zSt → Option (Int32 × zSt))} (hK4 : ∀ (v1 : Int32) (v2 : Int32) (σ : zSt), K4 v1 v2 σ = some o → zV p l e rm_X6_findTwigs s m args below meth c D 21 a (fM a cI) 4 (zQi below args s D 21 a (fM a cI) o) σ 4 [some (.ref (a 0)), some (.int v1), some (.int v2), none] []) (hK16 : ∀ (v1 : Int32) (v2 : Int32) (v3 : Int32) (σ : zSt), K16 v1 v2 v3 σ = some o → zV p l e rm_X6_findTwigs s m args below meth c D 21 a (fM a cI) 4 (zQi below args s D 21 a (fM a cI) o) σ 16 [some (.ref (a 0)), some (.int v1), some (.int v2), some (.int v3)] []) (v1 : Int32) (v2 : Int32) (v3 : Int32) (σ : zSt) (h : B_X6_findTwigs_16  K4 K16 v1 v2 v3 σ = some o) : zV p l e rm_X6_findTwigs s m args below meth c D 21 a (fM a cI) 4 (zQi below args s D 21 a (fM a cI) o) σ 16 [some (.ref (a 0)), some (.int v1), some (.int v2), some (.int v3)] [] := by
  unfold B_X6_findTwigs_16 at h
  refine r_iload_n (x := v3) C dX6_findTwigs_16 rfl ?_
  refine r_aload_n (x := (a 0)) C dX6_findTwigs_17 rfl ?_
  refine gf_X6_80 C dX6_findTwigs_18 h (fun x3 h => ?_)
  refine r_icmp_ge (tgt := 60) C dX6_findTwigs_21 (by decide) h (fun h => ?_) (fun h => ?_)
  · refine r_gen h (fun x4 ex4 h => ?_)
    refine r_iinc (x := v2) (v := x4) (lv' := [some (.ref (a 0)), some (.int v1), some (.int x4), some (.int v3)]) C dX6_findTwigs_60 rfl (by rw [← ex4]; rfl) (by decide) rfl rfl ?_
    clear ex4
    refine r_goto (tgt := 4) C dX6_findTwigs_63 (by decide) ?_
    exact r_le (lv' := [some (.ref (a 0)), some (.int v1), some (.int x4), none]) ⟨rfl, rfl, rfl, trivial⟩ (hK4 v1 x4 σ h)
  · refine r_aload_n (x := (a 0)) C dX6_findTwigs_24 rfl ?_
    refine gf_X6_19 C dX6_findTwigs_25 ?_
    refine r_iload_n (x := v2) C dX6_findTwigs_28 rfl ?_
    refine r_iald (t0 := 0) C 4 aM_4 rfl dX6_findTwigs_29 h (fun x5 h => ?_)
    refine r_iload_n (x := v3) C dX6_findTwigs_30 rfl ?_
    refine r_callSi C [.int x5, .int v3] [] zc_X6_87 zB_X6_isOf ⟨rfl, rfl, by decide, by decide⟩ (fun out h => c_X6_isOf C.2.2.2.2.2.2.2.1  h) rfl rfl (Nat.le_of_ble_eq_true rfl) dX6_findTwigs_31 h (fun x7 σ6 h => ?_)
    refine r_if_eq (tgt := 54) C dX6_findTwigs_34 (by decide) h (fun h => ?_) (fun h => ?_)
    · exact r_le (lv' := [some (.ref (a 0)), some (.int v1), some (.int v2), some (.int v3)]) ⟨rfl, rfl, rfl, rfl, trivial⟩ (tB_X6_findTwigs_54 C (K4 := K4) (K16 := K16) hK4 hK16 v1 v2 v3 σ6 h)
    · refine r_aload_n (x := (a 0)) C dX6_findTwigs_37 rfl ?_
      refine gf_X6_55 C dX6_findTwigs_38 ?_
      refine r_iload_n (x := v1) C dX6_findTwigs_41 rfl ?_
      refine r_iload_n (x := v2) C dX6_findTwigs_42 rfl ?_
      refine r_iast (t0 := 0) C 16 aM_16 rfl dX6_findTwigs_43 h (fun σ8 h => ?_)
      refine r_aload_n (x := (a 0)) C dX6_findTwigs_44 rfl ?_
      refine gf_X6_58 C dX6_findTwigs_45 ?_
      refine r_iload_n (x := v1) C dX6_findTwigs_48 rfl ?_
      refine r_iload_n (x := v3) C dX6_findTwigs_49 rfl ?_
      refine r_iast (t0 := 0) C 17 aM_17 rfl dX6_findTwigs_50 h (fun σ9 h => ?_)
      refine r_gen h (fun x10 ex10 h => ?_)
      refine r_iinc (x := v1) (v := x10) (lv' := [some (.ref (a 0)), some (.int x10), some (.int v2), some (.int v3)]) C dX6_findTwigs_51 rfl (by rw [← ex10]; rfl) (by decide) rfl rfl ?_
      clear ex10
      exact r_le (lv' := [some (.ref (a 0)), some (.int x10), some (.int v2), some (.int v3)]) ⟨rfl, rfl, rfl, rfl, trivial⟩ (tB_X6_findTwigs_54 C (K4 := K4) (K16 := K16) hK4 hK16 x10 v2 v3 σ9 h)
set_option maxRecDepth 20000 in
theorem tL_X6_findTwigs_16 {p : Program} {l : Launch} {e : Env} {s : State} {m : MethodId} {args : Array Value} {below : List Frame} {meth : Method} {c : Code} {D : va_G} {a : Nat → Nat} {cI cO cA : ClassId} {o : Int32 × zSt} (C : zC p s m args meth c D (ztys cI cO cA) 21 a cX6_findTwigs 4 RX6 (some .int)) {K4 : (Int32 → Int32 → zSt → Option (Int32 × zSt))} (hK4 : ∀ (v1 : Int32) (v2 : Int32) (σ : zSt), K4 v1 v2 σ = some o → zV p l e rm_X6_findTwigs s m args below meth c D 21 a (fM a cI) 4 (zQi below args s D 21 a (fM a cI) o) σ 4 [some (.ref (a 0)), some (.int v1), some (.int v2), none] []) (v1 : Int32) (v2 : Int32) (v3 : Int32) (σ : zSt) (h : L_X6_findTwigs_16  K4 v1 v2 v3 σ = some o) : zV p l e rm_X6_findTwigs s m args below meth c D 21 a (fM a cI) 4 (zQi below args s D 21 a (fM a cI) o) σ 16 [some (.ref (a 0)), some (.int v1), some (.int v2), some (.int v3)] [] := by
  unfold L_X6_findTwigs_16 at h
  refine zloop_ind (G := fun x => zV p l e rm_X6_findTwigs s m args below meth c D 21 a (fM a cI) 4 (zQi below args s D 21 a (fM a cI) o) x.2.2.2 16 [some (.ref (a 0)), some (.int x.1), some (.int x.2.1), some (.int x.2.2.1)] []) ?_ zFU _ h
  intro rec hr x h
  exact tB_X6_findTwigs_16 C  hK4 (fun v1 v2 v3 σ => hr (v1, v2, v3, σ)) _ _ _ _ h
set_option maxRecDepth 20000 in
theorem tB_X6_findTwigs_4 {p : Program} {l : Launch} {e : Env} {s : State} {m : MethodId} {args : Array Value} {below : List Frame} {meth : Method} {c : Code} {D : va_G} {a : Nat → Nat} {cI cO cA : ClassId} {o : Int32 × zSt} (C : zC p s m args meth c D (ztys cI cO cA) 21 a cX6_findTwigs 4 RX6 (some .int)) {K4 : (Int32 → Int32 → zSt → Option (Int32 × zSt))} (hK4 : ∀ (v1 : Int32) (v2 : Int32) (σ : zSt), K4 v1 v2 σ = some o → zV p l e rm_X6_findTwigs s m args below meth c D 21 a (fM a cI) 4 (zQi below args s D 21 a (fM a cI) o) σ 4 [some (.ref (a 0)), some (.int v1), some (.int v2), none] []) (v1 : Int32) (v2 : Int32) (σ : zSt) (h : B_X6_findTwigs_4  K4 v1 v2 σ = some o) : zV p l e rm_X6_findTwigs s m args below meth c D 21 a (fM a cI) 4 (zQi below args s D 21 a (fM a cI) o) σ 4 [some (.ref (a 0)), some (.int v1), some (.int v2), none] [] := by
  unfold B_X6_findTwigs_4 at h
  refine r_iload_n (x := v2) C dX6_findTwigs_4 rfl ?_
  refine r_aload_n (x := (a 0)) C dX6_findTwigs_5 rfl ?_
  refine gf_X6_80 C dX6_findTwigs_6 h (fun x1 h => ?_)
  refine r_icmp_ge (tgt := 66) C dX6_findTwigs_9 (by decide) h (fun h => ?_) (fun h => ?_)
  · refine r_iload_n (x := v1) C dX6_findTwigs_66 rfl ?_
    exact r_iret C dX6_findTwigs_67 h
  · refine r_iload_n (x := v2) C dX6_findTwigs_12 rfl ?_
    refine r_iconst (v := 1) C dX6_findTwigs_13 (by decide) ?_
    refine r_iadd C dX6_findTwigs_14 ?_
    refine r_nm h (fun x2 h => ?_)
    refine r_istore_n (lv' := [some (.ref (a 0)), some (.int v1), some (.int v2), some (.int x2)]) C dX6_findTwigs_15 (by decide) rfl rfl ?_
    exact r_le (lv' := [some (.ref (a 0)), some (.int v1), some (.int v2), some (.int x2)]) ⟨rfl, rfl, rfl, rfl, trivial⟩ (tL_X6_findTwigs_16 C (K4 := K4) hK4 v1 v2 x2 σ h)
set_option maxRecDepth 20000 in
theorem tL_X6_findTwigs_4 {p : Program} {l : Launch} {e : Env} {s : State} {m : MethodId} {args : Array Value} {below : List Frame} {meth : Method} {c : Code} {D : va_G} {a : Nat → Nat} {cI cO cA : ClassId} {o : Int32 × zSt} (C : zC p s m args meth c D (ztys cI cO cA) 21 a cX6_findTwigs 4 RX6 (some .int))  (v1 : Int32) (v2 : Int32) (σ : zSt) (h : L_X6_findTwigs_4   v1 v2 σ = some o) : zV p l e rm_X6_findTwigs s m args below meth c D 21 a (fM a cI) 4 (zQi below args s D 21 a (fM a cI) o) σ 4 [some (.ref (a 0)), some (.int v1), some (.int v2), none] [] := by
  unfold L_X6_findTwigs_4 at h
  refine zloop_ind (G := fun x => zV p l e rm_X6_findTwigs s m args below meth c D 21 a (fM a cI) 4 (zQi below args s D 21 a (fM a cI) o) x.2.2 4 [some (.ref (a 0)), some (.int x.1), some (.int x.2.1), none] []) ?_ zFU _ h
  intro rec hr x h
  exact tB_X6_findTwigs_4 C   (fun v1 v2 σ => hr (v1, v2, σ)) _ _ _ h
set_option maxRecDepth 20000 in
theorem c_X6_findTwigs {l : Launch} {D : va_G} {a : Nat → Nat} {cI cO cA : ClassId} (hinj : ∀ i j, i < 21 → j < 21 → a i = a j → i = j) {σ : zSt} {o : Int32 × zSt} (h : M_X6_findTwigs  σ = some o) : zMi l D (ztys cI cO cA) 21 a (fM a cI) yX6_findTwigs cX6_findTwigs 4 (some .int) rm_X6_findTwigs [.ref (a 0)] σ o := by
  unfold M_X6_findTwigs at h
  refine zmeti (own := RX6) [some (.ref (a 0)), none, none, none] (by decide) rfl hinj (Nat.le_of_ble_eq_true rfl) rfl (fun p e s m args below meth c C => ?_)
  refine r_iconst (v := 0) C dX6_findTwigs_0 (by decide) ?_
  refine r_istore_n (lv' := [some (.ref (a 0)), some (.int (0 : Int32)), none, none]) C dX6_findTwigs_1 (by decide) rfl rfl ?_
  refine r_iconst (v := 0) C dX6_findTwigs_2 (by decide) ?_
  refine r_istore_n (lv' := [some (.ref (a 0)), some (.int (0 : Int32)), some (.int (0 : Int32)), none]) C dX6_findTwigs_3 (by decide) rfl rfl ?_
  exact r_le (lv' := [some (.ref (a 0)), some (.int (0 : Int32)), some (.int (0 : Int32)), none]) ⟨rfl, rfl, rfl, trivial⟩ (tL_X6_findTwigs_4 C (0 : Int32) (0 : Int32) σ h)
/-! VineRowsModel.pairs -/
abbrev rm_X6_pairs : Room := { frames := 2, cells := 0, slots := 0, locals := 44 }
def B_X6_pairs_129 (K19 : (Int32 → Int32 → Int32 → zSt → Option (Int32 × zSt))) (v1 : Int32) (v3 : Int32) (s0 : Int32) (σ : zSt) : Option (Int32 × zSt) := znm (v3 + (1 : Int32)) (fun x12 => K19 v1 s0 x12 σ)
def B_X6_pairs_128 (K19 : (Int32 → Int32 → Int32 → zSt → Option (Int32 × zSt))) (v1 : Int32) (v2 : Int32) (v3 : Int32) (σ : zSt) : Option (Int32 × zSt) := B_X6_pairs_129 K19 v1 v3 v2 σ
def B_X6_pairs_108 (K19 : (Int32 → Int32 → Int32 → zSt → Option (Int32 × zSt))) (v1 : Int32) (v2 : Int32) (v3 : Int32) (v5 : Int32) (σ : zSt) : Option (Int32 × zSt) := (if v5 = 0 then B_X6_pairs_128 K19 v1 v2 v3 σ else zbd (M_X6_size v3 σ) (fun x9 σ8 => (if x9 ≤ v2 then B_X6_pairs_128 K19 v1 v2 v3 σ8 else zbd (M_X6_size v3 σ8) (fun x11 σ10 => B_X6_pairs_129 K19 v1 v3 x11 σ10))))
def B_X6_pairs_93 (K19 : (Int32 → Int32 → Int32 → zSt → Option (Int32 × zSt))) (K35 : (Int32 → Int32 → Int32 → Int32 → Int32 → Int32 → zSt → Option (Int32 × zSt))) (v1 : Int32) (v2 : Int32) (v3 : Int32) (v4 : Int32) (v6 : Int32) (v7 : Int32) (s0 : Int32) (σ : zSt) : Option (Int32 × zSt) := znm ((v4 ||| v7)) (fun x13 => znm (v6 + (1 : Int32)) (fun x14 => K35 v1 v2 v3 x13 s0 x14 σ))
def B_X6_pairs_78 (K19 : (Int32 → Int32 → Int32 → zSt → Option (Int32 × zSt))) (K35 : (Int32 → Int32 → Int32 → Int32 → Int32 → Int32 → zSt → Option (Int32 × zSt))) (v1 : Int32) (v2 : Int32) (v3 : Int32) (v4 : Int32) (v6 : Int32) (s0 : Int32) (σ : zSt) : Option (Int32 × zSt) := (if (v4 &&& s0) = 0 then B_X6_pairs_93 K19 K35 v1 v2 v3 v4 v6 s0 (1 : Int32) σ else B_X6_pairs_93 K19 K35 v1 v2 v3 v4 v6 s0 (0 : Int32) σ)
def B_X6_pairs_35 (K19 : (Int32 → Int32 → Int32 → zSt → Option (Int32 × zSt))) (K35 : (Int32 → Int32 → Int32 → Int32 → Int32 → Int32 → zSt → Option (Int32 × zSt))) (v1 : Int32) (v2 : Int32) (v3 : Int32) (v4 : Int32) (v5 : Int32) (v6 : Int32) (σ : zSt) : Option (Int32 × zSt) := (if v1 ≤ v6 then B_X6_pairs_108 K19 v1 v2 v3 v5 σ else (if v5 = 0 then B_X6_pairs_108 K19 v1 v2 v3 v5 σ else zbd (M_X6_isOf v3 v6 σ) (fun x5 σ4 => (if x5 = 0 then B_X6_pairs_78 K19 K35 v1 v2 v3 v4 v6 (0 : Int32) σ4 else zga (σ4 16) v6 7 (fun x6 => zga (σ4 17) v6 7 (fun x7 => B_X6_pairs_78 K19 K35 v1 v2 v3 v4 v6 ((zon x6) ||| (zon x7)) σ4))))))
def L_X6_pairs_35 (K19 : (Int32 → Int32 → Int32 → zSt → Option (Int32 × zSt))) (v1 : Int32) (v2 : Int32) (v3 : Int32) (v4 : Int32) (v5 : Int32) (v6 : Int32) (σ : zSt) : Option (Int32 × zSt) := zloop (fun (rec : Int32 × Int32 × Int32 × Int32 × Int32 × Int32 × zSt → Option (Int32 × zSt)) x => B_X6_pairs_35  K19 (fun v1 v2 v3 v4 v5 v6 σ => rec (v1, v2, v3, v4, v5, v6, σ)) x.1 x.2.1 x.2.2.1 x.2.2.2.1 x.2.2.2.2.1 x.2.2.2.2.2.1 x.2.2.2.2.2.2) zFU (v1, v2, v3, v4, v5, v6, σ)
def B_X6_pairs_19 (K19 : (Int32 → Int32 → Int32 → zSt → Option (Int32 × zSt))) (v1 : Int32) (v2 : Int32) (v3 : Int32) (σ : zSt) : Option (Int32 × zSt) := (if (zon v1) ≤ v3 then some (v2, σ) else L_X6_pairs_35 K19 v1 v2 v3 (0 : Int32) (1 : Int32) (0 : Int32) σ)
def L_X6_pairs_19 (v1 : Int32) (v2 : Int32) (v3 : Int32) (σ : zSt) : Option (Int32 × zSt) := zloop (fun (rec : Int32 × Int32 × Int32 × zSt → Option (Int32 × zSt)) x => B_X6_pairs_19   (fun v1 v2 v3 σ => rec (v1, v2, v3, σ)) x.1 x.2.1 x.2.2.1 x.2.2.2) zFU (v1, v2, v3, σ)
def M_X6_pairs (σ : zSt) : Option (Int32 × zSt) := znm (σ 0 5) (fun x1 => (if x1 = 0 then some ((-3 : Int32), σ) else zbd (M_X6_findTwigs σ) (fun x3 σ2 => L_X6_pairs_19 x3 (0 : Int32) (0 : Int32) σ2)))
set_option maxRecDepth 20000 in
theorem tB_X6_pairs_129 {p : Program} {l : Launch} {e : Env} {s : State} {m : MethodId} {args : Array Value} {below : List Frame} {meth : Method} {c : Code} {D : va_G} {a : Nat → Nat} {cI cO cA : ClassId} {o : Int32 × zSt} (C : zC p s m args meth c D (ztys cI cO cA) 21 a cX6_pairs 8 RX6 (some .int)) {K19 : (Int32 → Int32 → Int32 → zSt → Option (Int32 × zSt))} (hK19 : ∀ (v1 : Int32) (v2 : Int32) (v3 : Int32) (σ : zSt), K19 v1 v2 v3 σ = some o → zV p l e rm_X6_pairs s m args below meth c D 21 a (fM a cI) 8 (zQi below args s D 21 a (fM a cI) o) σ 19 [some (.ref (a 0)), some (.int v1), some (.int v2), some (.int v3), none, none, none, none] []) (v1 : Int32) (v3 : Int32) (s0 : Int32) (σ : zSt) (h : B_X6_pairs_129  K19 v1 v3 s0 σ = some o) : zV p l e rm_X6_pairs s m args below meth c D 21 a (fM a cI) 8 (zQi below args s D 21 a (fM a cI) o) σ 129 [some (.ref (a 0)), some (.int v1), none, some (.int v3), none, none, none, none] [.int s0] := by
  unfold B_X6_pairs_129 at h
  refine r_istore_n (lv' := [some (.ref (a 0)), some (.int v1), some (.int s0), some (.int v3), none, none, none, none]) C dX6_pairs_129 (by decide) rfl rfl ?_
  refine r_gen h (fun x12 ex12 h => ?_)
  refine r_iinc (x := v3) (v := x12) (lv' := [some (.ref (a 0)), some (.int v1), some (.int s0), some (.int x12), none, none, none, none]) C dX6_pairs_130 rfl (by rw [← ex12]; rfl) (by decide) rfl rfl ?_
  clear ex12
  refine r_goto (tgt := 19) C dX6_pairs_133 (by decide) ?_
  exact r_le (lv' := [some (.ref (a 0)), some (.int v1), some (.int s0), some (.int x12), none, none, none, none]) ⟨rfl, rfl, rfl, rfl, trivial⟩ (hK19 v1 s0 x12 σ h)
set_option maxRecDepth 20000 in
theorem tB_X6_pairs_128 {p : Program} {l : Launch} {e : Env} {s : State} {m : MethodId} {args : Array Value} {below : List Frame} {meth : Method} {c : Code} {D : va_G} {a : Nat → Nat} {cI cO cA : ClassId} {o : Int32 × zSt} (C : zC p s m args meth c D (ztys cI cO cA) 21 a cX6_pairs 8 RX6 (some .int)) {K19 : (Int32 → Int32 → Int32 → zSt → Option (Int32 × zSt))} (hK19 : ∀ (v1 : Int32) (v2 : Int32) (v3 : Int32) (σ : zSt), K19 v1 v2 v3 σ = some o → zV p l e rm_X6_pairs s m args below meth c D 21 a (fM a cI) 8 (zQi below args s D 21 a (fM a cI) o) σ 19 [some (.ref (a 0)), some (.int v1), some (.int v2), some (.int v3), none, none, none, none] []) (v1 : Int32) (v2 : Int32) (v3 : Int32) (σ : zSt) (h : B_X6_pairs_128  K19 v1 v2 v3 σ = some o) : zV p l e rm_X6_pairs s m args below meth c D 21 a (fM a cI) 8 (zQi below args s D 21 a (fM a cI) o) σ 128 [some (.ref (a 0)), some (.int v1), some (.int v2), some (.int v3), none, none, none, none] [] := by
  unfold B_X6_pairs_128 at h
  refine r_iload_n (x := v2) C dX6_pairs_128 rfl ?_
  exact r_le (lv' := [some (.ref (a 0)), some (.int v1), none, some (.int v3), none, none, none, none]) ⟨rfl, rfl, rfl, trivial⟩ (tB_X6_pairs_129 C (K19 := K19) hK19 v1 v3 v2 σ h)
set_option maxRecDepth 20000 in
theorem tB_X6_pairs_108 {p : Program} {l : Launch} {e : Env} {s : State} {m : MethodId} {args : Array Value} {below : List Frame} {meth : Method} {c : Code} {D : va_G} {a : Nat → Nat} {cI cO cA : ClassId} {o : Int32 × zSt} (C : zC p s m args meth c D (ztys cI cO cA) 21 a cX6_pairs 8 RX6 (some .int)) {K19 : (Int32 → Int32 → Int32 → zSt → Option (Int32 × zSt))} (hK19 : ∀ (v1 : Int32) (v2 : Int32) (v3 : Int32) (σ : zSt), K19 v1 v2 v3 σ = some o → zV p l e rm_X6_pairs s m args below meth c D 21 a (fM a cI) 8 (zQi below args s D 21 a (fM a cI) o) σ 19 [some (.ref (a 0)), some (.int v1), some (.int v2), some (.int v3), none, none, none, none] []) (v1 : Int32) (v2 : Int32) (v3 : Int32) (v5 : Int32) (σ : zSt) (h : B_X6_pairs_108  K19 v1 v2 v3 v5 σ = some o) : zV p l e rm_X6_pairs s m args below meth c D 21 a (fM a cI) 8 (zQi below args s D 21 a (fM a cI) o) σ 108 [some (.ref (a 0)), some (.int v1), some (.int v2), some (.int v3), none, some (.int v5), none, none] [] := by
  unfold B_X6_pairs_108 at h
  refine r_iload (x := v5) C dX6_pairs_108 rfl ?_
  refine r_if_eq (tgt := 128) C dX6_pairs_110 (by decide) h (fun h => ?_) (fun h => ?_)
  · exact r_le (lv' := [some (.ref (a 0)), some (.int v1), some (.int v2), some (.int v3), none, none, none, none]) ⟨rfl, rfl, rfl, rfl, trivial⟩ (tB_X6_pairs_128 C (K19 := K19) hK19 v1 v2 v3 σ h)
  · refine r_iload_n (x := v3) C dX6_pairs_113 rfl ?_
    refine r_callSi C [.int v3] [] zc_X6_140 zB_X6_size ⟨rfl, rfl, by decide, by decide⟩ (fun out h => c_X6_size C.2.2.2.2.2.2.2.1  h) rfl rfl (Nat.le_of_ble_eq_true rfl) dX6_pairs_114 h (fun x9 σ8 h => ?_)
    refine r_iload_n (x := v2) C dX6_pairs_117 rfl ?_
    refine r_icmp_le (tgt := 128) C dX6_pairs_118 (by decide) h (fun h => ?_) (fun h => ?_)
    · exact r_le (lv' := [some (.ref (a 0)), some (.int v1), some (.int v2), some (.int v3), none, none, none, none]) ⟨rfl, rfl, rfl, rfl, trivial⟩ (tB_X6_pairs_128 C (K19 := K19) hK19 v1 v2 v3 σ8 h)
    · refine r_iload_n (x := v3) C dX6_pairs_121 rfl ?_
      refine r_callSi C [.int v3] [] zc_X6_140 zB_X6_size ⟨rfl, rfl, by decide, by decide⟩ (fun out h => c_X6_size C.2.2.2.2.2.2.2.1  h) rfl rfl (Nat.le_of_ble_eq_true rfl) dX6_pairs_122 h (fun x11 σ10 h => ?_)
      refine r_goto (tgt := 129) C dX6_pairs_125 (by decide) ?_
      exact r_le (lv' := [some (.ref (a 0)), some (.int v1), none, some (.int v3), none, none, none, none]) ⟨rfl, rfl, rfl, trivial⟩ (tB_X6_pairs_129 C (K19 := K19) hK19 v1 v3 x11 σ10 h)
set_option maxRecDepth 20000 in
theorem tB_X6_pairs_93 {p : Program} {l : Launch} {e : Env} {s : State} {m : MethodId} {args : Array Value} {below : List Frame} {meth : Method} {c : Code} {D : va_G} {a : Nat → Nat} {cI cO cA : ClassId} {o : Int32 × zSt} (C : zC p s m args meth c D (ztys cI cO cA) 21 a cX6_pairs 8 RX6 (some .int)) {K19 : (Int32 → Int32 → Int32 → zSt → Option (Int32 × zSt))} {K35 : (Int32 → Int32 → Int32 → Int32 → Int32 → Int32 → zSt → Option (Int32 × zSt))} (hK19 : ∀ (v1 : Int32) (v2 : Int32) (v3 : Int32) (σ : zSt), K19 v1 v2 v3 σ = some o → zV p l e rm_X6_pairs s m args below meth c D 21 a (fM a cI) 8 (zQi below args s D 21 a (fM a cI) o) σ 19 [some (.ref (a 0)), some (.int v1), some (.int v2), some (.int v3), none, none, none, none] []) (hK35 : ∀ (v1 : Int32) (v2 : Int32) (v3 : Int32) (v4 : Int32) (v5 : Int32) (v6 : Int32) (σ : zSt), K35 v1 v2 v3 v4 v5 v6 σ = some o → zV p l e rm_X6_pairs s m args below meth c D 21 a (fM a cI) 8 (zQi below args s D 21 a (fM a cI) o) σ 35 [some (.ref (a 0)), some (.int v1), some (.int v2), some (.int v3), some (.int v4), some (.int v5), some (.int v6), none] []) (v1 : Int32) (v2 : Int32) (v3 : Int32) (v4 : Int32) (v6 : Int32) (v7 : Int32) (s0 : Int32) (σ : zSt) (h : B_X6_pairs_93  K19 K35 v1 v2 v3 v4 v6 v7 s0 σ = some o) : zV p l e rm_X6_pairs s m args below meth c D 21 a (fM a cI) 8 (zQi below args s D 21 a (fM a cI) o) σ 93 [some (.ref (a 0)), some (.int v1), some (.int v2), some (.int v3), some (.int v4), none, some (.int v6), some (.int v7)] [.int s0] := by
  unfold B_X6_pairs_93 at h
  refine r_istore (lv' := [some (.ref (a 0)), some (.int v1), some (.int v2), some (.int v3), some (.int v4), some (.int s0), some (.int v6), some (.int v7)]) C dX6_pairs_93 (by decide) rfl rfl ?_
  refine r_iload (x := v4) C dX6_pairs_95 rfl ?_
  refine r_iload (x := v7) C dX6_pairs_97 rfl ?_
  refine r_ior C dX6_pairs_99 ?_
  refine r_nm h (fun x13 h => ?_)
  refine r_istore (lv' := [some (.ref (a 0)), some (.int v1), some (.int v2), some (.int v3), some (.int x13), some (.int s0), some (.int v6), some (.int v7)]) C dX6_pairs_100 (by decide) rfl rfl ?_
  refine r_gen h (fun x14 ex14 h => ?_)
  refine r_iinc (x := v6) (v := x14) (lv' := [some (.ref (a 0)), some (.int v1), some (.int v2), some (.int v3), some (.int x13), some (.int s0), some (.int x14), some (.int v7)]) C dX6_pairs_102 rfl (by rw [← ex14]; rfl) (by decide) rfl rfl ?_
  clear ex14
  refine r_goto (tgt := 35) C dX6_pairs_105 (by decide) ?_
  exact r_le (lv' := [some (.ref (a 0)), some (.int v1), some (.int v2), some (.int v3), some (.int x13), some (.int s0), some (.int x14), none]) ⟨rfl, rfl, rfl, rfl, rfl, rfl, rfl, trivial⟩ (hK35 v1 v2 v3 x13 s0 x14 σ h)
set_option maxRecDepth 20000 in
theorem tB_X6_pairs_78 {p : Program} {l : Launch} {e : Env} {s : State} {m : MethodId} {args : Array Value} {below : List Frame} {meth : Method} {c : Code} {D : va_G} {a : Nat → Nat} {cI cO cA : ClassId} {o : Int32 × zSt} (C : zC p s m args meth c D (ztys cI cO cA) 21 a cX6_pairs 8 RX6 (some .int)) {K19 : (Int32 → Int32 → Int32 → zSt → Option (Int32 × zSt))} {K35 : (Int32 → Int32 → Int32 → Int32 → Int32 → Int32 → zSt → Option (Int32 × zSt))} (hK19 : ∀ (v1 : Int32) (v2 : Int32) (v3 : Int32) (σ : zSt), K19 v1 v2 v3 σ = some o → zV p l e rm_X6_pairs s m args below meth c D 21 a (fM a cI) 8 (zQi below args s D 21 a (fM a cI) o) σ 19 [some (.ref (a 0)), some (.int v1), some (.int v2), some (.int v3), none, none, none, none] []) (hK35 : ∀ (v1 : Int32) (v2 : Int32) (v3 : Int32) (v4 : Int32) (v5 : Int32) (v6 : Int32) (σ : zSt), K35 v1 v2 v3 v4 v5 v6 σ = some o → zV p l e rm_X6_pairs s m args below meth c D 21 a (fM a cI) 8 (zQi below args s D 21 a (fM a cI) o) σ 35 [some (.ref (a 0)), some (.int v1), some (.int v2), some (.int v3), some (.int v4), some (.int v5), some (.int v6), none] []) (v1 : Int32) (v2 : Int32) (v3 : Int32) (v4 : Int32) (v6 : Int32) (s0 : Int32) (σ : zSt) (h : B_X6_pairs_78  K19 K35 v1 v2 v3 v4 v6 s0 σ = some o) : zV p l e rm_X6_pairs s m args below meth c D 21 a (fM a cI) 8 (zQi below args s D 21 a (fM a cI) o) σ 78 [some (.ref (a 0)), some (.int v1), some (.int v2), some (.int v3), some (.int v4), none, some (.int v6), none] [.int s0] := by
  unfold B_X6_pairs_78 at h
  refine r_istore (lv' := [some (.ref (a 0)), some (.int v1), some (.int v2), some (.int v3), some (.int v4), none, some (.int v6), some (.int s0)]) C dX6_pairs_78 (by decide) rfl rfl ?_
  refine r_iload (x := v4) C dX6_pairs_80 rfl ?_
  refine r_iload (x := s0) C dX6_pairs_82 rfl ?_
  refine r_iand C dX6_pairs_84 ?_
  refine r_if_ne (tgt := 92) C dX6_pairs_85 (by decide) h (fun h => ?_) (fun h => ?_)
  · refine r_iconst (v := 0) C dX6_pairs_92 (by decide) ?_
    exact r_le (lv' := [some (.ref (a 0)), some (.int v1), some (.int v2), some (.int v3), some (.int v4), none, some (.int v6), some (.int s0)]) ⟨rfl, rfl, rfl, rfl, rfl, rfl, rfl, trivial⟩ (tB_X6_pairs_93 C (K19 := K19) (K35 := K35) hK19 hK35 v1 v2 v3 v4 v6 s0 (0 : Int32) σ h)
  · refine r_iconst (v := 1) C dX6_pairs_88 (by decide) ?_
    refine r_goto (tgt := 93) C dX6_pairs_89 (by decide) ?_
    exact r_le (lv' := [some (.ref (a 0)), some (.int v1), some (.int v2), some (.int v3), some (.int v4), none, some (.int v6), some (.int s0)]) ⟨rfl, rfl, rfl, rfl, rfl, rfl, rfl, trivial⟩ (tB_X6_pairs_93 C (K19 := K19) (K35 := K35) hK19 hK35 v1 v2 v3 v4 v6 s0 (1 : Int32) σ h)
set_option maxRecDepth 20000 in
theorem tB_X6_pairs_35 {p : Program} {l : Launch} {e : Env} {s : State} {m : MethodId} {args : Array Value} {below : List Frame} {meth : Method} {c : Code} {D : va_G} {a : Nat → Nat} {cI cO cA : ClassId} {o : Int32 × zSt} (C : zC p s m args meth c D (ztys cI cO cA) 21 a cX6_pairs 8 RX6 (some .int)) {K19 : (Int32 → Int32 → Int32 → zSt → Option (Int32 × zSt))} {K35 : (Int32 → Int32 → Int32 → Int32 → Int32 → Int32 → zSt → Option (Int32 × zSt))} (hK19 : ∀ (v1 : Int32) (v2 : Int32) (v3 : Int32) (σ : zSt), K19 v1 v2 v3 σ = some o → zV p l e rm_X6_pairs s m args below meth c D 21 a (fM a cI) 8 (zQi below args s D 21 a (fM a cI) o) σ 19 [some (.ref (a 0)), some (.int v1), some (.int v2), some (.int v3), none, none, none, none] []) (hK35 : ∀ (v1 : Int32) (v2 : Int32) (v3 : Int32) (v4 : Int32) (v5 : Int32) (v6 : Int32) (σ : zSt), K35 v1 v2 v3 v4 v5 v6 σ = some o → zV p l e rm_X6_pairs s m args below meth c D 21 a (fM a cI) 8 (zQi below args s D 21 a (fM a cI) o) σ 35 [some (.ref (a 0)), some (.int v1), some (.int v2), some (.int v3), some (.int v4), some (.int v5), some (.int v6), none] []) (v1 : Int32) (v2 : Int32) (v3 : Int32) (v4 : Int32) (v5 : Int32) (v6 : Int32) (σ : zSt) (h : B_X6_pairs_35  K19 K35 v1 v2 v3 v4 v5 v6 σ = some o) : zV p l e rm_X6_pairs s m args below meth c D 21 a (fM a cI) 8 (zQi below args s D 21 a (fM a cI) o) σ 35 [some (.ref (a 0)), some (.int v1), some (.int v2), some (.int v3), some (.int v4), some (.int v5), some (.int v6), none] [] := by
  unfold B_X6_pairs_35 at h
  refine r_iload (x := v6) C dX6_pairs_35 rfl ?_
  refine r_iload_n (x := v1) C dX6_pairs_37 rfl ?_
  refine r_icmp_ge (tgt := 108) C dX6_pairs_38 (by decide) h (fun h => ?_) (fun h => ?_)
  · exact r_le (lv' := [some (.ref (a 0)), some (.int v1), some (.int v2), some (.int v3), none, some (.int v5), none, none]) ⟨rfl, rfl, rfl, rfl, rfl, trivial⟩ (tB_X6_pairs_108 C (K19 := K19) hK19 v1 v2 v3 v5 σ h)
  · refine r_iload (x := v5) C dX6_pairs_41 rfl ?_
    refine r_if_eq (tgt := 108) C dX6_pairs_43 (by decide) h (fun h => ?_) (fun h => ?_)
    · exact r_le (lv' := [some (.ref (a 0)), some (.int v1), some (.int v2), some (.int v3), none, some (.int v5), none, none]) ⟨rfl, rfl, rfl, rfl, rfl, trivial⟩ (tB_X6_pairs_108 C (K19 := K19) hK19 v1 v2 v3 v5 σ h)
    · refine r_iload_n (x := v3) C dX6_pairs_46 rfl ?_
      refine r_iload (x := v6) C dX6_pairs_47 rfl ?_
      refine r_callSi C [.int v3, .int v6] [] zc_X6_87 zB_X6_isOf ⟨rfl, rfl, by decide, by decide⟩ (fun out h => c_X6_isOf C.2.2.2.2.2.2.2.1  h) rfl rfl (Nat.le_of_ble_eq_true rfl) dX6_pairs_49 h (fun x5 σ4 h => ?_)
      refine r_if_eq (tgt := 77) C dX6_pairs_52 (by decide) h (fun h => ?_) (fun h => ?_)
      · refine r_iconst (v := 0) C dX6_pairs_77 (by decide) ?_
        exact r_le (lv' := [some (.ref (a 0)), some (.int v1), some (.int v2), some (.int v3), some (.int v4), none, some (.int v6), none]) ⟨rfl, rfl, rfl, rfl, rfl, rfl, trivial⟩ (tB_X6_pairs_78 C (K19 := K19) (K35 := K35) hK19 hK35 v1 v2 v3 v4 v6 (0 : Int32) σ4 h)
      · refine r_iconst (v := 1) C dX6_pairs_55 (by decide) ?_
        refine r_aload_n (x := (a 0)) C dX6_pairs_56 rfl ?_
        refine gf_X6_55 C dX6_pairs_57 ?_
        refine r_iload (x := v6) C dX6_pairs_60 rfl ?_
        refine r_iald (t0 := 0) C 16 aM_16 rfl dX6_pairs_62 h (fun x6 h => ?_)
        refine r_ishl C dX6_pairs_63 ?_
        refine r_iconst (v := 1) C dX6_pairs_64 (by decide) ?_
        refine r_aload_n (x := (a 0)) C dX6_pairs_65 rfl ?_
        refine gf_X6_58 C dX6_pairs_66 ?_
        refine r_iload (x := v6) C dX6_pairs_69 rfl ?_
        refine r_iald (t0 := 0) C 17 aM_17 rfl dX6_pairs_71 h (fun x7 h => ?_)
        refine r_ishl C dX6_pairs_72 ?_
        refine r_ior C dX6_pairs_73 ?_
        refine r_goto (tgt := 78) C dX6_pairs_74 (by decide) ?_
        exact r_le (lv' := [some (.ref (a 0)), some (.int v1), some (.int v2), some (.int v3), some (.int v4), none, some (.int v6), none]) ⟨rfl, rfl, rfl, rfl, rfl, rfl, trivial⟩ (tB_X6_pairs_78 C (K19 := K19) (K35 := K35) hK19 hK35 v1 v2 v3 v4 v6 ((zon x6) ||| (zon x7)) σ4 h)
set_option maxRecDepth 20000 in
theorem tL_X6_pairs_35 {p : Program} {l : Launch} {e : Env} {s : State} {m : MethodId} {args : Array Value} {below : List Frame} {meth : Method} {c : Code} {D : va_G} {a : Nat → Nat} {cI cO cA : ClassId} {o : Int32 × zSt} (C : zC p s m args meth c D (ztys cI cO cA) 21 a cX6_pairs 8 RX6 (some .int)) {K19 : (Int32 → Int32 → Int32 → zSt → Option (Int32 × zSt))} (hK19 : ∀ (v1 : Int32) (v2 : Int32) (v3 : Int32) (σ : zSt), K19 v1 v2 v3 σ = some o → zV p l e rm_X6_pairs s m args below meth c D 21 a (fM a cI) 8 (zQi below args s D 21 a (fM a cI) o) σ 19 [some (.ref (a 0)), some (.int v1), some (.int v2), some (.int v3), none, none, none, none] []) (v1 : Int32) (v2 : Int32) (v3 : Int32) (v4 : Int32) (v5 : Int32) (v6 : Int32) (σ : zSt) (h : L_X6_pairs_35  K19 v1 v2 v3 v4 v5 v6 σ = some o) : zV p l e rm_X6_pairs s m args below meth c D 21 a (fM a cI) 8 (zQi below args s D 21 a (fM a cI) o) σ 35 [some (.ref (a 0)), some (.int v1), some (.int v2), some (.int v3), some (.int v4), some (.int v5), some (.int v6), none] [] := by
  unfold L_X6_pairs_35 at h
  refine zloop_ind (G := fun x => zV p l e rm_X6_pairs s m args below meth c D 21 a (fM a cI) 8 (zQi below args s D 21 a (fM a cI) o) x.2.2.2.2.2.2 35 [some (.ref (a 0)), some (.int x.1), some (.int x.2.1), some (.int x.2.2.1), some (.int x.2.2.2.1), some (.int x.2.2.2.2.1), some (.int x.2.2.2.2.2.1), none] []) ?_ zFU _ h
  intro rec hr x h
  exact tB_X6_pairs_35 C  hK19 (fun v1 v2 v3 v4 v5 v6 σ => hr (v1, v2, v3, v4, v5, v6, σ)) _ _ _ _ _ _ _ h
set_option maxRecDepth 20000 in
theorem tB_X6_pairs_19 {p : Program} {l : Launch} {e : Env} {s : State} {m : MethodId} {args : Array Value} {below : List Frame} {meth : Method} {c : Code} {D : va_G} {a : Nat → Nat} {cI cO cA : ClassId} {o : Int32 × zSt} (C : zC p s m args meth c D (ztys cI cO cA) 21 a cX6_pairs 8 RX6 (some .int)) {K19 : (Int32 → Int32 → Int32 → zSt → Option (Int32 × zSt))} (hK19 : ∀ (v1 : Int32) (v2 : Int32) (v3 : Int32) (σ : zSt), K19 v1 v2 v3 σ = some o → zV p l e rm_X6_pairs s m args below meth c D 21 a (fM a cI) 8 (zQi below args s D 21 a (fM a cI) o) σ 19 [some (.ref (a 0)), some (.int v1), some (.int v2), some (.int v3), none, none, none, none] []) (v1 : Int32) (v2 : Int32) (v3 : Int32) (σ : zSt) (h : B_X6_pairs_19  K19 v1 v2 v3 σ = some o) : zV p l e rm_X6_pairs s m args below meth c D 21 a (fM a cI) 8 (zQi below args s D 21 a (fM a cI) o) σ 19 [some (.ref (a 0)), some (.int v1), some (.int v2), some (.int v3), none, none, none, none] [] := by
  unfold B_X6_pairs_19 at h
  refine r_iload_n (x := v3) C dX6_pairs_19 rfl ?_
  refine r_iconst (v := 1) C dX6_pairs_20 (by decide) ?_
  refine r_iload_n (x := v1) C dX6_pairs_21 rfl ?_
  refine r_ishl C dX6_pairs_22 ?_
  refine r_icmp_ge (tgt := 136) C dX6_pairs_23 (by decide) h (fun h => ?_) (fun h => ?_)
  · refine r_iload_n (x := v2) C dX6_pairs_136 rfl ?_
    exact r_iret C dX6_pairs_137 h
  · refine r_iconst (v := 0) C dX6_pairs_26 (by decide) ?_
    refine r_istore (lv' := [some (.ref (a 0)), some (.int v1), some (.int v2), some (.int v3), some (.int (0 : Int32)), none, none, none]) C dX6_pairs_27 (by decide) rfl rfl ?_
    refine r_iconst (v := 1) C dX6_pairs_29 (by decide) ?_
    refine r_istore (lv' := [some (.ref (a 0)), some (.int v1), some (.int v2), some (.int v3), some (.int (0 : Int32)), some (.int (1 : Int32)), none, none]) C dX6_pairs_30 (by decide) rfl rfl ?_
    refine r_iconst (v := 0) C dX6_pairs_32 (by decide) ?_
    refine r_istore (lv' := [some (.ref (a 0)), some (.int v1), some (.int v2), some (.int v3), some (.int (0 : Int32)), some (.int (1 : Int32)), some (.int (0 : Int32)), none]) C dX6_pairs_33 (by decide) rfl rfl ?_
    exact r_le (lv' := [some (.ref (a 0)), some (.int v1), some (.int v2), some (.int v3), some (.int (0 : Int32)), some (.int (1 : Int32)), some (.int (0 : Int32)), none]) ⟨rfl, rfl, rfl, rfl, rfl, rfl, rfl, trivial⟩ (tL_X6_pairs_35 C (K19 := K19) hK19 v1 v2 v3 (0 : Int32) (1 : Int32) (0 : Int32) σ h)
set_option maxRecDepth 20000 in
theorem tL_X6_pairs_19 {p : Program} {l : Launch} {e : Env} {s : State} {m : MethodId} {args : Array Value} {below : List Frame} {meth : Method} {c : Code} {D : va_G} {a : Nat → Nat} {cI cO cA : ClassId} {o : Int32 × zSt} (C : zC p s m args meth c D (ztys cI cO cA) 21 a cX6_pairs 8 RX6 (some .int))  (v1 : Int32) (v2 : Int32) (v3 : Int32) (σ : zSt) (h : L_X6_pairs_19   v1 v2 v3 σ = some o) : zV p l e rm_X6_pairs s m args below meth c D 21 a (fM a cI) 8 (zQi below args s D 21 a (fM a cI) o) σ 19 [some (.ref (a 0)), some (.int v1), some (.int v2), some (.int v3), none, none, none, none] [] := by
  unfold L_X6_pairs_19 at h
  refine zloop_ind (G := fun x => zV p l e rm_X6_pairs s m args below meth c D 21 a (fM a cI) 8 (zQi below args s D 21 a (fM a cI) o) x.2.2.2 19 [some (.ref (a 0)), some (.int x.1), some (.int x.2.1), some (.int x.2.2.1), none, none, none, none] []) ?_ zFU _ h
  intro rec hr x h
  exact tB_X6_pairs_19 C   (fun v1 v2 v3 σ => hr (v1, v2, v3, σ)) _ _ _ _ h
set_option maxRecDepth 20000 in
theorem c_X6_pairs {l : Launch} {D : va_G} {a : Nat → Nat} {cI cO cA : ClassId} (hinj : ∀ i j, i < 21 → j < 21 → a i = a j → i = j) {σ : zSt} {o : Int32 × zSt} (h : M_X6_pairs  σ = some o) : zMi l D (ztys cI cO cA) 21 a (fM a cI) yX6_pairs cX6_pairs 8 (some .int) rm_X6_pairs [.ref (a 0)] σ o := by
  unfold M_X6_pairs at h
  refine zmeti (own := RX6) [some (.ref (a 0)), none, none, none, none, none, none, none] (by decide) rfl hinj (Nat.le_of_ble_eq_true rfl) rfl (fun p e s m args below meth c C => ?_)
  refine r_aload_n (x := (a 0)) C dX6_pairs_0 rfl ?_
  refine gf_X6_80 C dX6_pairs_1 h (fun x1 h => ?_)
  refine r_if_ne (tgt := 10) C dX6_pairs_4 (by decide) h (fun h => ?_) (fun h => ?_)
  · refine r_aload_n (x := (a 0)) C dX6_pairs_10 rfl ?_
    refine r_callVi C [] [] (b := 0) (by decide) fM_0 rfl rfl zc_X6_195 zB_X6_findTwigs ⟨rfl, rfl, by decide, by decide⟩ (fun out h => c_X6_findTwigs C.2.2.2.2.2.2.2.1  h) rfl rfl (Nat.le_of_ble_eq_true rfl) dX6_pairs_11 h (fun x3 σ2 h => ?_)
    refine r_istore_n (lv' := [some (.ref (a 0)), some (.int x3), none, none, none, none, none, none]) C dX6_pairs_14 (by decide) rfl rfl ?_
    refine r_iconst (v := 0) C dX6_pairs_15 (by decide) ?_
    refine r_istore_n (lv' := [some (.ref (a 0)), some (.int x3), some (.int (0 : Int32)), none, none, none, none, none]) C dX6_pairs_16 (by decide) rfl rfl ?_
    refine r_iconst (v := 0) C dX6_pairs_17 (by decide) ?_
    refine r_istore_n (lv' := [some (.ref (a 0)), some (.int x3), some (.int (0 : Int32)), some (.int (0 : Int32)), none, none, none, none]) C dX6_pairs_18 (by decide) rfl rfl ?_
    exact r_le (lv' := [some (.ref (a 0)), some (.int x3), some (.int (0 : Int32)), some (.int (0 : Int32)), none, none, none, none]) ⟨rfl, rfl, rfl, rfl, trivial⟩ (tL_X6_pairs_19 C x3 (0 : Int32) (0 : Int32) σ2 h)
  · refine r_bipush (v := -3) C dX6_pairs_7 (by decide) ?_
    exact r_iret C dX6_pairs_9 h
/-! VineRowsModel.loners -/
abbrev rm_X6_loners : Room := { frames := 2, cells := 0, slots := 0, locals := 44 }
def B_X6_loners_115 (p1 : Int32) (K29 : (Int32 → Int32 → Int32 → zSt → Option (Int32 × zSt))) (v2 : Int32) (v3 : Int32) (v4 : Int32) (σ : zSt) : Option (Int32 × zSt) := znm (v4 + (1 : Int32)) (fun x13 => K29 v2 v3 x13 σ)
def B_X6_loners_78 (p1 : Int32) (K29 : (Int32 → Int32 → Int32 → zSt → Option (Int32 × zSt))) (K46 : (Int32 → Int32 → Int32 → Int32 → Int32 → zSt → Option (Int32 × zSt))) (v2 : Int32) (v3 : Int32) (v4 : Int32) (v6 : Int32) (s0 : Int32) (s1 : Int32) (σ : zSt) : Option (Int32 × zSt) := znm ((s1 ||| s0)) (fun x14 => znm (v6 + (1 : Int32)) (fun x15 => K46 v2 v3 v4 x14 x15 σ))
def B_X6_loners_46 (p1 : Int32) (K29 : (Int32 → Int32 → Int32 → zSt → Option (Int32 × zSt))) (K46 : (Int32 → Int32 → Int32 → Int32 → Int32 → zSt → Option (Int32 × zSt))) (v2 : Int32) (v3 : Int32) (v4 : Int32) (v5 : Int32) (v6 : Int32) (σ : zSt) : Option (Int32 × zSt) := znm (σ 0 5) (fun x5 => (if x5 ≤ v6 then (if (v5 &&& v4) = 0 then zbd (M_X6_worthOfSet v4 σ) (fun x7 σ6 => (if x7 ≤ v3 then B_X6_loners_115 p1 K29 v2 v3 v4 σ6 else zbd (M_X6_worthOfSet v4 σ6) (fun x9 σ8 => B_X6_loners_115 p1 K29 v4 x9 v4 σ8))) else B_X6_loners_115 p1 K29 v2 v3 v4 σ) else zbd (M_X6_isOf v4 v6 σ) (fun x11 σ10 => (if x11 = 0 then B_X6_loners_78 p1 K29 K46 v2 v3 v4 v6 (0 : Int32) v5 σ10 else zga (σ10 4) v6 8 (fun x12 => B_X6_loners_78 p1 K29 K46 v2 v3 v4 v6 x12 v5 σ10)))))
def L_X6_loners_46 (p1 : Int32) (K29 : (Int32 → Int32 → Int32 → zSt → Option (Int32 × zSt))) (v2 : Int32) (v3 : Int32) (v4 : Int32) (v5 : Int32) (v6 : Int32) (σ : zSt) : Option (Int32 × zSt) := zloop (fun (rec : Int32 × Int32 × Int32 × Int32 × Int32 × zSt → Option (Int32 × zSt)) x => B_X6_loners_46 p1 K29 (fun v2 v3 v4 v5 v6 σ => rec (v2, v3, v4, v5, v6, σ)) x.1 x.2.1 x.2.2.1 x.2.2.2.1 x.2.2.2.2.1 x.2.2.2.2.2) zFU (v2, v3, v4, v5, v6, σ)
def B_X6_loners_29 (p1 : Int32) (K29 : (Int32 → Int32 → Int32 → zSt → Option (Int32 × zSt))) (v2 : Int32) (v3 : Int32) (v4 : Int32) (σ : zSt) : Option (Int32 × zSt) := znm (σ 0 5) (fun x4 => (if (zon x4) ≤ v4 then (if p1 = 0 then some (v3, σ) else some (v2, σ)) else L_X6_loners_46 p1 K29 v2 v3 v4 (0 : Int32) (0 : Int32) σ))
def L_X6_loners_29 (p1 : Int32) (v2 : Int32) (v3 : Int32) (v4 : Int32) (σ : zSt) : Option (Int32 × zSt) := zloop (fun (rec : Int32 × Int32 × Int32 × zSt → Option (Int32 × zSt)) x => B_X6_loners_29 p1  (fun v2 v3 v4 σ => rec (v2, v3, v4, σ)) x.1 x.2.1 x.2.2.1 x.2.2.2) zFU (v2, v3, v4, σ)
def M_X6_loners (p1 : Int32) (σ : zSt) : Option (Int32 × zSt) := zbd (M_X6_within p1 (0 : Int32) (1 : Int32) σ) (fun x2 σ1 => (if x2 = 0 then some ((-2 : Int32), σ1) else znm (σ1 0 5) (fun x3 => (if x3 = 0 then some ((-3 : Int32), σ1) else L_X6_loners_29 p1 (0 : Int32) (0 : Int32) (0 : Int32) σ1))))
set_option maxRecDepth 20000 in
theorem tB_X6_loners_115 {p : Program} {l : Launch} {e : Env} {s : State} {m : MethodId} {args : Array Value} {below : List Frame} {meth : Method} {c : Code} {D : va_G} {a : Nat → Nat} {cI cO cA : ClassId} {o : Int32 × zSt} (C : zC p s m args meth c D (ztys cI cO cA) 21 a cX6_loners 7 RX6 (some .int)) {p1 : Int32} {K29 : (Int32 → Int32 → Int32 → zSt → Option (Int32 × zSt))} (hK29 : ∀ (v2 : Int32) (v3 : Int32) (v4 : Int32) (σ : zSt), K29 v2 v3 v4 σ = some o → zV p l e rm_X6_loners s m args below meth c D 21 a (fM a cI) 7 (zQi below args s D 21 a (fM a cI) o) σ 29 [some (.ref (a 0)), some (.int p1), some (.int v2), some (.int v3), some (.int v4), none, none] []) (v2 : Int32) (v3 : Int32) (v4 : Int32) (σ : zSt) (h : B_X6_loners_115 p1 K29 v2 v3 v4 σ = some o) : zV p l e rm_X6_loners s m args below meth c D 21 a (fM a cI) 7 (zQi below args s D 21 a (fM a cI) o) σ 115 [some (.ref (a 0)), some (.int p1), some (.int v2), some (.int v3), some (.int v4), none, none] [] := by
  unfold B_X6_loners_115 at h
  refine r_gen h (fun x13 ex13 h => ?_)
  refine r_iinc (x := v4) (v := x13) (lv' := [some (.ref (a 0)), some (.int p1), some (.int v2), some (.int v3), some (.int x13), none, none]) C dX6_loners_115 rfl (by rw [← ex13]; rfl) (by decide) rfl rfl ?_
  clear ex13
  refine r_goto (tgt := 29) C dX6_loners_118 (by decide) ?_
  exact r_le (lv' := [some (.ref (a 0)), some (.int p1), some (.int v2), some (.int v3), some (.int x13), none, none]) ⟨rfl, rfl, rfl, rfl, rfl, trivial⟩ (hK29 v2 v3 x13 σ h)
set_option maxRecDepth 20000 in
theorem tB_X6_loners_78 {p : Program} {l : Launch} {e : Env} {s : State} {m : MethodId} {args : Array Value} {below : List Frame} {meth : Method} {c : Code} {D : va_G} {a : Nat → Nat} {cI cO cA : ClassId} {o : Int32 × zSt} (C : zC p s m args meth c D (ztys cI cO cA) 21 a cX6_loners 7 RX6 (some .int)) {p1 : Int32} {K29 : (Int32 → Int32 → Int32 → zSt → Option (Int32 × zSt))} {K46 : (Int32 → Int32 → Int32 → Int32 → Int32 → zSt → Option (Int32 × zSt))} (hK29 : ∀ (v2 : Int32) (v3 : Int32) (v4 : Int32) (σ : zSt), K29 v2 v3 v4 σ = some o → zV p l e rm_X6_loners s m args below meth c D 21 a (fM a cI) 7 (zQi below args s D 21 a (fM a cI) o) σ 29 [some (.ref (a 0)), some (.int p1), some (.int v2), some (.int v3), some (.int v4), none, none] []) (hK46 : ∀ (v2 : Int32) (v3 : Int32) (v4 : Int32) (v5 : Int32) (v6 : Int32) (σ : zSt), K46 v2 v3 v4 v5 v6 σ = some o → zV p l e rm_X6_loners s m args below meth c D 21 a (fM a cI) 7 (zQi below args s D 21 a (fM a cI) o) σ 46 [some (.ref (a 0)), some (.int p1), some (.int v2), some (.int v3), some (.int v4), some (.int v5), some (.int v6)] []) (v2 : Int32) (v3 : Int32) (v4 : Int32) (v6 : Int32) (s0 : Int32) (s1 : Int32) (σ : zSt) (h : B_X6_loners_78 p1 K29 K46 v2 v3 v4 v6 s0 s1 σ = some o) : zV p l e rm_X6_loners s m args below meth c D 21 a (fM a cI) 7 (zQi below args s D 21 a (fM a cI) o) σ 78 [some (.ref (a 0)), some (.int p1), some (.int v2), some (.int v3), some (.int v4), none, some (.int v6)] [.int s0, .int s1] := by
  unfold B_X6_loners_78 at h
  refine r_ior C dX6_loners_78 ?_
  refine r_nm h (fun x14 h => ?_)
  refine r_istore (lv' := [some (.ref (a 0)), some (.int p1), some (.int v2), some (.int v3), some (.int v4), some (.int x14), some (.int v6)]) C dX6_loners_79 (by decide) rfl rfl ?_
  refine r_gen h (fun x15 ex15 h => ?_)
  refine r_iinc (x := v6) (v := x15) (lv' := [some (.ref (a 0)), some (.int p1), some (.int v2), some (.int v3), some (.int v4), some (.int x14), some (.int x15)]) C dX6_loners_81 rfl (by rw [← ex15]; rfl) (by decide) rfl rfl ?_
  clear ex15
  refine r_goto (tgt := 46) C dX6_loners_84 (by decide) ?_
  exact r_le (lv' := [some (.ref (a 0)), some (.int p1), some (.int v2), some (.int v3), some (.int v4), some (.int x14), some (.int x15)]) ⟨rfl, rfl, rfl, rfl, rfl, rfl, rfl, trivial⟩ (hK46 v2 v3 v4 x14 x15 σ h)
set_option maxRecDepth 20000 in
theorem tB_X6_loners_46 {p : Program} {l : Launch} {e : Env} {s : State} {m : MethodId} {args : Array Value} {below : List Frame} {meth : Method} {c : Code} {D : va_G} {a : Nat → Nat} {cI cO cA : ClassId} {o : Int32 × zSt} (C : zC p s m args meth c D (ztys cI cO cA) 21 a cX6_loners 7 RX6 (some .int)) {p1 : Int32} {K29 : (Int32 → Int32 → Int32 → zSt → Option (Int32 × zSt))} {K46 : (Int32 → Int32 → Int32 → Int32 → Int32 → zSt → Option (Int32 × zSt))} (hK29 : ∀ (v2 : Int32) (v3 : Int32) (v4 : Int32) (σ : zSt), K29 v2 v3 v4 σ = some o → zV p l e rm_X6_loners s m args below meth c D 21 a (fM a cI) 7 (zQi below args s D 21 a (fM a cI) o) σ 29 [some (.ref (a 0)), some (.int p1), some (.int v2), some (.int v3), some (.int v4), none, none] []) (hK46 : ∀ (v2 : Int32) (v3 : Int32) (v4 : Int32) (v5 : Int32) (v6 : Int32) (σ : zSt), K46 v2 v3 v4 v5 v6 σ = some o → zV p l e rm_X6_loners s m args below meth c D 21 a (fM a cI) 7 (zQi below args s D 21 a (fM a cI) o) σ 46 [some (.ref (a 0)), some (.int p1), some (.int v2), some (.int v3), some (.int v4), some (.int v5), some (.int v6)] []) (v2 : Int32) (v3 : Int32) (v4 : Int32) (v5 : Int32) (v6 : Int32) (σ : zSt) (h : B_X6_loners_46 p1 K29 K46 v2 v3 v4 v5 v6 σ = some o) : zV p l e rm_X6_loners s m args below meth c D 21 a (fM a cI) 7 (zQi below args s D 21 a (fM a cI) o) σ 46 [some (.ref (a 0)), some (.int p1), some (.int v2), some (.int v3), some (.int v4), some (.int v5), some (.int v6)] [] := by
  unfold B_X6_loners_46 at h
  refine r_iload (x := v6) C dX6_loners_46 rfl ?_
  refine r_aload_n (x := (a 0)) C dX6_loners_48 rfl ?_
  refine gf_X6_80 C dX6_loners_49 h (fun x5 h => ?_)
  refine r_icmp_ge (tgt := 87) C dX6_loners_52 (by decide) h (fun h => ?_) (fun h => ?_)
  · refine r_iload (x := v5) C dX6_loners_87 rfl ?_
    refine r_iload (x := v4) C dX6_loners_89 rfl ?_
    refine r_iand C dX6_loners_91 ?_
    refine r_if_ne (tgt := 115) C dX6_loners_92 (by decide) h (fun h => ?_) (fun h => ?_)
    · exact r_le (lv' := [some (.ref (a 0)), some (.int p1), some (.int v2), some (.int v3), some (.int v4), none, none]) ⟨rfl, rfl, rfl, rfl, rfl, trivial⟩ (tB_X6_loners_115 C (K29 := K29) hK29 v2 v3 v4 σ h)
    · refine r_aload_n (x := (a 0)) C dX6_loners_95 rfl ?_
      refine r_iload (x := v4) C dX6_loners_96 rfl ?_
      refine r_callVi C [.int v4] [] (b := 0) (by decide) fM_0 rfl rfl zc_X6_181 zB_X6_worthOfSet ⟨rfl, rfl, by decide, by decide⟩ (fun out h => c_X6_worthOfSet C.2.2.2.2.2.2.2.1  h) rfl rfl (Nat.le_of_ble_eq_true rfl) dX6_loners_98 h (fun x7 σ6 h => ?_)
      refine r_iload_n (x := v3) C dX6_loners_101 rfl ?_
      refine r_icmp_le (tgt := 115) C dX6_loners_102 (by decide) h (fun h => ?_) (fun h => ?_)
      · exact r_le (lv' := [some (.ref (a 0)), some (.int p1), some (.int v2), some (.int v3), some (.int v4), none, none]) ⟨rfl, rfl, rfl, rfl, rfl, trivial⟩ (tB_X6_loners_115 C (K29 := K29) hK29 v2 v3 v4 σ6 h)
      · refine r_iload (x := v4) C dX6_loners_105 rfl ?_
        refine r_istore_n (lv' := [some (.ref (a 0)), some (.int p1), some (.int v4), some (.int v3), some (.int v4), some (.int v5), some (.int v6)]) C dX6_loners_107 (by decide) rfl rfl ?_
        refine r_aload_n (x := (a 0)) C dX6_loners_108 rfl ?_
        refine r_iload (x := v4) C dX6_loners_109 rfl ?_
        refine r_callVi C [.int v4] [] (b := 0) (by decide) fM_0 rfl rfl zc_X6_181 zB_X6_worthOfSet ⟨rfl, rfl, by decide, by decide⟩ (fun out h => c_X6_worthOfSet C.2.2.2.2.2.2.2.1  h) rfl rfl (Nat.le_of_ble_eq_true rfl) dX6_loners_111 h (fun x9 σ8 h => ?_)
        refine r_istore_n (lv' := [some (.ref (a 0)), some (.int p1), some (.int v4), some (.int x9), some (.int v4), some (.int v5), some (.int v6)]) C dX6_loners_114 (by decide) rfl rfl ?_
        exact r_le (lv' := [some (.ref (a 0)), some (.int p1), some (.int v4), some (.int x9), some (.int v4), none, none]) ⟨rfl, rfl, rfl, rfl, rfl, trivial⟩ (tB_X6_loners_115 C (K29 := K29) hK29 v4 x9 v4 σ8 h)
  · refine r_iload (x := v5) C dX6_loners_55 rfl ?_
    refine r_iload (x := v4) C dX6_loners_57 rfl ?_
    refine r_iload (x := v6) C dX6_loners_59 rfl ?_
    refine r_callSi C [.int v4, .int v6] [.int v5] zc_X6_87 zB_X6_isOf ⟨rfl, rfl, by decide, by decide⟩ (fun out h => c_X6_isOf C.2.2.2.2.2.2.2.1  h) rfl rfl (Nat.le_of_ble_eq_true rfl) dX6_loners_61 h (fun x11 σ10 h => ?_)
    refine r_if_eq (tgt := 77) C dX6_loners_64 (by decide) h (fun h => ?_) (fun h => ?_)
    · refine r_iconst (v := 0) C dX6_loners_77 (by decide) ?_
      exact r_le (lv' := [some (.ref (a 0)), some (.int p1), some (.int v2), some (.int v3), some (.int v4), none, some (.int v6)]) ⟨rfl, rfl, rfl, rfl, rfl, rfl, trivial⟩ (tB_X6_loners_78 C (K29 := K29) (K46 := K46) hK29 hK46 v2 v3 v4 v6 (0 : Int32) v5 σ10 h)
    · refine r_aload_n (x := (a 0)) C dX6_loners_67 rfl ?_
      refine gf_X6_19 C dX6_loners_68 ?_
      refine r_iload (x := v6) C dX6_loners_71 rfl ?_
      refine r_iald (t0 := 0) C 4 aM_4 rfl dX6_loners_73 h (fun x12 h => ?_)
      refine r_goto (tgt := 78) C dX6_loners_74 (by decide) ?_
      exact r_le (lv' := [some (.ref (a 0)), some (.int p1), some (.int v2), some (.int v3), some (.int v4), none, some (.int v6)]) ⟨rfl, rfl, rfl, rfl, rfl, rfl, trivial⟩ (tB_X6_loners_78 C (K29 := K29) (K46 := K46) hK29 hK46 v2 v3 v4 v6 x12 v5 σ10 h)
set_option maxRecDepth 20000 in
theorem tL_X6_loners_46 {p : Program} {l : Launch} {e : Env} {s : State} {m : MethodId} {args : Array Value} {below : List Frame} {meth : Method} {c : Code} {D : va_G} {a : Nat → Nat} {cI cO cA : ClassId} {o : Int32 × zSt} (C : zC p s m args meth c D (ztys cI cO cA) 21 a cX6_loners 7 RX6 (some .int)) {p1 : Int32} {K29 : (Int32 → Int32 → Int32 → zSt → Option (Int32 × zSt))} (hK29 : ∀ (v2 : Int32) (v3 : Int32) (v4 : Int32) (σ : zSt), K29 v2 v3 v4 σ = some o → zV p l e rm_X6_loners s m args below meth c D 21 a (fM a cI) 7 (zQi below args s D 21 a (fM a cI) o) σ 29 [some (.ref (a 0)), some (.int p1), some (.int v2), some (.int v3), some (.int v4), none, none] []) (v2 : Int32) (v3 : Int32) (v4 : Int32) (v5 : Int32) (v6 : Int32) (σ : zSt) (h : L_X6_loners_46 p1 K29 v2 v3 v4 v5 v6 σ = some o) : zV p l e rm_X6_loners s m args below meth c D 21 a (fM a cI) 7 (zQi below args s D 21 a (fM a cI) o) σ 46 [some (.ref (a 0)), some (.int p1), some (.int v2), some (.int v3), some (.int v4), some (.int v5), some (.int v6)] [] := by
  unfold L_X6_loners_46 at h
  refine zloop_ind (G := fun x => zV p l e rm_X6_loners s m args below meth c D 21 a (fM a cI) 7 (zQi below args s D 21 a (fM a cI) o) x.2.2.2.2.2 46 [some (.ref (a 0)), some (.int p1), some (.int x.1), some (.int x.2.1), some (.int x.2.2.1), some (.int x.2.2.2.1), some (.int x.2.2.2.2.1)] []) ?_ zFU _ h
  intro rec hr x h
  exact tB_X6_loners_46 C  hK29 (fun v2 v3 v4 v5 v6 σ => hr (v2, v3, v4, v5, v6, σ)) _ _ _ _ _ _ h
set_option maxRecDepth 20000 in
theorem tB_X6_loners_29 {p : Program} {l : Launch} {e : Env} {s : State} {m : MethodId} {args : Array Value} {below : List Frame} {meth : Method} {c : Code} {D : va_G} {a : Nat → Nat} {cI cO cA : ClassId} {o : Int32 × zSt} (C : zC p s m args meth c D (ztys cI cO cA) 21 a cX6_loners 7 RX6 (some .int)) {p1 : Int32} {K29 : (Int32 → Int32 → Int32 → zSt → Option (Int32 × zSt))} (hK29 : ∀ (v2 : Int32) (v3 : Int32) (v4 : Int32) (σ : zSt), K29 v2 v3 v4 σ = some o → zV p l e rm_X6_loners s m args below meth c D 21 a (fM a cI) 7 (zQi below args s D 21 a (fM a cI) o) σ 29 [some (.ref (a 0)), some (.int p1), some (.int v2), some (.int v3), some (.int v4), none, none] []) (v2 : Int32) (v3 : Int32) (v4 : Int32) (σ : zSt) (h : B_X6_loners_29 p1 K29 v2 v3 v4 σ = some o) : zV p l e rm_X6_loners s m args below meth c D 21 a (fM a cI) 7 (zQi below args s D 21 a (fM a cI) o) σ 29 [some (.ref (a 0)), some (.int p1), some (.int v2), some (.int v3), some (.int v4), none, none] [] := by
  unfold B_X6_loners_29 at h
  refine r_iload (x := v4) C dX6_loners_29 rfl ?_
  refine r_iconst (v := 1) C dX6_loners_31 (by decide) ?_
  refine r_aload_n (x := (a 0)) C dX6_loners_32 rfl ?_
  refine gf_X6_80 C dX6_loners_33 h (fun x4 h => ?_)
  refine r_ishl C dX6_loners_36 ?_
  refine r_icmp_ge (tgt := 121) C dX6_loners_37 (by decide) h (fun h => ?_) (fun h => ?_)
  · refine r_iload_n (x := p1) C dX6_loners_121 rfl ?_
    refine r_if_ne (tgt := 129) C dX6_loners_122 (by decide) h (fun h => ?_) (fun h => ?_)
    · refine r_iload_n (x := v2) C dX6_loners_129 rfl ?_
      exact r_iret C dX6_loners_130 h
    · refine r_iload_n (x := v3) C dX6_loners_125 rfl ?_
      refine r_goto (tgt := 130) C dX6_loners_126 (by decide) ?_
      exact r_iret C dX6_loners_130 h
  · refine r_iconst (v := 0) C dX6_loners_40 (by decide) ?_
    refine r_istore (lv' := [some (.ref (a 0)), some (.int p1), some (.int v2), some (.int v3), some (.int v4), some (.int (0 : Int32)), none]) C dX6_loners_41 (by decide) rfl rfl ?_
    refine r_iconst (v := 0) C dX6_loners_43 (by decide) ?_
    refine r_istore (lv' := [some (.ref (a 0)), some (.int p1), some (.int v2), some (.int v3), some (.int v4), some (.int (0 : Int32)), some (.int (0 : Int32))]) C dX6_loners_44 (by decide) rfl rfl ?_
    exact r_le (lv' := [some (.ref (a 0)), some (.int p1), some (.int v2), some (.int v3), some (.int v4), some (.int (0 : Int32)), some (.int (0 : Int32))]) ⟨rfl, rfl, rfl, rfl, rfl, rfl, rfl, trivial⟩ (tL_X6_loners_46 C (K29 := K29) hK29 v2 v3 v4 (0 : Int32) (0 : Int32) σ h)
set_option maxRecDepth 20000 in
theorem tL_X6_loners_29 {p : Program} {l : Launch} {e : Env} {s : State} {m : MethodId} {args : Array Value} {below : List Frame} {meth : Method} {c : Code} {D : va_G} {a : Nat → Nat} {cI cO cA : ClassId} {o : Int32 × zSt} (C : zC p s m args meth c D (ztys cI cO cA) 21 a cX6_loners 7 RX6 (some .int)) {p1 : Int32}  (v2 : Int32) (v3 : Int32) (v4 : Int32) (σ : zSt) (h : L_X6_loners_29 p1  v2 v3 v4 σ = some o) : zV p l e rm_X6_loners s m args below meth c D 21 a (fM a cI) 7 (zQi below args s D 21 a (fM a cI) o) σ 29 [some (.ref (a 0)), some (.int p1), some (.int v2), some (.int v3), some (.int v4), none, none] [] := by
  unfold L_X6_loners_29 at h
  refine zloop_ind (G := fun x => zV p l e rm_X6_loners s m args below meth c D 21 a (fM a cI) 7 (zQi below args s D 21 a (fM a cI) o) x.2.2.2 29 [some (.ref (a 0)), some (.int p1), some (.int x.1), some (.int x.2.1), some (.int x.2.2.1), none, none] []) ?_ zFU _ h
  intro rec hr x h
  exact tB_X6_loners_29 C   (fun v2 v3 v4 σ => hr (v2, v3, v4, σ)) _ _ _ _ h
set_option maxRecDepth 20000 in
theorem c_X6_loners {l : Launch} {D : va_G} {a : Nat → Nat} {cI cO cA : ClassId} (hinj : ∀ i j, i < 21 → j < 21 → a i = a j → i = j) {p1 : Int32} {σ : zSt} {o : Int32 × zSt} (h : M_X6_loners p1 σ = some o) : zMi l D (ztys cI cO cA) 21 a (fM a cI) yX6_loners cX6_loners 7 (some .int) rm_X6_loners [.ref (a 0), .int p1] σ o := by
  unfold M_X6_loners at h
  refine zmeti (own := RX6) [some (.ref (a 0)), some (.int p1), none, none, none, none, none] (by decide) rfl hinj (Nat.le_of_ble_eq_true rfl) rfl (fun p e s m args below meth c C => ?_)
  refine r_iload_n (x := p1) C dX6_loners_0 rfl ?_
  refine r_iconst (v := 0) C dX6_loners_1 (by decide) ?_
  refine r_iconst (v := 1) C dX6_loners_2 (by decide) ?_
  refine r_callSi C [.int p1, .int (0 : Int32), .int (1 : Int32)] [] zc_X6_76 zB_X6_within ⟨rfl, rfl, by decide, by decide⟩ (fun out h => c_X6_within C.2.2.2.2.2.2.2.1  h) rfl rfl (Nat.le_of_ble_eq_true rfl) dX6_loners_3 h (fun x2 σ1 h => ?_)
  refine r_if_ne (tgt := 12) C dX6_loners_6 (by decide) h (fun h => ?_) (fun h => ?_)
  · refine r_aload_n (x := (a 0)) C dX6_loners_12 rfl ?_
    refine gf_X6_80 C dX6_loners_13 h (fun x3 h => ?_)
    refine r_if_ne (tgt := 22) C dX6_loners_16 (by decide) h (fun h => ?_) (fun h => ?_)
    · refine r_iconst (v := 0) C dX6_loners_22 (by decide) ?_
      refine r_istore_n (lv' := [some (.ref (a 0)), some (.int p1), some (.int (0 : Int32)), none, none, none, none]) C dX6_loners_23 (by decide) rfl rfl ?_
      refine r_iconst (v := 0) C dX6_loners_24 (by decide) ?_
      refine r_istore_n (lv' := [some (.ref (a 0)), some (.int p1), some (.int (0 : Int32)), some (.int (0 : Int32)), none, none, none]) C dX6_loners_25 (by decide) rfl rfl ?_
      refine r_iconst (v := 0) C dX6_loners_26 (by decide) ?_
      refine r_istore (lv' := [some (.ref (a 0)), some (.int p1), some (.int (0 : Int32)), some (.int (0 : Int32)), some (.int (0 : Int32)), none, none]) C dX6_loners_27 (by decide) rfl rfl ?_
      exact r_le (lv' := [some (.ref (a 0)), some (.int p1), some (.int (0 : Int32)), some (.int (0 : Int32)), some (.int (0 : Int32)), none, none]) ⟨rfl, rfl, rfl, rfl, rfl, trivial⟩ (tL_X6_loners_29 C (0 : Int32) (0 : Int32) (0 : Int32) σ1 h)
    · refine r_bipush (v := -3) C dX6_loners_19 (by decide) ?_
      exact r_iret C dX6_loners_21 h
  · refine r_bipush (v := -2) C dX6_loners_9 (by decide) ?_
    exact r_iret C dX6_loners_11 h
/-! VineRowsModel.part -/
abbrev rm_X6_part : Room := { frames := 2, cells := 0, slots := 0, locals := 47 }
def B_X6_part_81 (p1 : Int32) (p2 : Int32) (K36 : (Int32 → Int32 → zSt → Option (Int32 × zSt))) (v4 : Int32) (s0 : Int32) (s1 : Int32) (σ : zSt) : Option (Int32 × zSt) := znm ((s1 ||| s0)) (fun x12 => znm (v4 + (1 : Int32)) (fun x13 => K36 x12 x13 σ))
def B_X6_part_36 (p1 : Int32) (p2 : Int32) (K36 : (Int32 → Int32 → zSt → Option (Int32 × zSt))) (v3 : Int32) (v4 : Int32) (σ : zSt) : Option (Int32 × zSt) := znm (σ 0 5) (fun x7 => (if x7 ≤ v4 then zbd (M_X6_worthOfSet v3 σ) (fun x9 σ8 => some (x9, σ8)) else zga (σ 10) (((8 : Int32) * v4) + p1) 64 (fun x10 => zga (σ 10) (((8 : Int32) * v4) + p2) 64 (fun x11 => (if x11 ≤ x10 then B_X6_part_81 p1 p2 K36 v4 (0 : Int32) v3 σ else B_X6_part_81 p1 p2 K36 v4 (zon v4) v3 σ)))))
def L_X6_part_36 (p1 : Int32) (p2 : Int32) (v3 : Int32) (v4 : Int32) (σ : zSt) : Option (Int32 × zSt) := zloop (fun (rec : Int32 × Int32 × zSt → Option (Int32 × zSt)) x => B_X6_part_36 p1 p2  (fun v3 v4 σ => rec (v3, v4, σ)) x.1 x.2.1 x.2.2) zFU (v3, v4, σ)
def M_X6_part (p1 : Int32) (p2 : Int32) (σ : zSt) : Option (Int32 × zSt) := zbd (M_X6_areTwo p1 p2 σ) (fun x2 σ1 => (if x2 = 0 then some ((-1 : Int32), σ1) else zga (σ1 4) p1 8 (fun x3 => zbd (M_X6_isOf x3 p2 σ1) (fun x5 σ4 => (if x5 = 0 then some ((-3 : Int32), σ4) else zbv (M_X6_findFars σ4) (fun σ6 => L_X6_part_36 p1 p2 (0 : Int32) (0 : Int32) σ6))))))
set_option maxRecDepth 20000 in
theorem tB_X6_part_81 {p : Program} {l : Launch} {e : Env} {s : State} {m : MethodId} {args : Array Value} {below : List Frame} {meth : Method} {c : Code} {D : va_G} {a : Nat → Nat} {cI cO cA : ClassId} {o : Int32 × zSt} (C : zC p s m args meth c D (ztys cI cO cA) 21 a cX6_part 5 RX6 (some .int)) {p1 : Int32} {p2 : Int32} {K36 : (Int32 → Int32 → zSt → Option (Int32 × zSt))} (hK36 : ∀ (v3 : Int32) (v4 : Int32) (σ : zSt), K36 v3 v4 σ = some o → zV p l e rm_X6_part s m args below meth c D 21 a (fM a cI) 5 (zQi below args s D 21 a (fM a cI) o) σ 36 [some (.ref (a 0)), some (.int p1), some (.int p2), some (.int v3), some (.int v4)] []) (v4 : Int32) (s0 : Int32) (s1 : Int32) (σ : zSt) (h : B_X6_part_81 p1 p2 K36 v4 s0 s1 σ = some o) : zV p l e rm_X6_part s m args below meth c D 21 a (fM a cI) 5 (zQi below args s D 21 a (fM a cI) o) σ 81 [some (.ref (a 0)), some (.int p1), some (.int p2), none, some (.int v4)] [.int s0, .int s1] := by
  unfold B_X6_part_81 at h
  refine r_ior C dX6_part_81 ?_
  refine r_nm h (fun x12 h => ?_)
  refine r_istore_n (lv' := [some (.ref (a 0)), some (.int p1), some (.int p2), some (.int x12), some (.int v4)]) C dX6_part_82 (by decide) rfl rfl ?_
  refine r_gen h (fun x13 ex13 h => ?_)
  refine r_iinc (x := v4) (v := x13) (lv' := [some (.ref (a 0)), some (.int p1), some (.int p2), some (.int x12), some (.int x13)]) C dX6_part_83 rfl (by rw [← ex13]; rfl) (by decide) rfl rfl ?_
  clear ex13
  refine r_goto (tgt := 36) C dX6_part_86 (by decide) ?_
  exact r_le (lv' := [some (.ref (a 0)), some (.int p1), some (.int p2), some (.int x12), some (.int x13)]) ⟨rfl, rfl, rfl, rfl, rfl, trivial⟩ (hK36 x12 x13 σ h)
set_option maxRecDepth 20000 in
theorem tB_X6_part_36 {p : Program} {l : Launch} {e : Env} {s : State} {m : MethodId} {args : Array Value} {below : List Frame} {meth : Method} {c : Code} {D : va_G} {a : Nat → Nat} {cI cO cA : ClassId} {o : Int32 × zSt} (C : zC p s m args meth c D (ztys cI cO cA) 21 a cX6_part 5 RX6 (some .int)) {p1 : Int32} {p2 : Int32} {K36 : (Int32 → Int32 → zSt → Option (Int32 × zSt))} (hK36 : ∀ (v3 : Int32) (v4 : Int32) (σ : zSt), K36 v3 v4 σ = some o → zV p l e rm_X6_part s m args below meth c D 21 a (fM a cI) 5 (zQi below args s D 21 a (fM a cI) o) σ 36 [some (.ref (a 0)), some (.int p1), some (.int p2), some (.int v3), some (.int v4)] []) (v3 : Int32) (v4 : Int32) (σ : zSt) (h : B_X6_part_36 p1 p2 K36 v3 v4 σ = some o) : zV p l e rm_X6_part s m args below meth c D 21 a (fM a cI) 5 (zQi below args s D 21 a (fM a cI) o) σ 36 [some (.ref (a 0)), some (.int p1), some (.int p2), some (.int v3), some (.int v4)] [] := by
  unfold B_X6_part_36 at h
  refine r_iload (x := v4) C dX6_part_36 rfl ?_
  refine r_aload_n (x := (a 0)) C dX6_part_38 rfl ?_
  refine gf_X6_80 C dX6_part_39 h (fun x7 h => ?_)
  refine r_icmp_ge (tgt := 89) C dX6_part_42 (by decide) h (fun h => ?_) (fun h => ?_)
  · refine r_aload_n (x := (a 0)) C dX6_part_89 rfl ?_
    refine r_iload_n (x := v3) C dX6_part_90 rfl ?_
    refine r_callVi C [.int v3] [] (b := 0) (by decide) fM_0 rfl rfl zc_X6_181 zB_X6_worthOfSet ⟨rfl, rfl, by decide, by decide⟩ (fun out h => c_X6_worthOfSet C.2.2.2.2.2.2.2.1  h) rfl rfl (Nat.le_of_ble_eq_true rfl) dX6_part_91 h (fun x9 σ8 h => ?_)
    exact r_iret C dX6_part_94 h
  · refine r_iload_n (x := v3) C dX6_part_45 rfl ?_
    refine r_aload_n (x := (a 0)) C dX6_part_46 rfl ?_
    refine gf_X6_37 C dX6_part_47 ?_
    refine r_bipush (v := 8) C dX6_part_50 (by decide) ?_
    refine r_iload (x := v4) C dX6_part_52 rfl ?_
    refine r_imul C dX6_part_54 ?_
    refine r_iload_n (x := p1) C dX6_part_55 rfl ?_
    refine r_iadd C dX6_part_56 ?_
    refine r_iald (t0 := 0) C 10 aM_10 rfl dX6_part_57 h (fun x10 h => ?_)
    refine r_aload_n (x := (a 0)) C dX6_part_58 rfl ?_
    refine gf_X6_37 C dX6_part_59 ?_
    refine r_bipush (v := 8) C dX6_part_62 (by decide) ?_
    refine r_iload (x := v4) C dX6_part_64 rfl ?_
    refine r_imul C dX6_part_66 ?_
    refine r_iload_n (x := p2) C dX6_part_67 rfl ?_
    refine r_iadd C dX6_part_68 ?_
    refine r_iald (t0 := 0) C 10 aM_10 rfl dX6_part_69 h (fun x11 h => ?_)
    refine r_icmp_ge (tgt := 80) C dX6_part_70 (by decide) h (fun h => ?_) (fun h => ?_)
    · refine r_iconst (v := 0) C dX6_part_80 (by decide) ?_
      exact r_le (lv' := [some (.ref (a 0)), some (.int p1), some (.int p2), none, some (.int v4)]) ⟨rfl, rfl, rfl, rfl, trivial⟩ (tB_X6_part_81 C (K36 := K36) hK36 v4 (0 : Int32) v3 σ h)
    · refine r_iconst (v := 1) C dX6_part_73 (by decide) ?_
      refine r_iload (x := v4) C dX6_part_74 rfl ?_
      refine r_ishl C dX6_part_76 ?_
      refine r_goto (tgt := 81) C dX6_part_77 (by decide) ?_
      exact r_le (lv' := [some (.ref (a 0)), some (.int p1), some (.int p2), none, some (.int v4)]) ⟨rfl, rfl, rfl, rfl, trivial⟩ (tB_X6_part_81 C (K36 := K36) hK36 v4 (zon v4) v3 σ h)
set_option maxRecDepth 20000 in
theorem tL_X6_part_36 {p : Program} {l : Launch} {e : Env} {s : State} {m : MethodId} {args : Array Value} {below : List Frame} {meth : Method} {c : Code} {D : va_G} {a : Nat → Nat} {cI cO cA : ClassId} {o : Int32 × zSt} (C : zC p s m args meth c D (ztys cI cO cA) 21 a cX6_part 5 RX6 (some .int)) {p1 : Int32} {p2 : Int32}  (v3 : Int32) (v4 : Int32) (σ : zSt) (h : L_X6_part_36 p1 p2  v3 v4 σ = some o) : zV p l e rm_X6_part s m args below meth c D 21 a (fM a cI) 5 (zQi below args s D 21 a (fM a cI) o) σ 36 [some (.ref (a 0)), some (.int p1), some (.int p2), some (.int v3), some (.int v4)] [] := by
  unfold L_X6_part_36 at h
  refine zloop_ind (G := fun x => zV p l e rm_X6_part s m args below meth c D 21 a (fM a cI) 5 (zQi below args s D 21 a (fM a cI) o) x.2.2 36 [some (.ref (a 0)), some (.int p1), some (.int p2), some (.int x.1), some (.int x.2.1)] []) ?_ zFU _ h
  intro rec hr x h
  exact tB_X6_part_36 C   (fun v3 v4 σ => hr (v3, v4, σ)) _ _ _ h
set_option maxRecDepth 20000 in
theorem c_X6_part {l : Launch} {D : va_G} {a : Nat → Nat} {cI cO cA : ClassId} (hinj : ∀ i j, i < 21 → j < 21 → a i = a j → i = j) {p1 : Int32} {p2 : Int32} {σ : zSt} {o : Int32 × zSt} (h : M_X6_part p1 p2 σ = some o) : zMi l D (ztys cI cO cA) 21 a (fM a cI) yX6_part cX6_part 5 (some .int) rm_X6_part [.ref (a 0), .int p1, .int p2] σ o := by
  unfold M_X6_part at h
  refine zmeti (own := RX6) [some (.ref (a 0)), some (.int p1), some (.int p2), none, none] (by decide) rfl hinj (Nat.le_of_ble_eq_true rfl) rfl (fun p e s m args below meth c C => ?_)
  refine r_aload_n (x := (a 0)) C dX6_part_0 rfl ?_
  refine r_iload_n (x := p1) C dX6_part_1 rfl ?_
  refine r_iload_n (x := p2) C dX6_part_2 rfl ?_
  refine r_callVi C [.int p1, .int p2] [] (b := 0) (by decide) fM_0 rfl rfl zc_X6_152 zB_X6_areTwo ⟨rfl, rfl, by decide, by decide⟩ (fun out h => c_X6_areTwo C.2.2.2.2.2.2.2.1  h) rfl rfl (Nat.le_of_ble_eq_true rfl) dX6_part_3 h (fun x2 σ1 h => ?_)
  refine r_if_ne (tgt := 11) C dX6_part_6 (by decide) h (fun h => ?_) (fun h => ?_)
  · refine r_aload_n (x := (a 0)) C dX6_part_11 rfl ?_
    refine gf_X6_19 C dX6_part_12 ?_
    refine r_iload_n (x := p1) C dX6_part_15 rfl ?_
    refine r_iald (t0 := 0) C 4 aM_4 rfl dX6_part_16 h (fun x3 h => ?_)
    refine r_iload_n (x := p2) C dX6_part_17 rfl ?_
    refine r_callSi C [.int x3, .int p2] [] zc_X6_87 zB_X6_isOf ⟨rfl, rfl, by decide, by decide⟩ (fun out h => c_X6_isOf C.2.2.2.2.2.2.2.1  h) rfl rfl (Nat.le_of_ble_eq_true rfl) dX6_part_18 h (fun x5 σ4 h => ?_)
    refine r_if_ne (tgt := 27) C dX6_part_21 (by decide) h (fun h => ?_) (fun h => ?_)
    · refine r_aload_n (x := (a 0)) C dX6_part_27 rfl ?_
      refine r_callVv C [] [] (b := 0) (by decide) fM_0 rfl rfl zc_X6_146 zB_X6_findFars ⟨rfl, rfl, by decide, by decide⟩ (fun out h => c_X6_findFars C.2.2.2.2.2.2.2.1  h) rfl rfl (Nat.le_of_ble_eq_true rfl) dX6_part_28 h (fun σ6 h => ?_)
      refine r_iconst (v := 0) C dX6_part_31 (by decide) ?_
      refine r_istore_n (lv' := [some (.ref (a 0)), some (.int p1), some (.int p2), some (.int (0 : Int32)), none]) C dX6_part_32 (by decide) rfl rfl ?_
      refine r_iconst (v := 0) C dX6_part_33 (by decide) ?_
      refine r_istore (lv' := [some (.ref (a 0)), some (.int p1), some (.int p2), some (.int (0 : Int32)), some (.int (0 : Int32))]) C dX6_part_34 (by decide) rfl rfl ?_
      exact r_le (lv' := [some (.ref (a 0)), some (.int p1), some (.int p2), some (.int (0 : Int32)), some (.int (0 : Int32))]) ⟨rfl, rfl, rfl, rfl, rfl, trivial⟩ (tL_X6_part_36 C (0 : Int32) (0 : Int32) σ6 h)
    · refine r_bipush (v := -3) C dX6_part_24 (by decide) ?_
      exact r_iret C dX6_part_26 h
  · refine r_iconst (v := -1) C dX6_part_9 (by decide) ?_
    exact r_iret C dX6_part_10 h
/-! VineRowsModel.reading -/
abbrev rm_X6_reading : Room := { frames := 1, cells := 0, slots := 0, locals := 22 }
def M_X6_reading (p1 : Int32) (p2 : Int32) (p3 : Int32) (σ : zSt) : Option (Int32 × zSt) := zbd (M_X6_isPost p1 σ) (fun x2 σ1 => (if x2 = 0 then some ((-1 : Int32), σ1) else zbd (M_X6_isPost p2 σ1) (fun x4 σ3 => (if x4 = 0 then some ((-1 : Int32), σ3) else zbd (M_X6_within p3 (0 : Int32) (200 : Int32) σ3) (fun x6 σ5 => (if x6 = 0 then some ((-2 : Int32), σ5) else znm (σ5 0 23) (fun x7 => (if x7 = (8 : Int32) then some ((-4 : Int32), σ5) else znm (σ5 0 23) (fun x8 => zgs σ5 18 x8 8 p1 (fun σ9 => znm (σ9 0 23) (fun x10 => zgs σ9 19 x10 8 p2 (fun σ11 => znm (σ11 0 23) (fun x12 => zgs σ11 20 x12 8 p3 (fun σ13 => znm (σ13 0 23) (fun x14 => znm (zsu σ13 0 (upd (σ13 0) 23 (x14 + (1 : Int32)))) (fun σ15 => znm (σ15 0 23) (fun x16 => some ((x16 - (1 : Int32)), σ15))))))))))))))))))
set_option maxRecDepth 20000 in
theorem c_X6_reading {l : Launch} {D : va_G} {a : Nat → Nat} {cI cO cA : ClassId} (hinj : ∀ i j, i < 21 → j < 21 → a i = a j → i = j) {p1 : Int32} {p2 : Int32} {p3 : Int32} {σ : zSt} {o : Int32 × zSt} (h : M_X6_reading p1 p2 p3 σ = some o) : zMi l D (ztys cI cO cA) 21 a (fM a cI) yX6_reading cX6_reading 4 (some .int) rm_X6_reading [.ref (a 0), .int p1, .int p2, .int p3] σ o := by
  unfold M_X6_reading at h
  refine zmeti (own := RX6) [some (.ref (a 0)), some (.int p1), some (.int p2), some (.int p3)] (by decide) rfl hinj (Nat.le_of_ble_eq_true rfl) rfl (fun p e s m args below meth c C => ?_)
  refine r_aload_n (x := (a 0)) C dX6_reading_0 rfl ?_
  refine r_iload_n (x := p1) C dX6_reading_1 rfl ?_
  refine r_callVi C [.int p1] [] (b := 0) (by decide) fM_0 rfl rfl zc_X6_83 zB_X6_isPost ⟨rfl, rfl, by decide, by decide⟩ (fun out h => c_X6_isPost C.2.2.2.2.2.2.2.1  h) rfl rfl (Nat.le_of_ble_eq_true rfl) dX6_reading_2 h (fun x2 σ1 h => ?_)
  refine r_if_eq (tgt := 16) C dX6_reading_5 (by decide) h (fun h => ?_) (fun h => ?_)
  · refine r_iconst (v := -1) C dX6_reading_16 (by decide) ?_
    exact r_iret C dX6_reading_17 h
  · refine r_aload_n (x := (a 0)) C dX6_reading_8 rfl ?_
    refine r_iload_n (x := p2) C dX6_reading_9 rfl ?_
    refine r_callVi C [.int p2] [] (b := 0) (by decide) fM_0 rfl rfl zc_X6_83 zB_X6_isPost ⟨rfl, rfl, by decide, by decide⟩ (fun out h => c_X6_isPost C.2.2.2.2.2.2.2.1  h) rfl rfl (Nat.le_of_ble_eq_true rfl) dX6_reading_10 h (fun x4 σ3 h => ?_)
    refine r_if_ne (tgt := 18) C dX6_reading_13 (by decide) h (fun h => ?_) (fun h => ?_)
    · refine r_iload_n (x := p3) C dX6_reading_18 rfl ?_
      refine r_iconst (v := 0) C dX6_reading_19 (by decide) ?_
      refine r_sipush (v := 200) C dX6_reading_20 (by decide) ?_
      refine r_callSi C [.int p3, .int (0 : Int32), .int (200 : Int32)] [] zc_X6_76 zB_X6_within ⟨rfl, rfl, by decide, by decide⟩ (fun out h => c_X6_within C.2.2.2.2.2.2.2.1  h) rfl rfl (Nat.le_of_ble_eq_true rfl) dX6_reading_23 h (fun x6 σ5 h => ?_)
      refine r_if_ne (tgt := 32) C dX6_reading_26 (by decide) h (fun h => ?_) (fun h => ?_)
      · refine r_aload_n (x := (a 0)) C dX6_reading_32 rfl ?_
        refine gf_X6_120 C dX6_reading_33 h (fun x7 h => ?_)
        refine r_bipush (v := 8) C dX6_reading_36 (by decide) ?_
        refine r_icmp_ne (tgt := 44) C dX6_reading_38 (by decide) h (fun h => ?_) (fun h => ?_)
        · refine r_aload_n (x := (a 0)) C dX6_reading_44 rfl ?_
          refine gf_X6_61 C dX6_reading_45 ?_
          refine r_aload_n (x := (a 0)) C dX6_reading_48 rfl ?_
          refine gf_X6_120 C dX6_reading_49 h (fun x8 h => ?_)
          refine r_iload_n (x := p1) C dX6_reading_52 rfl ?_
          refine r_iast (t0 := 0) C 18 aM_18 rfl dX6_reading_53 h (fun σ9 h => ?_)
          refine r_aload_n (x := (a 0)) C dX6_reading_54 rfl ?_
          refine gf_X6_64 C dX6_reading_55 ?_
          refine r_aload_n (x := (a 0)) C dX6_reading_58 rfl ?_
          refine gf_X6_120 C dX6_reading_59 h (fun x10 h => ?_)
          refine r_iload_n (x := p2) C dX6_reading_62 rfl ?_
          refine r_iast (t0 := 0) C 19 aM_19 rfl dX6_reading_63 h (fun σ11 h => ?_)
          refine r_aload_n (x := (a 0)) C dX6_reading_64 rfl ?_
          refine gf_X6_67 C dX6_reading_65 ?_
          refine r_aload_n (x := (a 0)) C dX6_reading_68 rfl ?_
          refine gf_X6_120 C dX6_reading_69 h (fun x12 h => ?_)
          refine r_iload_n (x := p3) C dX6_reading_72 rfl ?_
          refine r_iast (t0 := 0) C 20 aM_20 rfl dX6_reading_73 h (fun σ13 h => ?_)
          refine r_aload_n (x := (a 0)) C dX6_reading_74 rfl ?_
          refine r_dup C dX6_reading_75 rfl ?_
          refine gf_X6_120 C dX6_reading_76 h (fun x14 h => ?_)
          refine r_iconst (v := 1) C dX6_reading_79 (by decide) ?_
          refine r_iadd C dX6_reading_80 ?_
          refine pf_X6_120 C dX6_reading_81 h (fun σ15 h => ?_)
          refine r_aload_n (x := (a 0)) C dX6_reading_84 rfl ?_
          refine gf_X6_120 C dX6_reading_85 h (fun x16 h => ?_)
          refine r_iconst (v := 1) C dX6_reading_88 (by decide) ?_
          refine r_isub C dX6_reading_89 ?_
          exact r_iret C dX6_reading_90 h
        · refine r_bipush (v := -4) C dX6_reading_41 (by decide) ?_
          exact r_iret C dX6_reading_43 h
      · refine r_bipush (v := -2) C dX6_reading_29 (by decide) ?_
        exact r_iret C dX6_reading_31 h
    · refine r_iconst (v := -1) C dX6_reading_16 (by decide) ?_
      exact r_iret C dX6_reading_17 h
/-! VineRowsModel.back -/
abbrev rm_X6_back : Room := { frames := 1, cells := 0, slots := 0, locals := 22 }
def M_X6_back (p1 : Int32) (σ : zSt) : Option (Int32 × zSt) := znm (σ 0 23) (fun x1 => zbd (M_X6_within p1 (0 : Int32) x1 σ) (fun x3 σ2 => (if x3 = 0 then some ((-2 : Int32), σ2) else znm (σ2 0 23) (fun x4 => znm (zsu σ2 0 (upd (σ2 0) 23 (x4 - p1))) (fun σ5 => znm (σ5 0 23) (fun x6 => some (x6, σ5)))))))
set_option maxRecDepth 20000 in
theorem c_X6_back {l : Launch} {D : va_G} {a : Nat → Nat} {cI cO cA : ClassId} (hinj : ∀ i j, i < 21 → j < 21 → a i = a j → i = j) {p1 : Int32} {σ : zSt} {o : Int32 × zSt} (h : M_X6_back p1 σ = some o) : zMi l D (ztys cI cO cA) 21 a (fM a cI) yX6_back cX6_back 2 (some .int) rm_X6_back [.ref (a 0), .int p1] σ o := by
  unfold M_X6_back at h
  refine zmeti (own := RX6) [some (.ref (a 0)), some (.int p1)] (by decide) rfl hinj (Nat.le_of_ble_eq_true rfl) rfl (fun p e s m args below meth c C => ?_)
  refine r_iload_n (x := p1) C dX6_back_0 rfl ?_
  refine r_iconst (v := 0) C dX6_back_1 (by decide) ?_
  refine r_aload_n (x := (a 0)) C dX6_back_2 rfl ?_
  refine gf_X6_120 C dX6_back_3 h (fun x1 h => ?_)
  refine r_callSi C [.int p1, .int (0 : Int32), .int x1] [] zc_X6_76 zB_X6_within ⟨rfl, rfl, by decide, by decide⟩ (fun out h => c_X6_within C.2.2.2.2.2.2.2.1  h) rfl rfl (Nat.le_of_ble_eq_true rfl) dX6_back_6 h (fun x3 σ2 h => ?_)
  refine r_if_ne (tgt := 15) C dX6_back_9 (by decide) h (fun h => ?_) (fun h => ?_)
  · refine r_aload_n (x := (a 0)) C dX6_back_15 rfl ?_
    refine r_dup C dX6_back_16 rfl ?_
    refine gf_X6_120 C dX6_back_17 h (fun x4 h => ?_)
    refine r_iload_n (x := p1) C dX6_back_20 rfl ?_
    refine r_isub C dX6_back_21 ?_
    refine pf_X6_120 C dX6_back_22 h (fun σ5 h => ?_)
    refine r_aload_n (x := (a 0)) C dX6_back_25 rfl ?_
    refine gf_X6_120 C dX6_back_26 h (fun x6 h => ?_)
    exact r_iret C dX6_back_29 h
  · refine r_bipush (v := -2) C dX6_back_12 (by decide) ?_
    exact r_iret C dX6_back_14 h
end
