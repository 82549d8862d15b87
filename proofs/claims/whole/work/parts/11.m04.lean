noncomputable section
/-! VineRowsModel.wayOf -/
abbrev rm_X6_wayOf : Room := { frames := 0, cells := 0, slots := 0, locals := 0 }
def B_X6_wayOf_74 (p1 : Int32) (p2 : Int32) (K5 : (Int32 → Int32 → zSt → Option (Int32 × zSt))) (v4 : Int32) (s0 : Int32) (s1 : Int32) (σ : zSt) : Option (Int32 × zSt) := znm ((s1 ||| s0)) (fun x5 => znm (v4 + (1 : Int32)) (fun x6 => K5 x5 x6 σ))
def B_X6_wayOf_58 (p1 : Int32) (p2 : Int32) (K5 : (Int32 → Int32 → zSt → Option (Int32 × zSt))) (v3 : Int32) (v4 : Int32) (s0 : Int32) (σ : zSt) : Option (Int32 × zSt) := (if s0 = 0 then B_X6_wayOf_74 p1 p2 K5 v4 (0 : Int32) v3 σ else B_X6_wayOf_74 p1 p2 K5 v4 (zon v4) v3 σ)
def B_X6_wayOf_5 (p1 : Int32) (p2 : Int32) (K5 : (Int32 → Int32 → zSt → Option (Int32 × zSt))) (v3 : Int32) (v4 : Int32) (σ : zSt) : Option (Int32 × zSt) := znm (σ 0 5) (fun x1 => (if x1 ≤ v4 then some (v3, σ) else zga (σ 10) (((8 : Int32) * p1) + v4) 64 (fun x2 => zga (σ 10) (((8 : Int32) * v4) + p2) 64 (fun x3 => zga (σ 10) (((8 : Int32) * p1) + p2) 64 (fun x4 => (if (x2 + x3) = x4 then B_X6_wayOf_58 p1 p2 K5 v3 v4 (1 : Int32) σ else B_X6_wayOf_58 p1 p2 K5 v3 v4 (0 : Int32) σ))))))
def L_X6_wayOf_5 (p1 : Int32) (p2 : Int32) (v3 : Int32) (v4 : Int32) (σ : zSt) : Option (Int32 × zSt) := zloop (fun (rec : Int32 × Int32 × zSt → Option (Int32 × zSt)) x => B_X6_wayOf_5 p1 p2  (fun v3 v4 σ => rec (v3, v4, σ)) x.1 x.2.1 x.2.2) zFU (v3, v4, σ)
def M_X6_wayOf (p1 : Int32) (p2 : Int32) (σ : zSt) : Option (Int32 × zSt) := L_X6_wayOf_5 p1 p2 (0 : Int32) (0 : Int32) σ
set_option maxRecDepth 20000 in
theorem tB_X6_wayOf_74 {p : Program} {l : Launch} {e : Env} {s : State} {m : MethodId} {args : Array Value} {below : List Frame} {meth : Method} {c : Code} {D : va_G} {a : Nat → Nat} {cI cO cA : ClassId} {o : Int32 × zSt} (C : zC p s m args meth c D (ztys cI cO cA) 21 a cX6_wayOf 6 RX6 (some .int)) {p1 : Int32} {p2 : Int32} {K5 : (Int32 → Int32 → zSt → Option (Int32 × zSt))} (hK5 : ∀ (v3 : Int32) (v4 : Int32) (σ : zSt), K5 v3 v4 σ = some o → zV p l e rm_X6_wayOf s m args below meth c D 21 a (fM a cI) 6 (zQi below args s D 21 a (fM a cI) o) σ 5 [some (.ref (a 0)), some (.int p1), some (.int p2), some (.int v3), some (.int v4), none] []) (v4 : Int32) (s0 : Int32) (s1 : Int32) (σ : zSt) (h : B_X6_wayOf_74 p1 p2 K5 v4 s0 s1 σ = some o) : zV p l e rm_X6_wayOf s m args below meth c D 21 a (fM a cI) 6 (zQi below args s D 21 a (fM a cI) o) σ 74 [some (.ref (a 0)), some (.int p1), some (.int p2), none, some (.int v4), none] [.int s0, .int s1] := by
  unfold B_X6_wayOf_74 at h
  refine r_ior C dX6_wayOf_74 ?_
  refine r_nm h (fun x5 h => ?_)
  refine r_istore_n (lv' := [some (.ref (a 0)), some (.int p1), some (.int p2), some (.int x5), some (.int v4), none]) C dX6_wayOf_75 (by decide) rfl rfl ?_
  refine r_gen h (fun x6 ex6 h => ?_)
  refine r_iinc (x := v4) (v := x6) (lv' := [some (.ref (a 0)), some (.int p1), some (.int p2), some (.int x5), some (.int x6), none]) C dX6_wayOf_76 rfl (by rw [← ex6]; rfl) (by decide) rfl rfl ?_
  clear ex6
  refine r_goto (tgt := 5) C dX6_wayOf_79 (by decide) ?_
  exact r_le (lv' := [some (.ref (a 0)), some (.int p1), some (.int p2), some (.int x5), some (.int x6), none]) ⟨rfl, rfl, rfl, rfl, rfl, trivial⟩ (hK5 x5 x6 σ h)
set_option maxRecDepth 20000 in
theorem tB_X6_wayOf_58 {p : Program} {l : Launch} {e : Env} {s : State} {m : MethodId} {args : Array Value} {below : List Frame} {meth : Method} {c : Code} {D : va_G} {a : Nat → Nat} {cI cO cA : ClassId} {o : Int32 × zSt} (C : zC p s m args meth c D (ztys cI cO cA) 21 a cX6_wayOf 6 RX6 (some .int)) {p1 : Int32} {p2 : Int32} {K5 : (Int32 → Int32 → zSt → Option (Int32 × zSt))} (hK5 : ∀ (v3 : Int32) (v4 : Int32) (σ : zSt), K5 v3 v4 σ = some o → zV p l e rm_X6_wayOf s m args below meth c D 21 a (fM a cI) 6 (zQi below args s D 21 a (fM a cI) o) σ 5 [some (.ref (a 0)), some (.int p1), some (.int p2), some (.int v3), some (.int v4), none] []) (v3 : Int32) (v4 : Int32) (s0 : Int32) (σ : zSt) (h : B_X6_wayOf_58 p1 p2 K5 v3 v4 s0 σ = some o) : zV p l e rm_X6_wayOf s m args below meth c D 21 a (fM a cI) 6 (zQi below args s D 21 a (fM a cI) o) σ 58 [some (.ref (a 0)), some (.int p1), some (.int p2), some (.int v3), some (.int v4), none] [.int s0] := by
  unfold B_X6_wayOf_58 at h
  refine r_istore (lv' := [some (.ref (a 0)), some (.int p1), some (.int p2), some (.int v3), some (.int v4), some (.int s0)]) C dX6_wayOf_58 (by decide) rfl rfl ?_
  refine r_iload_n (x := v3) C dX6_wayOf_60 rfl ?_
  refine r_iload (x := s0) C dX6_wayOf_61 rfl ?_
  refine r_if_eq (tgt := 73) C dX6_wayOf_63 (by decide) h (fun h => ?_) (fun h => ?_)
  · refine r_iconst (v := 0) C dX6_wayOf_73 (by decide) ?_
    exact r_le (lv' := [some (.ref (a 0)), some (.int p1), some (.int p2), none, some (.int v4), none]) ⟨rfl, rfl, rfl, rfl, trivial⟩ (tB_X6_wayOf_74 C (K5 := K5) hK5 v4 (0 : Int32) v3 σ h)
  · refine r_iconst (v := 1) C dX6_wayOf_66 (by decide) ?_
    refine r_iload (x := v4) C dX6_wayOf_67 rfl ?_
    refine r_ishl C dX6_wayOf_69 ?_
    refine r_goto (tgt := 74) C dX6_wayOf_70 (by decide) ?_
    exact r_le (lv' := [some (.ref (a 0)), some (.int p1), some (.int p2), none, some (.int v4), none]) ⟨rfl, rfl, rfl, rfl, trivial⟩ (tB_X6_wayOf_74 C (K5 := K5) hK5 v4 (zon v4) v3 σ h)
set_option maxRecDepth 20000 in
theorem tB_X6_wayOf_5 {p : Program} {l : Launch} {e : Env} {s : State} {m : MethodId} {args : Array Value} {below : List Frame} {meth : Method} {c : Code} {D : va_G} {a : Nat → Nat} {cI cO cA : ClassId} {o : Int32 × zSt} (C : zC p s m args meth c D (ztys cI cO cA) 21 a cX6_wayOf 6 RX6 (some .int)) {p1 : Int32} {p2 : Int32} {K5 : (Int32 → Int32 → zSt → Option (Int32 × zSt))} (hK5 : ∀ (v3 : Int32) (v4 : Int32) (σ : zSt), K5 v3 v4 σ = some o → zV p l e rm_X6_wayOf s m args below meth c D 21 a (fM a cI) 6 (zQi below args s D 21 a (fM a cI) o) σ 5 [some (.ref (a 0)), some (.int p1), some (.int p2), some (.int v3), some (.int v4), none] []) (v3 : Int32) (v4 : Int32) (σ : zSt) (h : B_X6_wayOf_5 p1 p2 K5 v3 v4 σ = some o) : zV p l e rm_X6_wayOf s m args below meth c D 21 a (fM a cI) 6 (zQi below args s D 21 a (fM a cI) o) σ 5 [some (.ref (a 0)), some (.int p1), some (.int p2), some (.int v3), some (.int v4), none] [] := by
  unfold B_X6_wayOf_5 at h
  refine r_iload (x := v4) C dX6_wayOf_5 rfl ?_
  refine r_aload_n (x := (a 0)) C dX6_wayOf_7 rfl ?_
  refine gf_X6_80 C dX6_wayOf_8 h (fun x1 h => ?_)
  refine r_icmp_ge (tgt := 82) C dX6_wayOf_11 (by decide) h (fun h => ?_) (fun h => ?_)
  · refine r_iload_n (x := v3) C dX6_wayOf_82 rfl ?_
    exact r_iret C dX6_wayOf_83 h
  · refine r_aload_n (x := (a 0)) C dX6_wayOf_14 rfl ?_
    refine gf_X6_37 C dX6_wayOf_15 ?_
    refine r_bipush (v := 8) C dX6_wayOf_18 (by decide) ?_
    refine r_iload_n (x := p1) C dX6_wayOf_20 rfl ?_
    refine r_imul C dX6_wayOf_21 ?_
    refine r_iload (x := v4) C dX6_wayOf_22 rfl ?_
    refine r_iadd C dX6_wayOf_24 ?_
    refine r_iald (t0 := 0) C 10 aM_10 rfl dX6_wayOf_25 h (fun x2 h => ?_)
    refine r_aload_n (x := (a 0)) C dX6_wayOf_26 rfl ?_
    refine gf_X6_37 C dX6_wayOf_27 ?_
    refine r_bipush (v := 8) C dX6_wayOf_30 (by decide) ?_
    refine r_iload (x := v4) C dX6_wayOf_32 rfl ?_
    refine r_imul C dX6_wayOf_34 ?_
    refine r_iload_n (x := p2) C dX6_wayOf_35 rfl ?_
    refine r_iadd C dX6_wayOf_36 ?_
    refine r_iald (t0 := 0) C 10 aM_10 rfl dX6_wayOf_37 h (fun x3 h => ?_)
    refine r_iadd C dX6_wayOf_38 ?_
    refine r_aload_n (x := (a 0)) C dX6_wayOf_39 rfl ?_
    refine gf_X6_37 C dX6_wayOf_40 ?_
    refine r_bipush (v := 8) C dX6_wayOf_43 (by decide) ?_
    refine r_iload_n (x := p1) C dX6_wayOf_45 rfl ?_
    refine r_imul C dX6_wayOf_46 ?_
    refine r_iload_n (x := p2) C dX6_wayOf_47 rfl ?_
    refine r_iadd C dX6_wayOf_48 ?_
    refine r_iald (t0 := 0) C 10 aM_10 rfl dX6_wayOf_49 h (fun x4 h => ?_)
    refine r_icmp_ne (tgt := 57) C dX6_wayOf_50 (by decide) h (fun h => ?_) (fun h => ?_)
    · refine r_iconst (v := 0) C dX6_wayOf_57 (by decide) ?_
      exact r_le (lv' := [some (.ref (a 0)), some (.int p1), some (.int p2), some (.int v3), some (.int v4), none]) ⟨rfl, rfl, rfl, rfl, rfl, trivial⟩ (tB_X6_wayOf_58 C (K5 := K5) hK5 v3 v4 (0 : Int32) σ h)
    · refine r_iconst (v := 1) C dX6_wayOf_53 (by decide) ?_
      refine r_goto (tgt := 58) C dX6_wayOf_54 (by decide) ?_
      exact r_le (lv' := [some (.ref (a 0)), some (.int p1), some (.int p2), some (.int v3), some (.int v4), none]) ⟨rfl, rfl, rfl, rfl, rfl, trivial⟩ (tB_X6_wayOf_58 C (K5 := K5) hK5 v3 v4 (1 : Int32) σ h)
set_option maxRecDepth 20000 in
theorem tL_X6_wayOf_5 {p : Program} {l : Launch} {e : Env} {s : State} {m : MethodId} {args : Array Value} {below : List Frame} {meth : Method} {c : Code} {D : va_G} {a : Nat → Nat} {cI cO cA : ClassId} {o : Int32 × zSt} (C : zC p s m args meth c D (ztys cI cO cA) 21 a cX6_wayOf 6 RX6 (some .int)) {p1 : Int32} {p2 : Int32}  (v3 : Int32) (v4 : Int32) (σ : zSt) (h : L_X6_wayOf_5 p1 p2  v3 v4 σ = some o) : zV p l e rm_X6_wayOf s m args below meth c D 21 a (fM a cI) 6 (zQi below args s D 21 a (fM a cI) o) σ 5 [some (.ref (a 0)), some (.int p1), some (.int p2), some (.int v3), some (.int v4), none] [] := by
  unfold L_X6_wayOf_5 at h
  refine zloop_ind (G := fun x => zV p l e rm_X6_wayOf s m args below meth c D 21 a (fM a cI) 6 (zQi below args s D 21 a (fM a cI) o) x.2.2 5 [some (.ref (a 0)), some (.int p1), some (.int p2), some (.int x.1), some (.int x.2.1), none] []) ?_ zFU _ h
  intro rec hr x h
  exact tB_X6_wayOf_5 C   (fun v3 v4 σ => hr (v3, v4, σ)) _ _ _ h
set_option maxRecDepth 20000 in
theorem c_X6_wayOf {l : Launch} {D : va_G} {a : Nat → Nat} {cI cO cA : ClassId} (hinj : ∀ i j, i < 21 → j < 21 → a i = a j → i = j) {p1 : Int32} {p2 : Int32} {σ : zSt} {o : Int32 × zSt} (h : M_X6_wayOf p1 p2 σ = some o) : zMi l D (ztys cI cO cA) 21 a (fM a cI) yX6_wayOf cX6_wayOf 6 (some .int) rm_X6_wayOf [.ref (a 0), .int p1, .int p2] σ o := by
  unfold M_X6_wayOf at h
  refine zmeti (own := RX6) [some (.ref (a 0)), some (.int p1), some (.int p2), none, none, none] (by decide) rfl hinj (Nat.le_of_ble_eq_true rfl) rfl (fun p e s m args below meth c C => ?_)
  refine r_iconst (v := 0) C dX6_wayOf_0 (by decide) ?_
  refine r_istore_n (lv' := [some (.ref (a 0)), some (.int p1), some (.int p2), some (.int (0 : Int32)), none, none]) C dX6_wayOf_1 (by decide) rfl rfl ?_
  refine r_iconst (v := 0) C dX6_wayOf_2 (by decide) ?_
  refine r_istore (lv' := [some (.ref (a 0)), some (.int p1), some (.int p2), some (.int (0 : Int32)), some (.int (0 : Int32)), none]) C dX6_wayOf_3 (by decide) rfl rfl ?_
  exact r_le (lv' := [some (.ref (a 0)), some (.int p1), some (.int p2), some (.int (0 : Int32)), some (.int (0 : Int32)), none]) ⟨rfl, rfl, rfl, rfl, rfl, trivial⟩ (tL_X6_wayOf_5 C (0 : Int32) (0 : Int32) σ h)
/-! VineRowsModel.areSo -/
abbrev rm_X6_areSo : Room := { frames := 2, cells := 0, slots := 0, locals := 44 }
def B_X6_areSo_2 (K2 : (Int32 → zSt → Option (Int32 × zSt))) (v1 : Int32) (σ : zSt) : Option (Int32 × zSt) := znm (σ 0 23) (fun x1 => (if x1 ≤ v1 then zgz (1 : Int32) σ else zga (σ 18) v1 8 (fun x2 => zga (σ 19) v1 8 (fun x3 => zbd (M_X6_wayOf x2 x3 σ) (fun x5 σ4 => zbd (M_X6_worthOfSet x5 σ4) (fun x7 σ6 => zga (σ6 20) v1 8 (fun x8 => (if x7 = x8 then znm (v1 + (1 : Int32)) (fun x9 => K2 x9 σ6) else zgz (0 : Int32) σ6))))))))
def L_X6_areSo_2 (v1 : Int32) (σ : zSt) : Option (Int32 × zSt) := zloop (fun (rec : Int32 × zSt → Option (Int32 × zSt)) x => B_X6_areSo_2   (fun v1 σ => rec (v1, σ)) x.1 x.2) zFU (v1, σ)
def M_X6_areSo (σ : zSt) : Option (Int32 × zSt) := L_X6_areSo_2 (0 : Int32) σ
set_option maxRecDepth 20000 in
theorem tB_X6_areSo_2 {p : Program} {l : Launch} {e : Env} {s : State} {m : MethodId} {args : Array Value} {below : List Frame} {meth : Method} {c : Code} {D : va_G} {a : Nat → Nat} {cI cO cA : ClassId} {o : Int32 × zSt} (C : zC p s m args meth c D (ztys cI cO cA) 21 a cX6_areSo 2 RX6 (some .boolean)) {K2 : (Int32 → zSt → Option (Int32 × zSt))} (hK2 : ∀ (v1 : Int32) (σ : zSt), K2 v1 σ = some o → zV p l e rm_X6_areSo s m args below meth c D 21 a (fM a cI) 2 (zQi below args s D 21 a (fM a cI) o) σ 2 [some (.ref (a 0)), some (.int v1)] []) (v1 : Int32) (σ : zSt) (h : B_X6_areSo_2  K2 v1 σ = some o) : zV p l e rm_X6_areSo s m args below meth c D 21 a (fM a cI) 2 (zQi below args s D 21 a (fM a cI) o) σ 2 [some (.ref (a 0)), some (.int v1)] [] := by
  unfold B_X6_areSo_2 at h
  refine r_iload_n (x := v1) C dX6_areSo_2 rfl ?_
  refine r_aload_n (x := (a 0)) C dX6_areSo_3 rfl ?_
  refine gf_X6_120 C dX6_areSo_4 h (fun x1 h => ?_)
  refine r_icmp_ge (tgt := 47) C dX6_areSo_7 (by decide) h (fun h => ?_) (fun h => ?_)
  · refine r_iconst (v := 1) C dX6_areSo_47 (by decide) ?_
    exact r_zret C dX6_areSo_48 h
  · refine r_aload_n (x := (a 0)) C dX6_areSo_10 rfl ?_
    refine r_aload_n (x := (a 0)) C dX6_areSo_11 rfl ?_
    refine r_aload_n (x := (a 0)) C dX6_areSo_12 rfl ?_
    refine gf_X6_61 C dX6_areSo_13 ?_
    refine r_iload_n (x := v1) C dX6_areSo_16 rfl ?_
    refine r_iald (t0 := 0) C 18 aM_18 rfl dX6_areSo_17 h (fun x2 h => ?_)
    refine r_aload_n (x := (a 0)) C dX6_areSo_18 rfl ?_
    refine gf_X6_64 C dX6_areSo_19 ?_
    refine r_iload_n (x := v1) C dX6_areSo_22 rfl ?_
    refine r_iald (t0 := 0) C 19 aM_19 rfl dX6_areSo_23 h (fun x3 h => ?_)
    refine r_callVi C [.int x2, .int x3] [.ref (a 0)] (b := 0) (by decide) fM_0 rfl rfl zc_X6_198 zB_X6_wayOf ⟨rfl, rfl, by decide, by decide⟩ (fun out h => c_X6_wayOf C.2.2.2.2.2.2.2.1  h) rfl rfl (Nat.le_of_ble_eq_true rfl) dX6_areSo_24 h (fun x5 σ4 h => ?_)
    refine r_callVi C [.int x5] [] (b := 0) (by decide) fM_0 rfl rfl zc_X6_181 zB_X6_worthOfSet ⟨rfl, rfl, by decide, by decide⟩ (fun out h => c_X6_worthOfSet C.2.2.2.2.2.2.2.1  h) rfl rfl (Nat.le_of_ble_eq_true rfl) dX6_areSo_27 h (fun x7 σ6 h => ?_)
    refine r_aload_n (x := (a 0)) C dX6_areSo_30 rfl ?_
    refine gf_X6_67 C dX6_areSo_31 ?_
    refine r_iload_n (x := v1) C dX6_areSo_34 rfl ?_
    refine r_iald (t0 := 0) C 20 aM_20 rfl dX6_areSo_35 h (fun x8 h => ?_)
    refine r_icmp_eq (tgt := 41) C dX6_areSo_36 (by decide) h (fun h => ?_) (fun h => ?_)
    · refine r_gen h (fun x9 ex9 h => ?_)
      refine r_iinc (x := v1) (v := x9) (lv' := [some (.ref (a 0)), some (.int x9)]) C dX6_areSo_41 rfl (by rw [← ex9]; rfl) (by decide) rfl rfl ?_
      clear ex9
      refine r_goto (tgt := 2) C dX6_areSo_44 (by decide) ?_
      exact r_le (lv' := [some (.ref (a 0)), some (.int x9)]) ⟨rfl, rfl, trivial⟩ (hK2 x9 σ6 h)
    · refine r_iconst (v := 0) C dX6_areSo_39 (by decide) ?_
      exact r_zret C dX6_areSo_40 h
set_option maxRecDepth 20000 in
theorem tL_X6_areSo_2 {p : Program} {l : Launch} {e : Env} {s : State} {m : MethodId} {args : Array Value} {below : List Frame} {meth : Method} {c : Code} {D : va_G} {a : Nat → Nat} {cI cO cA : ClassId} {o : Int32 × zSt} (C : zC p s m args meth c D (ztys cI cO cA) 21 a cX6_areSo 2 RX6 (some .boolean))  (v1 : Int32) (σ : zSt) (h : L_X6_areSo_2   v1 σ = some o) : zV p l e rm_X6_areSo s m args below meth c D 21 a (fM a cI) 2 (zQi below args s D 21 a (fM a cI) o) σ 2 [some (.ref (a 0)), some (.int v1)] [] := by
  unfold L_X6_areSo_2 at h
  refine zloop_ind (G := fun x => zV p l e rm_X6_areSo s m args below meth c D 21 a (fM a cI) 2 (zQi below args s D 21 a (fM a cI) o) x.2 2 [some (.ref (a 0)), some (.int x.1)] []) ?_ zFU _ h
  intro rec hr x h
  exact tB_X6_areSo_2 C   (fun v1 σ => hr (v1, σ)) _ _ h
set_option maxRecDepth 20000 in
theorem c_X6_areSo {l : Launch} {D : va_G} {a : Nat → Nat} {cI cO cA : ClassId} (hinj : ∀ i j, i < 21 → j < 21 → a i = a j → i = j) {σ : zSt} {o : Int32 × zSt} (h : M_X6_areSo  σ = some o) : zMi l D (ztys cI cO cA) 21 a (fM a cI) yX6_areSo cX6_areSo 2 (some .boolean) rm_X6_areSo [.ref (a 0)] σ o := by
  unfold M_X6_areSo at h
  refine zmeti (own := RX6) [some (.ref (a 0)), none] (by decide) rfl hinj (Nat.le_of_ble_eq_true rfl) rfl (fun p e s m args below meth c C => ?_)
  refine r_iconst (v := 0) C dX6_areSo_0 (by decide) ?_
  refine r_istore_n (lv' := [some (.ref (a 0)), some (.int (0 : Int32))]) C dX6_areSo_1 (by decide) rfl rfl ?_
  exact r_le (lv' := [some (.ref (a 0)), some (.int (0 : Int32))]) ⟨rfl, rfl, trivial⟩ (tL_X6_areSo_2 C (0 : Int32) σ h)
/-! VineRowsModel.loadings -/
abbrev rm_X6_loadings : Room := { frames := 3, cells := 0, slots := 0, locals := 65 }
def B_X6_loadings_57 (p1 : Int32) (K26 : (Int32 → Int32 → Int32 → zSt → Option (Int32 × zSt))) (v2 : Int32) (v4 : Int32) (s0 : Int32) (s1 : Int32) (σ : zSt) : Option (Int32 × zSt) := znm ((s1 ||| s0)) (fun x9 => znm (v4 + (1 : Int32)) (fun x10 => K26 v2 x9 x10 σ))
def B_X6_loadings_26 (p1 : Int32) (K26 : (Int32 → Int32 → Int32 → zSt → Option (Int32 × zSt))) (v2 : Int32) (v3 : Int32) (v4 : Int32) (σ : zSt) : Option (Int32 × zSt) := (if (9 : Int32) < v4 then zgs σ 6 p1 8 v2 (fun σ5 => some (v3, σ5)) else zgs σ 6 p1 8 v4 (fun σ6 => zbd (M_X6_areSo σ6) (fun x8 σ7 => (if x8 = 0 then B_X6_loadings_57 p1 K26 v2 v4 (0 : Int32) v3 σ7 else B_X6_loadings_57 p1 K26 v2 v4 (zon v4) v3 σ7))))
def L_X6_loadings_26 (p1 : Int32) (v2 : Int32) (v3 : Int32) (v4 : Int32) (σ : zSt) : Option (Int32 × zSt) := zloop (fun (rec : Int32 × Int32 × Int32 × zSt → Option (Int32 × zSt)) x => B_X6_loadings_26 p1  (fun v2 v3 v4 σ => rec (v2, v3, v4, σ)) x.1 x.2.1 x.2.2.1 x.2.2.2) zFU (v2, v3, v4, σ)
def M_X6_loadings (p1 : Int32) (σ : zSt) : Option (Int32 × zSt) := zbd (M_X6_isPost p1 σ) (fun x2 σ1 => (if x2 = 0 then some ((-1 : Int32), σ1) else zbv (M_X6_findFars σ1) (fun σ3 => zga (σ3 6) p1 8 (fun x4 => L_X6_loadings_26 p1 x4 (0 : Int32) (0 : Int32) σ3))))
set_option maxRecDepth 20000 in
theorem tB_X6_loadings_57 {p : Program} {l : Launch} {e : Env} {s : State} {m : MethodId} {args : Array Value} {below : List Frame} {meth : Method} {c : Code} {D : va_G} {a : Nat → Nat} {cI cO cA : ClassId} {o : Int32 × zSt} (C : zC p s m args meth c D (ztys cI cO cA) 21 a cX6_loadings 5 RX6 (some .int)) {p1 : Int32} {K26 : (Int32 → Int32 → Int32 → zSt → Option (Int32 × zSt))} (hK26 : ∀ (v2 : Int32) (v3 : Int32) (v4 : Int32) (σ : zSt), K26 v2 v3 v4 σ = some o → zV p l e rm_X6_loadings s m args below meth c D 21 a (fM a cI) 5 (zQi below args s D 21 a (fM a cI) o) σ 26 [some (.ref (a 0)), some (.int p1), some (.int v2), some (.int v3), some (.int v4)] []) (v2 : Int32) (v4 : Int32) (s0 : Int32) (s1 : Int32) (σ : zSt) (h : B_X6_loadings_57 p1 K26 v2 v4 s0 s1 σ = some o) : zV p l e rm_X6_loadings s m args below meth c D 21 a (fM a cI) 5 (zQi below args s D 21 a (fM a cI) o) σ 57 [some (.ref (a 0)), some (.int p1), some (.int v2), none, some (.int v4)] [.int s0, .int s1] := by
  unfold B_X6_loadings_57 at h
  refine r_ior C dX6_loadings_57 ?_
  refine r_nm h (fun x9 h => ?_)
  refine r_istore_n (lv' := [some (.ref (a 0)), some (.int p1), some (.int v2), some (.int x9), some (.int v4)]) C dX6_loadings_58 (by decide) rfl rfl ?_
  refine r_gen h (fun x10 ex10 h => ?_)
  refine r_iinc (x := v4) (v := x10) (lv' := [some (.ref (a 0)), some (.int p1), some (.int v2), some (.int x9), some (.int x10)]) C dX6_loadings_59 rfl (by rw [← ex10]; rfl) (by decide) rfl rfl ?_
  clear ex10
  refine r_goto (tgt := 26) C dX6_loadings_62 (by decide) ?_
  exact r_le (lv' := [some (.ref (a 0)), some (.int p1), some (.int v2), some (.int x9), some (.int x10)]) ⟨rfl, rfl, rfl, rfl, rfl, trivial⟩ (hK26 v2 x9 x10 σ h)
set_option maxRecDepth 20000 in
theorem tB_X6_loadings_26 {p : Program} {l : Launch} {e : Env} {s : State} {m : MethodId} {args : Array Value} {below : List Frame} {meth : Method} {c : Code} {D : va_G} {a : Nat → Nat} {cI cO cA : ClassId} {o : Int32 × zSt} (C : zC p s m args meth c D (ztys cI cO cA) 21 a cX6_loadings 5 RX6 (some .int)) {p1 : Int32} {K26 : (Int32 → Int32 → Int32 → zSt → Option (Int32 × zSt))} (hK26 : ∀ (v2 : Int32) (v3 : Int32) (v4 : Int32) (σ : zSt), K26 v2 v3 v4 σ = some o → zV p l e rm_X6_loadings s m args below meth c D 21 a (fM a cI) 5 (zQi below args s D 21 a (fM a cI) o) σ 26 [some (.ref (a 0)), some (.int p1), some (.int v2), some (.int v3), some (.int v4)] []) (v2 : Int32) (v3 : Int32) (v4 : Int32) (σ : zSt) (h : B_X6_loadings_26 p1 K26 v2 v3 v4 σ = some o) : zV p l e rm_X6_loadings s m args below meth c D 21 a (fM a cI) 5 (zQi below args s D 21 a (fM a cI) o) σ 26 [some (.ref (a 0)), some (.int p1), some (.int v2), some (.int v3), some (.int v4)] [] := by
  unfold B_X6_loadings_26 at h
  refine r_iload (x := v4) C dX6_loadings_26 rfl ?_
  refine r_bipush (v := 9) C dX6_loadings_28 (by decide) ?_
  refine r_icmp_gt (tgt := 65) C dX6_loadings_30 (by decide) h (fun h => ?_) (fun h => ?_)
  · refine r_aload_n (x := (a 0)) C dX6_loadings_65 rfl ?_
    refine gf_X6_25 C dX6_loadings_66 ?_
    refine r_iload_n (x := p1) C dX6_loadings_69 rfl ?_
    refine r_iload_n (x := v2) C dX6_loadings_70 rfl ?_
    refine r_iast (t0 := 0) C 6 aM_6 rfl dX6_loadings_71 h (fun σ5 h => ?_)
    refine r_iload_n (x := v3) C dX6_loadings_72 rfl ?_
    exact r_iret C dX6_loadings_73 h
  · refine r_aload_n (x := (a 0)) C dX6_loadings_33 rfl ?_
    refine gf_X6_25 C dX6_loadings_34 ?_
    refine r_iload_n (x := p1) C dX6_loadings_37 rfl ?_
    refine r_iload (x := v4) C dX6_loadings_38 rfl ?_
    refine r_iast (t0 := 0) C 6 aM_6 rfl dX6_loadings_40 h (fun σ6 h => ?_)
    refine r_iload_n (x := v3) C dX6_loadings_41 rfl ?_
    refine r_aload_n (x := (a 0)) C dX6_loadings_42 rfl ?_
    refine r_callVi C [] [.int v3] (b := 0) (by decide) fM_0 rfl rfl zc_X6_201 zB_X6_areSo ⟨rfl, rfl, by decide, by decide⟩ (fun out h => c_X6_areSo C.2.2.2.2.2.2.2.1  h) rfl rfl (Nat.le_of_ble_eq_true rfl) dX6_loadings_43 h (fun x8 σ7 h => ?_)
    refine r_if_eq (tgt := 56) C dX6_loadings_46 (by decide) h (fun h => ?_) (fun h => ?_)
    · refine r_iconst (v := 0) C dX6_loadings_56 (by decide) ?_
      exact r_le (lv' := [some (.ref (a 0)), some (.int p1), some (.int v2), none, some (.int v4)]) ⟨rfl, rfl, rfl, rfl, trivial⟩ (tB_X6_loadings_57 C (K26 := K26) hK26 v2 v4 (0 : Int32) v3 σ7 h)
    · refine r_iconst (v := 1) C dX6_loadings_49 (by decide) ?_
      refine r_iload (x := v4) C dX6_loadings_50 rfl ?_
      refine r_ishl C dX6_loadings_52 ?_
      refine r_goto (tgt := 57) C dX6_loadings_53 (by decide) ?_
      exact r_le (lv' := [some (.ref (a 0)), some (.int p1), some (.int v2), none, some (.int v4)]) ⟨rfl, rfl, rfl, rfl, trivial⟩ (tB_X6_loadings_57 C (K26 := K26) hK26 v2 v4 (zon v4) v3 σ7 h)
set_option maxRecDepth 20000 in
theorem tL_X6_loadings_26 {p : Program} {l : Launch} {e : Env} {s : State} {m : MethodId} {args : Array Value} {below : List Frame} {meth : Method} {c : Code} {D : va_G} {a : Nat → Nat} {cI cO cA : ClassId} {o : Int32 × zSt} (C : zC p s m args meth c D (ztys cI cO cA) 21 a cX6_loadings 5 RX6 (some .int)) {p1 : Int32}  (v2 : Int32) (v3 : Int32) (v4 : Int32) (σ : zSt) (h : L_X6_loadings_26 p1  v2 v3 v4 σ = some o) : zV p l e rm_X6_loadings s m args below meth c D 21 a (fM a cI) 5 (zQi below args s D 21 a (fM a cI) o) σ 26 [some (.ref (a 0)), some (.int p1), some (.int v2), some (.int v3), some (.int v4)] [] := by
  unfold L_X6_loadings_26 at h
  refine zloop_ind (G := fun x => zV p l e rm_X6_loadings s m args below meth c D 21 a (fM a cI) 5 (zQi below args s D 21 a (fM a cI) o) x.2.2.2 26 [some (.ref (a 0)), some (.int p1), some (.int x.1), some (.int x.2.1), some (.int x.2.2.1)] []) ?_ zFU _ h
  intro rec hr x h
  exact tB_X6_loadings_26 C   (fun v2 v3 v4 σ => hr (v2, v3, v4, σ)) _ _ _ _ h
set_option maxRecDepth 20000 in
theorem c_X6_loadings {l : Launch} {D : va_G} {a : Nat → Nat} {cI cO cA : ClassId} (hinj : ∀ i j, i < 21 → j < 21 → a i = a j → i = j) {p1 : Int32} {σ : zSt} {o : Int32 × zSt} (h : M_X6_loadings p1 σ = some o) : zMi l D (ztys cI cO cA) 21 a (fM a cI) yX6_loadings cX6_loadings 5 (some .int) rm_X6_loadings [.ref (a 0), .int p1] σ o := by
  unfold M_X6_loadings at h
  refine zmeti (own := RX6) [some (.ref (a 0)), some (.int p1), none, none, none] (by decide) rfl hinj (Nat.le_of_ble_eq_true rfl) rfl (fun p e s m args below meth c C => ?_)
  refine r_aload_n (x := (a 0)) C dX6_loadings_0 rfl ?_
  refine r_iload_n (x := p1) C dX6_loadings_1 rfl ?_
  refine r_callVi C [.int p1] [] (b := 0) (by decide) fM_0 rfl rfl zc_X6_83 zB_X6_isPost ⟨rfl, rfl, by decide, by decide⟩ (fun out h => c_X6_isPost C.2.2.2.2.2.2.2.1  h) rfl rfl (Nat.le_of_ble_eq_true rfl) dX6_loadings_2 h (fun x2 σ1 h => ?_)
  refine r_if_ne (tgt := 10) C dX6_loadings_5 (by decide) h (fun h => ?_) (fun h => ?_)
  · refine r_aload_n (x := (a 0)) C dX6_loadings_10 rfl ?_
    refine r_callVv C [] [] (b := 0) (by decide) fM_0 rfl rfl zc_X6_146 zB_X6_findFars ⟨rfl, rfl, by decide, by decide⟩ (fun out h => c_X6_findFars C.2.2.2.2.2.2.2.1  h) rfl rfl (Nat.le_of_ble_eq_true rfl) dX6_loadings_11 h (fun σ3 h => ?_)
    refine r_aload_n (x := (a 0)) C dX6_loadings_14 rfl ?_
    refine gf_X6_25 C dX6_loadings_15 ?_
    refine r_iload_n (x := p1) C dX6_loadings_18 rfl ?_
    refine r_iald (t0 := 0) C 6 aM_6 rfl dX6_loadings_19 h (fun x4 h => ?_)
    refine r_istore_n (lv' := [some (.ref (a 0)), some (.int p1), some (.int x4), none, none]) C dX6_loadings_20 (by decide) rfl rfl ?_
    refine r_iconst (v := 0) C dX6_loadings_21 (by decide) ?_
    refine r_istore_n (lv' := [some (.ref (a 0)), some (.int p1), some (.int x4), some (.int (0 : Int32)), none]) C dX6_loadings_22 (by decide) rfl rfl ?_
    refine r_iconst (v := 0) C dX6_loadings_23 (by decide) ?_
    refine r_istore (lv' := [some (.ref (a 0)), some (.int p1), some (.int x4), some (.int (0 : Int32)), some (.int (0 : Int32))]) C dX6_loadings_24 (by decide) rfl rfl ?_
    exact r_le (lv' := [some (.ref (a 0)), some (.int p1), some (.int x4), some (.int (0 : Int32)), some (.int (0 : Int32))]) ⟨rfl, rfl, rfl, rfl, rfl, trivial⟩ (tL_X6_loadings_26 C x4 (0 : Int32) (0 : Int32) σ3 h)
  · refine r_iconst (v := -1) C dX6_loadings_8 (by decide) ?_
    exact r_iret C dX6_loadings_9 h
/-! VineRowsModel.kinds -/
abbrev rm_X6_kinds : Room := { frames := 3, cells := 0, slots := 0, locals := 65 }
def B_X6_kinds_56 (p1 : Int32) (K26 : (Int32 → Int32 → Int32 → zSt → Option (Int32 × zSt))) (v2 : Int32) (v4 : Int32) (s0 : Int32) (s1 : Int32) (σ : zSt) : Option (Int32 × zSt) := znm ((s1 ||| s0)) (fun x9 => znm (v4 + (1 : Int32)) (fun x10 => K26 v2 x9 x10 σ))
def B_X6_kinds_26 (p1 : Int32) (K26 : (Int32 → Int32 → Int32 → zSt → Option (Int32 × zSt))) (v2 : Int32) (v3 : Int32) (v4 : Int32) (σ : zSt) : Option (Int32 × zSt) := (if (3 : Int32) ≤ v4 then zgs σ 5 p1 8 v2 (fun σ5 => some (v3, σ5)) else zgs σ 5 p1 8 v4 (fun σ6 => zbd (M_X6_areSo σ6) (fun x8 σ7 => (if x8 = 0 then B_X6_kinds_56 p1 K26 v2 v4 (0 : Int32) v3 σ7 else B_X6_kinds_56 p1 K26 v2 v4 (zon v4) v3 σ7))))
def L_X6_kinds_26 (p1 : Int32) (v2 : Int32) (v3 : Int32) (v4 : Int32) (σ : zSt) : Option (Int32 × zSt) := zloop (fun (rec : Int32 × Int32 × Int32 × zSt → Option (Int32 × zSt)) x => B_X6_kinds_26 p1  (fun v2 v3 v4 σ => rec (v2, v3, v4, σ)) x.1 x.2.1 x.2.2.1 x.2.2.2) zFU (v2, v3, v4, σ)
def M_X6_kinds (p1 : Int32) (σ : zSt) : Option (Int32 × zSt) := zbd (M_X6_isPost p1 σ) (fun x2 σ1 => (if x2 = 0 then some ((-1 : Int32), σ1) else zbv (M_X6_findFars σ1) (fun σ3 => zga (σ3 5) p1 8 (fun x4 => L_X6_kinds_26 p1 x4 (0 : Int32) (0 : Int32) σ3))))
set_option maxRecDepth 20000 in
theorem tB_X6_kinds_56 {p : Program} {l : Launch} {e : Env} {s : State} {m : MethodId} {args : Array Value} {below : List Frame} {meth : Method} {c : Code} {D : va_G} {a : Nat → Nat} {cI cO cA : ClassId} {o : Int32 × zSt} (C : zC p s m args meth c D (ztys cI cO cA) 21 a cX6_kinds 5 RX6 (some .int)) {p1 : Int32} {K26 : (Int32 → Int32 → Int32 → zSt → Option (Int32 × zSt))} (hK26 : ∀ (v2 : Int32) (v3 : Int32) (v4 : Int32) (σ : zSt), K26 v2 v3 v4 σ = some o → zV p l e rm_X6_kinds s m args below meth c D 21 a (fM a cI) 5 (zQi below args s D 21 a (fM a cI) o) σ 26 [some (.ref (a 0)), some (.int p1), some (.int v2), some (.int v3), some (.int v4)] []) (v2 : Int32) (v4 : Int32) (s0 : Int32) (s1 : Int32) (σ : zSt) (h : B_X6_kinds_56 p1 K26 v2 v4 s0 s1 σ = some o) : zV p l e rm_X6_kinds s m args below meth c D 21 a (fM a cI) 5 (zQi below args s D 21 a (fM a cI) o) σ 56 [some (.ref (a 0)), some (.int p1), some (.int v2), none, some (.int v4)] [.int s0, .int s1] := by
  unfold B_X6_kinds_56 at h
  refine r_ior C dX6_kinds_56 ?_
  refine r_nm h (fun x9 h => ?_)
  refine r_istore_n (lv' := [some (.ref (a 0)), some (.int p1), some (.int v2), some (.int x9), some (.int v4)]) C dX6_kinds_57 (by decide) rfl rfl ?_
  refine r_gen h (fun x10 ex10 h => ?_)
  refine r_iinc (x := v4) (v := x10) (lv' := [some (.ref (a 0)), some (.int p1), some (.int v2), some (.int x9), some (.int x10)]) C dX6_kinds_58 rfl (by rw [← ex10]; rfl) (by decide) rfl rfl ?_
  clear ex10
  refine r_goto (tgt := 26) C dX6_kinds_61 (by decide) ?_
  exact r_le (lv' := [some (.ref (a 0)), some (.int p1), some (.int v2), some (.int x9), some (.int x10)]) ⟨rfl, rfl, rfl, rfl, rfl, trivial⟩ (hK26 v2 x9 x10 σ h)
set_option maxRecDepth 20000 in
theorem tB_X6_kinds_26 {p : Program} {l : Launch} {e : Env} {s : State} {m : MethodId} {args : Array Value} {below : List Frame} {meth : Method} {c : Code} {D : va_G} {a : Nat → Nat} {cI cO cA : ClassId} {o : Int32 × zSt} (C : zC p s m args meth c D (ztys cI cO cA) 21 a cX6_kinds 5 RX6 (some .int)) {p1 : Int32} {K26 : (Int32 → Int32 → Int32 → zSt → Option (Int32 × zSt))} (hK26 : ∀ (v2 : Int32) (v3 : Int32) (v4 : Int32) (σ : zSt), K26 v2 v3 v4 σ = some o → zV p l e rm_X6_kinds s m args below meth c D 21 a (fM a cI) 5 (zQi below args s D 21 a (fM a cI) o) σ 26 [some (.ref (a 0)), some (.int p1), some (.int v2), some (.int v3), some (.int v4)] []) (v2 : Int32) (v3 : Int32) (v4 : Int32) (σ : zSt) (h : B_X6_kinds_26 p1 K26 v2 v3 v4 σ = some o) : zV p l e rm_X6_kinds s m args below meth c D 21 a (fM a cI) 5 (zQi below args s D 21 a (fM a cI) o) σ 26 [some (.ref (a 0)), some (.int p1), some (.int v2), some (.int v3), some (.int v4)] [] := by
  unfold B_X6_kinds_26 at h
  refine r_iload (x := v4) C dX6_kinds_26 rfl ?_
  refine r_iconst (v := 3) C dX6_kinds_28 (by decide) ?_
  refine r_icmp_ge (tgt := 64) C dX6_kinds_29 (by decide) h (fun h => ?_) (fun h => ?_)
  · refine r_aload_n (x := (a 0)) C dX6_kinds_64 rfl ?_
    refine gf_X6_22 C dX6_kinds_65 ?_
    refine r_iload_n (x := p1) C dX6_kinds_68 rfl ?_
    refine r_iload_n (x := v2) C dX6_kinds_69 rfl ?_
    refine r_iast (t0 := 0) C 5 aM_5 rfl dX6_kinds_70 h (fun σ5 h => ?_)
    refine r_iload_n (x := v3) C dX6_kinds_71 rfl ?_
    exact r_iret C dX6_kinds_72 h
  · refine r_aload_n (x := (a 0)) C dX6_kinds_32 rfl ?_
    refine gf_X6_22 C dX6_kinds_33 ?_
    refine r_iload_n (x := p1) C dX6_kinds_36 rfl ?_
    refine r_iload (x := v4) C dX6_kinds_37 rfl ?_
    refine r_iast (t0 := 0) C 5 aM_5 rfl dX6_kinds_39 h (fun σ6 h => ?_)
    refine r_iload_n (x := v3) C dX6_kinds_40 rfl ?_
    refine r_aload_n (x := (a 0)) C dX6_kinds_41 rfl ?_
    refine r_callVi C [] [.int v3] (b := 0) (by decide) fM_0 rfl rfl zc_X6_201 zB_X6_areSo ⟨rfl, rfl, by decide, by decide⟩ (fun out h => c_X6_areSo C.2.2.2.2.2.2.2.1  h) rfl rfl (Nat.le_of_ble_eq_true rfl) dX6_kinds_42 h (fun x8 σ7 h => ?_)
    refine r_if_eq (tgt := 55) C dX6_kinds_45 (by decide) h (fun h => ?_) (fun h => ?_)
    · refine r_iconst (v := 0) C dX6_kinds_55 (by decide) ?_
      exact r_le (lv' := [some (.ref (a 0)), some (.int p1), some (.int v2), none, some (.int v4)]) ⟨rfl, rfl, rfl, rfl, trivial⟩ (tB_X6_kinds_56 C (K26 := K26) hK26 v2 v4 (0 : Int32) v3 σ7 h)
    · refine r_iconst (v := 1) C dX6_kinds_48 (by decide) ?_
      refine r_iload (x := v4) C dX6_kinds_49 rfl ?_
      refine r_ishl C dX6_kinds_51 ?_
      refine r_goto (tgt := 56) C dX6_kinds_52 (by decide) ?_
      exact r_le (lv' := [some (.ref (a 0)), some (.int p1), some (.int v2), none, some (.int v4)]) ⟨rfl, rfl, rfl, rfl, trivial⟩ (tB_X6_kinds_56 C (K26 := K26) hK26 v2 v4 (zon v4) v3 σ7 h)
set_option maxRecDepth 20000 in
theorem tL_X6_kinds_26 {p : Program} {l : Launch} {e : Env} {s : State} {m : MethodId} {args : Array Value} {below : List Frame} {meth : Method} {c : Code} {D : va_G} {a : Nat → Nat} {cI cO cA : ClassId} {o : Int32 × zSt} (C : zC p s m args meth c D (ztys cI cO cA) 21 a cX6_kinds 5 RX6 (some .int)) {p1 : Int32}  (v2 : Int32) (v3 : Int32) (v4 : Int32) (σ : zSt) (h : L_X6_kinds_26 p1  v2 v3 v4 σ = some o) : zV p l e rm_X6_kinds s m args below meth c D 21 a (fM a cI) 5 (zQi below args s D 21 a (fM a cI) o) σ 26 [some (.ref (a 0)), some (.int p1), some (.int v2), some (.int v3), some (.int v4)] [] := by
  unfold L_X6_kinds_26 at h
  refine zloop_ind (G := fun x => zV p l e rm_X6_kinds s m args below meth c D 21 a (fM a cI) 5 (zQi below args s D 21 a (fM a cI) o) x.2.2.2 26 [some (.ref (a 0)), some (.int p1), some (.int x.1), some (.int x.2.1), some (.int x.2.2.1)] []) ?_ zFU _ h
  intro rec hr x h
  exact tB_X6_kinds_26 C   (fun v2 v3 v4 σ => hr (v2, v3, v4, σ)) _ _ _ _ h
set_option maxRecDepth 20000 in
theorem c_X6_kinds {l : Launch} {D : va_G} {a : Nat → Nat} {cI cO cA : ClassId} (hinj : ∀ i j, i < 21 → j < 21 → a i = a j → i = j) {p1 : Int32} {σ : zSt} {o : Int32 × zSt} (h : M_X6_kinds p1 σ = some o) : zMi l D (ztys cI cO cA) 21 a (fM a cI) yX6_kinds cX6_kinds 5 (some .int) rm_X6_kinds [.ref (a 0), .int p1] σ o := by
  unfold M_X6_kinds at h
  refine zmeti (own := RX6) [some (.ref (a 0)), some (.int p1), none, none, none] (by decide) rfl hinj (Nat.le_of_ble_eq_true rfl) rfl (fun p e s m args below meth c C => ?_)
  refine r_aload_n (x := (a 0)) C dX6_kinds_0 rfl ?_
  refine r_iload_n (x := p1) C dX6_kinds_1 rfl ?_
  refine r_callVi C [.int p1] [] (b := 0) (by decide) fM_0 rfl rfl zc_X6_83 zB_X6_isPost ⟨rfl, rfl, by decide, by decide⟩ (fun out h => c_X6_isPost C.2.2.2.2.2.2.2.1  h) rfl rfl (Nat.le_of_ble_eq_true rfl) dX6_kinds_2 h (fun x2 σ1 h => ?_)
  refine r_if_ne (tgt := 10) C dX6_kinds_5 (by decide) h (fun h => ?_) (fun h => ?_)
  · refine r_aload_n (x := (a 0)) C dX6_kinds_10 rfl ?_
    refine r_callVv C [] [] (b := 0) (by decide) fM_0 rfl rfl zc_X6_146 zB_X6_findFars ⟨rfl, rfl, by decide, by decide⟩ (fun out h => c_X6_findFars C.2.2.2.2.2.2.2.1  h) rfl rfl (Nat.le_of_ble_eq_true rfl) dX6_kinds_11 h (fun σ3 h => ?_)
    refine r_aload_n (x := (a 0)) C dX6_kinds_14 rfl ?_
    refine gf_X6_22 C dX6_kinds_15 ?_
    refine r_iload_n (x := p1) C dX6_kinds_18 rfl ?_
    refine r_iald (t0 := 0) C 5 aM_5 rfl dX6_kinds_19 h (fun x4 h => ?_)
    refine r_istore_n (lv' := [some (.ref (a 0)), some (.int p1), some (.int x4), none, none]) C dX6_kinds_20 (by decide) rfl rfl ?_
    refine r_iconst (v := 0) C dX6_kinds_21 (by decide) ?_
    refine r_istore_n (lv' := [some (.ref (a 0)), some (.int p1), some (.int x4), some (.int (0 : Int32)), none]) C dX6_kinds_22 (by decide) rfl rfl ?_
    refine r_iconst (v := 0) C dX6_kinds_23 (by decide) ?_
    refine r_istore (lv' := [some (.ref (a 0)), some (.int p1), some (.int x4), some (.int (0 : Int32)), some (.int (0 : Int32))]) C dX6_kinds_24 (by decide) rfl rfl ?_
    exact r_le (lv' := [some (.ref (a 0)), some (.int p1), some (.int x4), some (.int (0 : Int32)), some (.int (0 : Int32))]) ⟨rfl, rfl, rfl, rfl, rfl, trivial⟩ (tL_X6_kinds_26 C x4 (0 : Int32) (0 : Int32) σ3 h)
  · refine r_iconst (v := -1) C dX6_kinds_8 (by decide) ?_
    exact r_iret C dX6_kinds_9 h
/-! VineRowsModel.inLeastTerms -/
abbrev rm_X6_inLeastTerms : Room := { frames := 0, cells := 0, slots := 0, locals := 0 }
def B_X6_inLeastTerms_6 (p1 : Int64) (p2 : Int64) (p3 : Int32) (K6 : (Int64 → Int64 → zSt → Option (Int64 × zSt))) (v5 : Int64) (v7 : Int64) (σ : zSt) : Option (Int64 × zSt) := (if (lg_cmp v7 (0 : Int64)) = 0 then (if p3 = 0 then zdvL p1 v5 (fun x2 => some (x2, σ)) else zdvL p2 v5 (fun x1 => some (x1, σ))) else zrmL v5 v7 (fun x3 => K6 v7 x3 σ))
def L_X6_inLeastTerms_6 (p1 : Int64) (p2 : Int64) (p3 : Int32) (v5 : Int64) (v7 : Int64) (σ : zSt) : Option (Int64 × zSt) := zloop (fun (rec : Int64 × Int64 × zSt → Option (Int64 × zSt)) x => B_X6_inLeastTerms_6 p1 p2 p3  (fun v5 v7 σ => rec (v5, v7, σ)) x.1 x.2.1 x.2.2) zFU (v5, v7, σ)
def M_X6_inLeastTerms (p1 : Int64) (p2 : Int64) (p3 : Int32) (σ : zSt) : Option (Int64 × zSt) := L_X6_inLeastTerms_6 p1 p2 p3 p1 p2 σ
set_option maxRecDepth 20000 in
theorem tB_X6_inLeastTerms_6 {p : Program} {l : Launch} {e : Env} {s : State} {m : MethodId} {args : Array Value} {below : List Frame} {meth : Method} {c : Code} {D : va_G} {a : Nat → Nat} {cI cO cA : ClassId} {o : Int64 × zSt} (C : zC p s m args meth c D (ztys cI cO cA) 21 a cX6_inLeastTerms 11 RX6 (some .long)) {p1 : Int64} {p2 : Int64} {p3 : Int32} {K6 : (Int64 → Int64 → zSt → Option (Int64 × zSt))} (hK6 : ∀ (v5 : Int64) (v7 : Int64) (σ : zSt), K6 v5 v7 σ = some o → zV p l e rm_X6_inLeastTerms s m args below meth c D 21 a (fM a cI) 11 (zQl below args s D 21 a (fM a cI) o) σ 6 [some (.long p1), none, some (.long p2), none, some (.int p3), some (.long v5), none, some (.long v7), none, none, none] []) (v5 : Int64) (v7 : Int64) (σ : zSt) (h : B_X6_inLeastTerms_6 p1 p2 p3 K6 v5 v7 σ = some o) : zV p l e rm_X6_inLeastTerms s m args below meth c D 21 a (fM a cI) 11 (zQl below args s D 21 a (fM a cI) o) σ 6 [some (.long p1), none, some (.long p2), none, some (.int p3), some (.long v5), none, some (.long v7), none, none, none] [] := by
  unfold B_X6_inLeastTerms_6 at h
  refine r_lload (x := v7) C dX6_inLeastTerms_6 rfl ?_
  refine r_lconst (v := 0) C dX6_inLeastTerms_8 (by decide) ?_
  refine r_lcmp C dX6_inLeastTerms_9 ?_
  refine r_if_eq (tgt := 31) C dX6_inLeastTerms_10 (by decide) h (fun h => ?_) (fun h => ?_)
  · refine r_iload (x := p3) C dX6_inLeastTerms_31 rfl ?_
    refine r_if_ne (tgt := 43) C dX6_inLeastTerms_33 (by decide) h (fun h => ?_) (fun h => ?_)
    · refine r_lload_n (x := p2) C dX6_inLeastTerms_43 rfl ?_
      refine r_lload (x := v5) C dX6_inLeastTerms_44 rfl ?_
      refine r_ldiv C dX6_inLeastTerms_46 h (fun x1 h => ?_)
      exact r_lret C dX6_inLeastTerms_47 h
    · refine r_lload_n (x := p1) C dX6_inLeastTerms_36 rfl ?_
      refine r_lload (x := v5) C dX6_inLeastTerms_37 rfl ?_
      refine r_ldiv C dX6_inLeastTerms_39 h (fun x2 h => ?_)
      refine r_goto (tgt := 47) C dX6_inLeastTerms_40 (by decide) ?_
      exact r_lret C dX6_inLeastTerms_47 h
  · refine r_lload (x := v5) C dX6_inLeastTerms_13 rfl ?_
    refine r_lload (x := v7) C dX6_inLeastTerms_15 rfl ?_
    refine r_lrem C dX6_inLeastTerms_17 h (fun x3 h => ?_)
    refine r_lstore (lv' := [some (.long p1), none, some (.long p2), none, some (.int p3), some (.long v5), none, some (.long v7), none, some (.long x3), none]) C dX6_inLeastTerms_18 (by decide) rfl rfl ?_
    refine r_lload (x := v7) C dX6_inLeastTerms_20 rfl ?_
    refine r_lstore (lv' := [some (.long p1), none, some (.long p2), none, some (.int p3), some (.long v7), none, some (.long v7), none, some (.long x3), none]) C dX6_inLeastTerms_22 (by decide) rfl rfl ?_
    refine r_lload (x := x3) C dX6_inLeastTerms_24 rfl ?_
    refine r_lstore (lv' := [some (.long p1), none, some (.long p2), none, some (.int p3), some (.long v7), none, some (.long x3), none, some (.long x3), none]) C dX6_inLeastTerms_26 (by decide) rfl rfl ?_
    refine r_goto (tgt := 6) C dX6_inLeastTerms_28 (by decide) ?_
    exact r_le (lv' := [some (.long p1), none, some (.long p2), none, some (.int p3), some (.long v7), none, some (.long x3), none, none, none]) ⟨rfl, rfl, rfl, rfl, rfl, trivial⟩ (hK6 v7 x3 σ h)
set_option maxRecDepth 20000 in
theorem tL_X6_inLeastTerms_6 {p : Program} {l : Launch} {e : Env} {s : State} {m : MethodId} {args : Array Value} {below : List Frame} {meth : Method} {c : Code} {D : va_G} {a : Nat → Nat} {cI cO cA : ClassId} {o : Int64 × zSt} (C : zC p s m args meth c D (ztys cI cO cA) 21 a cX6_inLeastTerms 11 RX6 (some .long)) {p1 : Int64} {p2 : Int64} {p3 : Int32}  (v5 : Int64) (v7 : Int64) (σ : zSt) (h : L_X6_inLeastTerms_6 p1 p2 p3  v5 v7 σ = some o) : zV p l e rm_X6_inLeastTerms s m args below meth c D 21 a (fM a cI) 11 (zQl below args s D 21 a (fM a cI) o) σ 6 [some (.long p1), none, some (.long p2), none, some (.int p3), some (.long v5), none, some (.long v7), none, none, none] [] := by
  unfold L_X6_inLeastTerms_6 at h
  refine zloop_ind (G := fun x => zV p l e rm_X6_inLeastTerms s m args below meth c D 21 a (fM a cI) 11 (zQl below args s D 21 a (fM a cI) o) x.2.2 6 [some (.long p1), none, some (.long p2), none, some (.int p3), some (.long x.1), none, some (.long x.2.1), none, none, none] []) ?_ zFU _ h
  intro rec hr x h
  exact tB_X6_inLeastTerms_6 C   (fun v5 v7 σ => hr (v5, v7, σ)) _ _ _ h
set_option maxRecDepth 20000 in
theorem c_X6_inLeastTerms {l : Launch} {D : va_G} {a : Nat → Nat} {cI cO cA : ClassId} (hinj : ∀ i j, i < 21 → j < 21 → a i = a j → i = j) {p1 : Int64} {p2 : Int64} {p3 : Int32} {σ : zSt} {o : Int64 × zSt} (h : M_X6_inLeastTerms p1 p2 p3 σ = some o) : zMl l D (ztys cI cO cA) 21 a (fM a cI) yX6_inLeastTerms cX6_inLeastTerms 11 (some .long) rm_X6_inLeastTerms [.long p1, .long p2, .int p3] σ o := by
  unfold M_X6_inLeastTerms at h
  refine zmetl (own := RX6) [some (.long p1), none, some (.long p2), none, some (.int p3), none, none, none, none, none, none] (by decide) rfl hinj (Nat.le_of_ble_eq_true rfl) rfl (fun p e s m args below meth c C => ?_)
  refine r_lload_n (x := p1) C dX6_inLeastTerms_0 rfl ?_
  refine r_lstore (lv' := [some (.long p1), none, some (.long p2), none, some (.int p3), some (.long p1), none, none, none, none, none]) C dX6_inLeastTerms_1 (by decide) rfl rfl ?_
  refine r_lload_n (x := p2) C dX6_inLeastTerms_3 rfl ?_
  refine r_lstore (lv' := [some (.long p1), none, some (.long p2), none, some (.int p3), some (.long p1), none, some (.long p2), none, none, none]) C dX6_inLeastTerms_4 (by decide) rfl rfl ?_
  exact r_le (lv' := [some (.long p1), none, some (.long p2), none, some (.int p3), some (.long p1), none, some (.long p2), none, none, none]) ⟨rfl, rfl, rfl, rfl, rfl, trivial⟩ (tL_X6_inLeastTerms_6 C p1 p2 σ h)
/-! VineRowsModel.odds -/
abbrev rm_X6_odds : Room := { frames := 2, cells := 0, slots := 0, locals := 47 }
def B_X6_odds_93 (p1 : Int32) (p2 : Int32) (K42 : (Int32 → Int32 → Int32 → zSt → Option (Int64 × zSt))) (K57 : (Int32 → Int32 → Int32 → Int32 → zSt → Option (Int64 × zSt))) (v3 : Int32) (v5 : Int32) (v6 : Int32) (s0 : Int32) (s1 : Int32) (σ : zSt) : Option (Int64 × zSt) := znm ((s1 + s0)) (fun x15 => znm (v6 + (1 : Int32)) (fun x16 => K57 v3 x15 v5 x16 σ))
def B_X6_odds_57 (p1 : Int32) (p2 : Int32) (K42 : (Int32 → Int32 → Int32 → zSt → Option (Int64 × zSt))) (K57 : (Int32 → Int32 → Int32 → Int32 → zSt → Option (Int64 × zSt))) (v3 : Int32) (v4 : Int32) (v5 : Int32) (v6 : Int32) (σ : zSt) : Option (Int64 × zSt) := znm (σ 0 5) (fun x11 => (if x11 ≤ v6 then znm (v5 + (1 : Int32)) (fun x12 => K42 v3 v4 x12 σ) else znm (v3 + (1 : Int32)) (fun x13 => zga (σ 10) (((8 : Int32) * v5) + v6) 64 (fun x14 => (if p1 < x14 then B_X6_odds_93 p1 p2 K42 K57 x13 v5 v6 (0 : Int32) v4 σ else B_X6_odds_93 p1 p2 K42 K57 x13 v5 v6 (1 : Int32) v4 σ)))))
def L_X6_odds_57 (p1 : Int32) (p2 : Int32) (K42 : (Int32 → Int32 → Int32 → zSt → Option (Int64 × zSt))) (v3 : Int32) (v4 : Int32) (v5 : Int32) (v6 : Int32) (σ : zSt) : Option (Int64 × zSt) := zloop (fun (rec : Int32 × Int32 × Int32 × Int32 × zSt → Option (Int64 × zSt)) x => B_X6_odds_57 p1 p2 K42 (fun v3 v4 v5 v6 σ => rec (v3, v4, v5, v6, σ)) x.1 x.2.1 x.2.2.1 x.2.2.2.1 x.2.2.2.2) zFU (v3, v4, v5, v6, σ)
def B_X6_odds_42 (p1 : Int32) (p2 : Int32) (K42 : (Int32 → Int32 → Int32 → zSt → Option (Int64 × zSt))) (v3 : Int32) (v4 : Int32) (v5 : Int32) (σ : zSt) : Option (Int64 × zSt) := znm (σ 0 5) (fun x7 => (if x7 ≤ v5 then zbd (M_X6_inLeastTerms ((v4).toInt64) ((v3).toInt64) p2 σ) (fun x9 σ8 => some (x9, σ8)) else znm ((v5 + (1 : Int32))) (fun x10 => L_X6_odds_57 p1 p2 K42 v3 v4 v5 x10 σ)))
def L_X6_odds_42 (p1 : Int32) (p2 : Int32) (v3 : Int32) (v4 : Int32) (v5 : Int32) (σ : zSt) : Option (Int64 × zSt) := zloop (fun (rec : Int32 × Int32 × Int32 × zSt → Option (Int64 × zSt)) x => B_X6_odds_42 p1 p2  (fun v3 v4 v5 σ => rec (v3, v4, v5, σ)) x.1 x.2.1 x.2.2.1 x.2.2.2) zFU (v3, v4, v5, σ)
def M_X6_odds (p1 : Int32) (p2 : Int32) (σ : zSt) : Option (Int64 × zSt) := zbd (M_X6_within p1 (0 : Int32) (7 : Int32) σ) (fun x2 σ1 => (if x2 = 0 then some ((-9223372036854775808 : Int64), σ1) else zbd (M_X6_within p2 (0 : Int32) (1 : Int32) σ1) (fun x4 σ3 => (if x4 = 0 then some ((-9223372036854775808 : Int64), σ3) else znm (σ3 0 5) (fun x5 => (if x5 = 0 then some ((-9223372036854775808 : Int64), σ3) else zbv (M_X6_findFars σ3) (fun σ6 => L_X6_odds_42 p1 p2 (0 : Int32) (0 : Int32) (0 : Int32) σ6)))))))
set_option maxRecDepth 20000 in
theorem tB_X6_odds_93 {p : Program} {l : Launch} {e : Env} {s : State} {m : MethodId} {args : Array Value} {below : List Frame} {meth : Method} {c : Code} {D : va_G} {a : Nat → Nat} {cI cO cA : ClassId} {o : Int64 × zSt} (C : zC p s m args meth c D (ztys cI cO cA) 21 a cX6_odds 7 RX6 (some .long)) {p1 : Int32} {p2 : Int32} {K42 : (Int32 → Int32 → Int32 → zSt → Option (Int64 × zSt))} {K57 : (Int32 → Int32 → Int32 → Int32 → zSt → Option (Int64 × zSt))} (hK42 : ∀ (v3 : Int32) (v4 : Int32) (v5 : Int32) (σ : zSt), K42 v3 v4 v5 σ = some o → zV p l e rm_X6_odds s m args below meth c D 21 a (fM a cI) 7 (zQl below args s D 21 a (fM a cI) o) σ 42 [some (.ref (a 0)), some (.int p1), some (.int p2), some (.int v3), some (.int v4), some (.int v5), none] []) (hK57 : ∀ (v3 : Int32) (v4 : Int32) (v5 : Int32) (v6 : Int32) (σ : zSt), K57 v3 v4 v5 v6 σ = some o → zV p l e rm_X6_odds s m args below meth c D 21 a (fM a cI) 7 (zQl below args s D 21 a (fM a cI) o) σ 57 [some (.ref (a 0)), some (.int p1), some (.int p2), some (.int v3), some (.int v4), some (.int v5), some (.int v6)] []) (v3 : Int32) (v5 : Int32) (v6 : Int32) (s0 : Int32) (s1 : Int32) (σ : zSt) (h : B_X6_odds_93 p1 p2 K42 K57 v3 v5 v6 s0 s1 σ = some o) : zV p l e rm_X6_odds s m args below meth c D 21 a (fM a cI) 7 (zQl below args s D 21 a (fM a cI) o) σ 93 [some (.ref (a 0)), some (.int p1), some (.int p2), some (.int v3), none, some (.int v5), some (.int v6)] [.int s0, .int s1] := by
  unfold B_X6_odds_93 at h
  refine r_iadd C dX6_odds_93 ?_
  refine r_nm h (fun x15 h => ?_)
  refine r_istore (lv' := [some (.ref (a 0)), some (.int p1), some (.int p2), some (.int v3), some (.int x15), some (.int v5), some (.int v6)]) C dX6_odds_94 (by decide) rfl rfl ?_
  refine r_gen h (fun x16 ex16 h => ?_)
  refine r_iinc (x := v6) (v := x16) (lv' := [some (.ref (a 0)), some (.int p1), some (.int p2), some (.int v3), some (.int x15), some (.int v5), some (.int x16)]) C dX6_odds_96 rfl (by rw [← ex16]; rfl) (by decide) rfl rfl ?_
  clear ex16
  refine r_goto (tgt := 57) C dX6_odds_99 (by decide) ?_
  exact r_le (lv' := [some (.ref (a 0)), some (.int p1), some (.int p2), some (.int v3), some (.int x15), some (.int v5), some (.int x16)]) ⟨rfl, rfl, rfl, rfl, rfl, rfl, rfl, trivial⟩ (hK57 v3 x15 v5 x16 σ h)
set_option maxRecDepth 20000 in
theorem tB_X6_odds_57 {p : Program} {l : Launch} {e : Env} {s : State} {m : MethodId} {args : Array Value} {below : List Frame} {meth : Method} {c : Code} {D : va_G} {a : Nat → Nat} {cI cO cA : ClassId} {o : Int64 × zSt} (C : zC p s m args meth c D (ztys cI cO cA) 21 a cX6_odds 7 RX6 (some .long)) {p1 : Int32} {p2 : Int32} {K42 : (Int32 → Int32 → Int32 → zSt → Option (Int64 × zSt))} {K57 : (Int32 → Int32 → Int32 → Int32 → zSt → Option (Int64 × zSt))} (hK42 : ∀ (v3 : Int32) (v4 : Int32) (v5 : Int32) (σ : zSt), K42 v3 v4 v5 σ = some o → zV p l e rm_X6_odds s m args below meth c D 21 a (fM a cI) 7 (zQl below args s D 21 a (fM a cI) o) σ 42 [some (.ref (a 0)), some (.int p1), some (.int p2), some (.int v3), some (.int v4), some (.int v5), none] []) (hK57 : ∀ (v3 : Int32) (v4 : Int32) (v5 : Int32) (v6 : Int32) (σ : zSt), K57 v3 v4 v5 v6 σ = some o → zV p l e rm_X6_odds s m args below meth c D 21 a (fM a cI) 7 (zQl below args s D 21 a (fM a cI) o) σ 57 [some (.ref (a 0)), some (.int p1), some (.int p2), some (.int v3), some (.int v4), some (.int v5), some (.int v6)] []) (v3 : Int32) (v4 : Int32) (v5 : Int32) (v6 : Int32) (σ : zSt) (h : B_X6_odds_57 p1 p2 K42 K57 v3 v4 v5 v6 σ = some o) : zV p l e rm_X6_odds s m args below meth c D 21 a (fM a cI) 7 (zQl below args s D 21 a (fM a cI) o) σ 57 [some (.ref (a 0)), some (.int p1), some (.int p2), some (.int v3), some (.int v4), some (.int v5), some (.int v6)] [] := by
  unfold B_X6_odds_57 at h
  refine r_iload (x := v6) C dX6_odds_57 rfl ?_
  refine r_aload_n (x := (a 0)) C dX6_odds_59 rfl ?_
  refine gf_X6_80 C dX6_odds_60 h (fun x11 h => ?_)
  refine r_icmp_ge (tgt := 102) C dX6_odds_63 (by decide) h (fun h => ?_) (fun h => ?_)
  · refine r_gen h (fun x12 ex12 h => ?_)
    refine r_iinc (x := v5) (v := x12) (lv' := [some (.ref (a 0)), some (.int p1), some (.int p2), some (.int v3), some (.int v4), some (.int x12), some (.int v6)]) C dX6_odds_102 rfl (by rw [← ex12]; rfl) (by decide) rfl rfl ?_
    clear ex12
    refine r_goto (tgt := 42) C dX6_odds_105 (by decide) ?_
    exact r_le (lv' := [some (.ref (a 0)), some (.int p1), some (.int p2), some (.int v3), some (.int v4), some (.int x12), none]) ⟨rfl, rfl, rfl, rfl, rfl, rfl, trivial⟩ (hK42 v3 v4 x12 σ h)
  · refine r_gen h (fun x13 ex13 h => ?_)
    refine r_iinc (x := v3) (v := x13) (lv' := [some (.ref (a 0)), some (.int p1), some (.int p2), some (.int x13), some (.int v4), some (.int v5), some (.int v6)]) C dX6_odds_66 rfl (by rw [← ex13]; rfl) (by decide) rfl rfl ?_
    clear ex13
    refine r_iload (x := v4) C dX6_odds_69 rfl ?_
    refine r_aload_n (x := (a 0)) C dX6_odds_71 rfl ?_
    refine gf_X6_37 C dX6_odds_72 ?_
    refine r_bipush (v := 8) C dX6_odds_75 (by decide) ?_
    refine r_iload (x := v5) C dX6_odds_77 rfl ?_
    refine r_imul C dX6_odds_79 ?_
    refine r_iload (x := v6) C dX6_odds_80 rfl ?_
    refine r_iadd C dX6_odds_82 ?_
    refine r_iald (t0 := 0) C 10 aM_10 rfl dX6_odds_83 h (fun x14 h => ?_)
    refine r_iload_n (x := p1) C dX6_odds_84 rfl ?_
    refine r_icmp_gt (tgt := 92) C dX6_odds_85 (by decide) h (fun h => ?_) (fun h => ?_)
    · refine r_iconst (v := 0) C dX6_odds_92 (by decide) ?_
      exact r_le (lv' := [some (.ref (a 0)), some (.int p1), some (.int p2), some (.int x13), none, some (.int v5), some (.int v6)]) ⟨rfl, rfl, rfl, rfl, rfl, rfl, trivial⟩ (tB_X6_odds_93 C (K42 := K42) (K57 := K57) hK42 hK57 x13 v5 v6 (0 : Int32) v4 σ h)
    · refine r_iconst (v := 1) C dX6_odds_88 (by decide) ?_
      refine r_goto (tgt := 93) C dX6_odds_89 (by decide) ?_
      exact r_le (lv' := [some (.ref (a 0)), some (.int p1), some (.int p2), some (.int x13), none, some (.int v5), some (.int v6)]) ⟨rfl, rfl, rfl, rfl, rfl, rfl, trivial⟩ (tB_X6_odds_93 C (K42 := K42) (K57 := K57) hK42 hK57 x13 v5 v6 (1 : Int32) v4 σ h)
set_option maxRecDepth 20000 in
theorem tL_X6_odds_57 {p : Program} {l : Launch} {e : Env} {s : State} {m : MethodId} {args : Array Value} {below : List Frame} {meth : Method} {c : Code} {D : va_G} {a : Nat → Nat} {cI cO cA : ClassId} {o : Int64 × zSt} (C : zC p s m args meth c D (ztys cI cO cA) 21 a cX6_odds 7 RX6 (some .long)) {p1 : Int32} {p2 : Int32} {K42 : (Int32 → Int32 → Int32 → zSt → Option (Int64 × zSt))} (hK42 : ∀ (v3 : Int32) (v4 : Int32) (v5 : Int32) (σ : zSt), K42 v3 v4 v5 σ = some o → zV p l e rm_X6_odds s m args below meth c D 21 a (fM a cI) 7 (zQl below args s D 21 a (fM a cI) o) σ 42 [some (.ref (a 0)), some (.int p1), some (.int p2), some (.int v3), some (.int v4), some (.int v5), none] []) (v3 : Int32) (v4 : Int32) (v5 : Int32) (v6 : Int32) (σ : zSt) (h : L_X6_odds_57 p1 p2 K42 v3 v4 v5 v6 σ = some o) : zV p l e rm_X6_odds s m args below meth c D 21 a (fM a cI) 7 (zQl below args s D 21 a (fM a cI) o) σ 57 [some (.ref (a 0)), some (.int p1), some (.int p2), some (.int v3), some (.int v4), some (.int v5), some (.int v6)] [] := by
  unfold L_X6_odds_57 at h
  refine zloop_ind (G := fun x => zV p l e rm_X6_odds s m args below meth c D 21 a (fM a cI) 7 (zQl below args s D 21 a (fM a cI) o) x.2.2.2.2 57 [some (.ref (a 0)), some (.int p1), some (.int p2), some (.int x.1), some (.int x.2.1), some (.int x.2.2.1), some (.int x.2.2.2.1)] []) ?_ zFU _ h
  intro rec hr x h
  exact tB_X6_odds_57 C  hK42 (fun v3 v4 v5 v6 σ => hr (v3, v4, v5, v6, σ)) _ _ _ _ _ h
set_option maxRecDepth 20000 in
theorem tB_X6_odds_42 {p : Program} {l : Launch} {e : Env} {s : State} {m : MethodId} {args : Array Value} {below : List Frame} {meth : Method} {c : Code} {D : va_G} {a : Nat → Nat} {cI cO cA : ClassId} {o : Int64 × zSt} (C : zC p s m args meth c D (ztys cI cO cA) 21 a cX6_odds 7 RX6 (some .long)) {p1 : Int32} {p2 : Int32} {K42 : (Int32 → Int32 → Int32 → zSt → Option (Int64 × zSt))} (hK42 : ∀ (v3 : Int32) (v4 : Int32) (v5 : Int32) (σ : zSt), K42 v3 v4 v5 σ = some o → zV p l e rm_X6_odds s m args below meth c D 21 a (fM a cI) 7 (zQl below args s D 21 a (fM a cI) o) σ 42 [some (.ref (a 0)), some (.int p1), some (.int p2), some (.int v3), some (.int v4), some (.int v5), none] []) (v3 : Int32) (v4 : Int32) (v5 : Int32) (σ : zSt) (h : B_X6_odds_42 p1 p2 K42 v3 v4 v5 σ = some o) : zV p l e rm_X6_odds s m args below meth c D 21 a (fM a cI) 7 (zQl below args s D 21 a (fM a cI) o) σ 42 [some (.ref (a 0)), some (.int p1), some (.int p2), some (.int v3), some (.int v4), some (.int v5), none] [] := by
  unfold B_X6_odds_42 at h
  refine r_iload (x := v5) C dX6_odds_42 rfl ?_
  refine r_aload_n (x := (a 0)) C dX6_odds_44 rfl ?_
  refine gf_X6_80 C dX6_odds_45 h (fun x7 h => ?_)
  refine r_icmp_ge (tgt := 108) C dX6_odds_48 (by decide) h (fun h => ?_) (fun h => ?_)
  · refine r_iload (x := v4) C dX6_odds_108 rfl ?_
    refine r_i2l C dX6_odds_110 ?_
    refine r_iload_n (x := v3) C dX6_odds_111 rfl ?_
    refine r_i2l C dX6_odds_112 ?_
    refine r_iload_n (x := p2) C dX6_odds_113 rfl ?_
    refine r_callSl C [.long (v4).toInt64, .long (v3).toInt64, .int p2] [] zc_X6_204 zB_X6_inLeastTerms ⟨rfl, rfl, by decide, by decide⟩ (fun out h => c_X6_inLeastTerms C.2.2.2.2.2.2.2.1  h) rfl rfl (Nat.le_of_ble_eq_true rfl) dX6_odds_114 h (fun x9 σ8 h => ?_)
    exact r_lret C dX6_odds_117 h
  · refine r_iload (x := v5) C dX6_odds_51 rfl ?_
    refine r_iconst (v := 1) C dX6_odds_53 (by decide) ?_
    refine r_iadd C dX6_odds_54 ?_
    refine r_nm h (fun x10 h => ?_)
    refine r_istore (lv' := [some (.ref (a 0)), some (.int p1), some (.int p2), some (.int v3), some (.int v4), some (.int v5), some (.int x10)]) C dX6_odds_55 (by decide) rfl rfl ?_
    exact r_le (lv' := [some (.ref (a 0)), some (.int p1), some (.int p2), some (.int v3), some (.int v4), some (.int v5), some (.int x10)]) ⟨rfl, rfl, rfl, rfl, rfl, rfl, rfl, trivial⟩ (tL_X6_odds_57 C (K42 := K42) hK42 v3 v4 v5 x10 σ h)
set_option maxRecDepth 20000 in
theorem tL_X6_odds_42 {p : Program} {l : Launch} {e : Env} {s : State} {m : MethodId} {args : Array Value} {below : List Frame} {meth : Method} {c : Code} {D : va_G} {a : Nat → Nat} {cI cO cA : ClassId} {o : Int64 × zSt} (C : zC p s m args meth c D (ztys cI cO cA) 21 a cX6_odds 7 RX6 (some .long)) {p1 : Int32} {p2 : Int32}  (v3 : Int32) (v4 : Int32) (v5 : Int32) (σ : zSt) (h : L_X6_odds_42 p1 p2  v3 v4 v5 σ = some o) : zV p l e rm_X6_odds s m args below meth c D 21 a (fM a cI) 7 (zQl below args s D 21 a (fM a cI) o) σ 42 [some (.ref (a 0)), some (.int p1), some (.int p2), some (.int v3), some (.int v4), some (.int v5), none] [] := by
  unfold L_X6_odds_42 at h
  refine zloop_ind (G := fun x => zV p l e rm_X6_odds s m args below meth c D 21 a (fM a cI) 7 (zQl below args s D 21 a (fM a cI) o) x.2.2.2 42 [some (.ref (a 0)), some (.int p1), some (.int p2), some (.int x.1), some (.int x.2.1), some (.int x.2.2.1), none] []) ?_ zFU _ h
  intro rec hr x h
  exact tB_X6_odds_42 C   (fun v3 v4 v5 σ => hr (v3, v4, v5, σ)) _ _ _ _ h
set_option maxRecDepth 20000 in
theorem c_X6_odds {l : Launch} {D : va_G} {a : Nat → Nat} {cI cO cA : ClassId} (hinj : ∀ i j, i < 21 → j < 21 → a i = a j → i = j) {p1 : Int32} {p2 : Int32} {σ : zSt} {o : Int64 × zSt} (h : M_X6_odds p1 p2 σ = some o) : zMl l D (ztys cI cO cA) 21 a (fM a cI) yX6_odds cX6_odds 7 (some .long) rm_X6_odds [.ref (a 0), .int p1, .int p2] σ o := by
  unfold M_X6_odds at h
  refine zmetl (own := RX6) [some (.ref (a 0)), some (.int p1), some (.int p2), none, none, none, none] (by decide) rfl hinj (Nat.le_of_ble_eq_true rfl) rfl (fun p e s m args below meth c C => ?_)
  refine r_iload_n (x := p1) C dX6_odds_0 rfl ?_
  refine r_iconst (v := 0) C dX6_odds_1 (by decide) ?_
  refine r_bipush (v := 7) C dX6_odds_2 (by decide) ?_
  refine r_callSi C [.int p1, .int (0 : Int32), .int (7 : Int32)] [] zc_X6_76 zB_X6_within ⟨rfl, rfl, by decide, by decide⟩ (fun out h => c_X6_within C.2.2.2.2.2.2.2.1  h) rfl rfl (Nat.le_of_ble_eq_true rfl) dX6_odds_4 h (fun x2 σ1 h => ?_)
  refine r_if_eq (tgt := 26) C dX6_odds_7 (by decide) h (fun h => ?_) (fun h => ?_)
  · refine r_ldc2 C zw328 dX6_odds_26 ?_
    exact r_lret C dX6_odds_29 h
  · refine r_iload_n (x := p2) C dX6_odds_10 rfl ?_
    refine r_iconst (v := 0) C dX6_odds_11 (by decide) ?_
    refine r_iconst (v := 1) C dX6_odds_12 (by decide) ?_
    refine r_callSi C [.int p2, .int (0 : Int32), .int (1 : Int32)] [] zc_X6_76 zB_X6_within ⟨rfl, rfl, by decide, by decide⟩ (fun out h => c_X6_within C.2.2.2.2.2.2.2.1  h) rfl rfl (Nat.le_of_ble_eq_true rfl) dX6_odds_13 h (fun x4 σ3 h => ?_)
    refine r_if_eq (tgt := 26) C dX6_odds_16 (by decide) h (fun h => ?_) (fun h => ?_)
    · refine r_ldc2 C zw328 dX6_odds_26 ?_
      exact r_lret C dX6_odds_29 h
    · refine r_aload_n (x := (a 0)) C dX6_odds_19 rfl ?_
      refine gf_X6_80 C dX6_odds_20 h (fun x5 h => ?_)
      refine r_if_ne (tgt := 30) C dX6_odds_23 (by decide) h (fun h => ?_) (fun h => ?_)
      · refine r_aload_n (x := (a 0)) C dX6_odds_30 rfl ?_
        refine r_callVv C [] [] (b := 0) (by decide) fM_0 rfl rfl zc_X6_146 zB_X6_findFars ⟨rfl, rfl, by decide, by decide⟩ (fun out h => c_X6_findFars C.2.2.2.2.2.2.2.1  h) rfl rfl (Nat.le_of_ble_eq_true rfl) dX6_odds_31 h (fun σ6 h => ?_)
        refine r_iconst (v := 0) C dX6_odds_34 (by decide) ?_
        refine r_istore_n (lv' := [some (.ref (a 0)), some (.int p1), some (.int p2), some (.int (0 : Int32)), none, none, none]) C dX6_odds_35 (by decide) rfl rfl ?_
        refine r_iconst (v := 0) C dX6_odds_36 (by decide) ?_
        refine r_istore (lv' := [some (.ref (a 0)), some (.int p1), some (.int p2), some (.int (0 : Int32)), some (.int (0 : Int32)), none, none]) C dX6_odds_37 (by decide) rfl rfl ?_
        refine r_iconst (v := 0) C dX6_odds_39 (by decide) ?_
        refine r_istore (lv' := [some (.ref (a 0)), some (.int p1), some (.int p2), some (.int (0 : Int32)), some (.int (0 : Int32)), some (.int (0 : Int32)), none]) C dX6_odds_40 (by decide) rfl rfl ?_
        exact r_le (lv' := [some (.ref (a 0)), some (.int p1), some (.int p2), some (.int (0 : Int32)), some (.int (0 : Int32)), some (.int (0 : Int32)), none]) ⟨rfl, rfl, rfl, rfl, rfl, rfl, trivial⟩ (tL_X6_odds_42 C (0 : Int32) (0 : Int32) (0 : Int32) σ6 h)
      · refine r_ldc2 C zw328 dX6_odds_26 ?_
        exact r_lret C dX6_odds_29 h
/-! VineRowsModel.sheet -/
abbrev rm_X6_sheet : Room := { frames := 2, cells := 0, slots := 0, locals := 42 }
def B_X6_sheet_57 (p1 : Int32) (p2 : Int32) (p3 : Int32) (K57 : (Int32 → zSt → Option (Int32 × zSt))) (v4 : Int32) (σ : zSt) : Option (Int32 × zSt) := (if (60 : Int32) ≤ v4 then some ((1 : Int32), σ) else zgs σ 3 (((60 : Int32) * p1) + v4) 240 (0 : Int32) (fun σ10 => znm (v4 + (1 : Int32)) (fun x11 => K57 x11 σ10)))
def L_X6_sheet_57 (p1 : Int32) (p2 : Int32) (p3 : Int32) (v4 : Int32) (σ : zSt) : Option (Int32 × zSt) := zloop (fun (rec : Int32 × zSt → Option (Int32 × zSt)) x => B_X6_sheet_57 p1 p2 p3  (fun v4 σ => rec (v4, σ)) x.1 x.2) zFU (v4, σ)
def M_X6_sheet (p1 : Int32) (p2 : Int32) (p3 : Int32) (σ : zSt) : Option (Int32 × zSt) := znm (zsu σ 0 (upd (σ 0) 0 (0 : Int32))) (fun σ1 => zbd (M_X6_isSheet p1 σ1) (fun x3 σ2 => (if x3 = 0 then some ((-1 : Int32), σ2) else zbd (M_X6_isSort p2 σ2) (fun x5 σ4 => (if x5 = 0 then some ((-2 : Int32), σ4) else (if p3 ≤ (60 : Int32) then (if 0 ≤ p3 then zgs σ4 1 p1 4 p2 (fun σ6 => zgs σ6 2 p1 4 p3 (fun σ7 => L_X6_sheet_57 p1 p2 p3 (0 : Int32) σ7)) else zbd (M_X6_fails (4 : Int32) σ4) (fun x9 σ8 => some (x9, σ8))) else some ((-2 : Int32), σ4)))))))
set_option maxRecDepth 20000 in
theorem tB_X6_sheet_57 {p : Program} {l : Launch} {e : Env} {s : State} {m : MethodId} {args : Array Value} {below : List Frame} {meth : Method} {c : Code} {D : va_G} {a : Nat → Nat} {cI cO cA : ClassId} {o : Int32 × zSt} (C : zC p s m args meth c D (ztys cI cO cA) 21 a cX6_sheet 5 RX6 (some .int)) {p1 : Int32} {p2 : Int32} {p3 : Int32} {K57 : (Int32 → zSt → Option (Int32 × zSt))} (hK57 : ∀ (v4 : Int32) (σ : zSt), K57 v4 σ = some o → zV p l e rm_X6_sheet s m args below meth c D 21 a (fM a cI) 5 (zQi below args s D 21 a (fM a cI) o) σ 57 [some (.ref (a 0)), some (.int p1), none, none, some (.int v4)] []) (v4 : Int32) (σ : zSt) (h : B_X6_sheet_57 p1 p2 p3 K57 v4 σ = some o) : zV p l e rm_X6_sheet s m args below meth c D 21 a (fM a cI) 5 (zQi below args s D 21 a (fM a cI) o) σ 57 [some (.ref (a 0)), some (.int p1), none, none, some (.int v4)] [] := by
  unfold B_X6_sheet_57 at h
  refine r_iload (x := v4) C dX6_sheet_57 rfl ?_
  refine r_bipush (v := 60) C dX6_sheet_59 (by decide) ?_
  refine r_icmp_ge (tgt := 83) C dX6_sheet_61 (by decide) h (fun h => ?_) (fun h => ?_)
  · refine r_iconst (v := 1) C dX6_sheet_83 (by decide) ?_
    exact r_iret C dX6_sheet_84 h
  · refine r_aload_n (x := (a 0)) C dX6_sheet_64 rfl ?_
    refine gf_X6_16 C dX6_sheet_65 ?_
    refine r_bipush (v := 60) C dX6_sheet_68 (by decide) ?_
    refine r_iload_n (x := p1) C dX6_sheet_70 rfl ?_
    refine r_imul C dX6_sheet_71 ?_
    refine r_iload (x := v4) C dX6_sheet_72 rfl ?_
    refine r_iadd C dX6_sheet_74 ?_
    refine r_iconst (v := 0) C dX6_sheet_75 (by decide) ?_
    refine r_iast (t0 := 0) C 3 aM_3 rfl dX6_sheet_76 h (fun σ10 h => ?_)
    refine r_gen h (fun x11 ex11 h => ?_)
    refine r_iinc (x := v4) (v := x11) (lv' := [some (.ref (a 0)), some (.int p1), none, none, some (.int x11)]) C dX6_sheet_77 rfl (by rw [← ex11]; rfl) (by decide) rfl rfl ?_
    clear ex11
    refine r_goto (tgt := 57) C dX6_sheet_80 (by decide) ?_
    exact r_le (lv' := [some (.ref (a 0)), some (.int p1), none, none, some (.int x11)]) ⟨rfl, rfl, rfl, trivial⟩ (hK57 x11 σ10 h)
set_option maxRecDepth 20000 in
theorem tL_X6_sheet_57 {p : Program} {l : Launch} {e : Env} {s : State} {m : MethodId} {args : Array Value} {below : List Frame} {meth : Method} {c : Code} {D : va_G} {a : Nat → Nat} {cI cO cA : ClassId} {o : Int32 × zSt} (C : zC p s m args meth c D (ztys cI cO cA) 21 a cX6_sheet 5 RX6 (some .int)) {p1 : Int32} {p2 : Int32} {p3 : Int32}  (v4 : Int32) (σ : zSt) (h : L_X6_sheet_57 p1 p2 p3  v4 σ = some o) : zV p l e rm_X6_sheet s m args below meth c D 21 a (fM a cI) 5 (zQi below args s D 21 a (fM a cI) o) σ 57 [some (.ref (a 0)), some (.int p1), none, none, some (.int v4)] [] := by
  unfold L_X6_sheet_57 at h
  refine zloop_ind (G := fun x => zV p l e rm_X6_sheet s m args below meth c D 21 a (fM a cI) 5 (zQi below args s D 21 a (fM a cI) o) x.2 57 [some (.ref (a 0)), some (.int p1), none, none, some (.int x.1)] []) ?_ zFU _ h
  intro rec hr x h
  exact tB_X6_sheet_57 C   (fun v4 σ => hr (v4, σ)) _ _ h
set_option maxRecDepth 20000 in
theorem c_X6_sheet {l : Launch} {D : va_G} {a : Nat → Nat} {cI cO cA : ClassId} (hinj : ∀ i j, i < 21 → j < 21 → a i = a j → i = j) {p1 : Int32} {p2 : Int32} {p3 : Int32} {σ : zSt} {o : Int32 × zSt} (h : M_X6_sheet p1 p2 p3 σ = some o) : zMi l D (ztys cI cO cA) 21 a (fM a cI) yX6_sheet cX6_sheet 5 (some .int) rm_X6_sheet [.ref (a 0), .int p1, .int p2, .int p3] σ o := by
  unfold M_X6_sheet at h
  refine zmeti (own := RX6) [some (.ref (a 0)), some (.int p1), some (.int p2), some (.int p3), none] (by decide) rfl hinj (Nat.le_of_ble_eq_true rfl) rfl (fun p e s m args below meth c C => ?_)
  refine r_aload_n (x := (a 0)) C dX6_sheet_0 rfl ?_
  refine r_iconst (v := 0) C dX6_sheet_1 (by decide) ?_
  refine pf_X6_70 C dX6_sheet_2 h (fun σ1 h => ?_)
  refine r_iload_n (x := p1) C dX6_sheet_5 rfl ?_
  refine r_callSi C [.int p1] [] zc_X6_94 zB_X6_isSheet ⟨rfl, rfl, by decide, by decide⟩ (fun out h => c_X6_isSheet C.2.2.2.2.2.2.2.1  h) rfl rfl (Nat.le_of_ble_eq_true rfl) dX6_sheet_6 h (fun x3 σ2 h => ?_)
  refine r_if_ne (tgt := 14) C dX6_sheet_9 (by decide) h (fun h => ?_) (fun h => ?_)
  · refine r_iload_n (x := p2) C dX6_sheet_14 rfl ?_
    refine r_callSi C [.int p2] [] zc_X6_97 zB_X6_isSort ⟨rfl, rfl, by decide, by decide⟩ (fun out h => c_X6_isSort C.2.2.2.2.2.2.2.1  h) rfl rfl (Nat.le_of_ble_eq_true rfl) dX6_sheet_15 h (fun x5 σ4 h => ?_)
    refine r_if_eq (tgt := 27) C dX6_sheet_18 (by decide) h (fun h => ?_) (fun h => ?_)
    · refine r_bipush (v := -2) C dX6_sheet_27 (by decide) ?_
      exact r_iret C dX6_sheet_29 h
    · refine r_iload_n (x := p3) C dX6_sheet_21 rfl ?_
      refine r_bipush (v := 60) C dX6_sheet_22 (by decide) ?_
      refine r_icmp_le (tgt := 30) C dX6_sheet_24 (by decide) h (fun h => ?_) (fun h => ?_)
      · refine r_iload_n (x := p3) C dX6_sheet_30 rfl ?_
        refine r_if_ge (tgt := 40) C dX6_sheet_31 (by decide) h (fun h => ?_) (fun h => ?_)
        · refine r_aload_n (x := (a 0)) C dX6_sheet_40 rfl ?_
          refine gf_X6_9 C dX6_sheet_41 ?_
          refine r_iload_n (x := p1) C dX6_sheet_44 rfl ?_
          refine r_iload_n (x := p2) C dX6_sheet_45 rfl ?_
          refine r_iast (t0 := 0) C 1 aM_1 rfl dX6_sheet_46 h (fun σ6 h => ?_)
          refine r_aload_n (x := (a 0)) C dX6_sheet_47 rfl ?_
          refine gf_X6_13 C dX6_sheet_48 ?_
          refine r_iload_n (x := p1) C dX6_sheet_51 rfl ?_
          refine r_iload_n (x := p3) C dX6_sheet_52 rfl ?_
          refine r_iast (t0 := 0) C 2 aM_2 rfl dX6_sheet_53 h (fun σ7 h => ?_)
          refine r_iconst (v := 0) C dX6_sheet_54 (by decide) ?_
          refine r_istore (lv' := [some (.ref (a 0)), some (.int p1), some (.int p2), some (.int p3), some (.int (0 : Int32))]) C dX6_sheet_55 (by decide) rfl rfl ?_
          exact r_le (lv' := [some (.ref (a 0)), some (.int p1), none, none, some (.int (0 : Int32))]) ⟨rfl, rfl, rfl, trivial⟩ (tL_X6_sheet_57 C (0 : Int32) σ7 h)
        · refine r_aload_n (x := (a 0)) C dX6_sheet_34 rfl ?_
          refine r_iconst (v := 4) C dX6_sheet_35 (by decide) ?_
          refine r_callVi C [.int (4 : Int32)] [] (b := 0) (by decide) fM_0 rfl rfl zc_X6_104 zB_X6_fails ⟨rfl, rfl, by decide, by decide⟩ (fun out h => c_X6_fails C.2.2.2.2.2.2.2.1  h) rfl rfl (Nat.le_of_ble_eq_true rfl) dX6_sheet_36 h (fun x9 σ8 h => ?_)
          exact r_iret C dX6_sheet_39 h
      · refine r_bipush (v := -2) C dX6_sheet_27 (by decide) ?_
        exact r_iret C dX6_sheet_29 h
  · refine r_iconst (v := -1) C dX6_sheet_12 (by decide) ?_
    exact r_iret C dX6_sheet_13 h
/-! VineRowsModel.lose -/
abbrev rm_X6_lose : Room := { frames := 2, cells := 0, slots := 0, locals := 42 }
def B_X6_lose_25 (p1 : Int32) (s0 : Int32) (σ : zSt) : Option (Int32 × zSt) := zgs σ 1 p1 4 (-9 : Int32) (fun σ4 => some (s0, σ4))
def M_X6_lose (p1 : Int32) (σ : zSt) : Option (Int32 × zSt) := zbd (M_X6_isSheet p1 σ) (fun x2 σ1 => (if x2 = 0 then some ((-1 : Int32), σ1) else zga (σ1 1) p1 4 (fun x3 => (if x3 = (-9 : Int32) then B_X6_lose_25 p1 (0 : Int32) σ1 else B_X6_lose_25 p1 (1 : Int32) σ1))))
set_option maxRecDepth 20000 in
theorem tB_X6_lose_25 {p : Program} {l : Launch} {e : Env} {s : State} {m : MethodId} {args : Array Value} {below : List Frame} {meth : Method} {c : Code} {D : va_G} {a : Nat → Nat} {cI cO cA : ClassId} {o : Int32 × zSt} (C : zC p s m args meth c D (ztys cI cO cA) 21 a cX6_lose 3 RX6 (some .int)) {p1 : Int32}  (s0 : Int32) (σ : zSt) (h : B_X6_lose_25 p1  s0 σ = some o) : zV p l e rm_X6_lose s m args below meth c D 21 a (fM a cI) 3 (zQi below args s D 21 a (fM a cI) o) σ 25 [some (.ref (a 0)), some (.int p1), none] [.int s0] := by
  unfold B_X6_lose_25 at h
  refine r_istore_n (lv' := [some (.ref (a 0)), some (.int p1), some (.int s0)]) C dX6_lose_25 (by decide) rfl rfl ?_
  refine r_aload_n (x := (a 0)) C dX6_lose_26 rfl ?_
  refine gf_X6_9 C dX6_lose_27 ?_
  refine r_iload_n (x := p1) C dX6_lose_30 rfl ?_
  refine r_bipush (v := -9) C dX6_lose_31 (by decide) ?_
  refine r_iast (t0 := 0) C 1 aM_1 rfl dX6_lose_33 h (fun σ4 h => ?_)
  refine r_iload_n (x := s0) C dX6_lose_34 rfl ?_
  exact r_iret C dX6_lose_35 h
set_option maxRecDepth 20000 in
theorem c_X6_lose {l : Launch} {D : va_G} {a : Nat → Nat} {cI cO cA : ClassId} (hinj : ∀ i j, i < 21 → j < 21 → a i = a j → i = j) {p1 : Int32} {σ : zSt} {o : Int32 × zSt} (h : M_X6_lose p1 σ = some o) : zMi l D (ztys cI cO cA) 21 a (fM a cI) yX6_lose cX6_lose 3 (some .int) rm_X6_lose [.ref (a 0), .int p1] σ o := by
  unfold M_X6_lose at h
  refine zmeti (own := RX6) [some (.ref (a 0)), some (.int p1), none] (by decide) rfl hinj (Nat.le_of_ble_eq_true rfl) rfl (fun p e s m args below meth c C => ?_)
  refine r_iload_n (x := p1) C dX6_lose_0 rfl ?_
  refine r_callSi C [.int p1] [] zc_X6_94 zB_X6_isSheet ⟨rfl, rfl, by decide, by decide⟩ (fun out h => c_X6_isSheet C.2.2.2.2.2.2.2.1  h) rfl rfl (Nat.le_of_ble_eq_true rfl) dX6_lose_1 h (fun x2 σ1 h => ?_)
  refine r_if_ne (tgt := 9) C dX6_lose_4 (by decide) h (fun h => ?_) (fun h => ?_)
  · refine r_aload_n (x := (a 0)) C dX6_lose_9 rfl ?_
    refine gf_X6_9 C dX6_lose_10 ?_
    refine r_iload_n (x := p1) C dX6_lose_13 rfl ?_
    refine r_iald (t0 := 0) C 1 aM_1 rfl dX6_lose_14 h (fun x3 h => ?_)
    refine r_bipush (v := -9) C dX6_lose_15 (by decide) ?_
    refine r_icmp_ne (tgt := 24) C dX6_lose_17 (by decide) h (fun h => ?_) (fun h => ?_)
    · refine r_iconst (v := 1) C dX6_lose_24 (by decide) ?_
      exact r_le (lv' := [some (.ref (a 0)), some (.int p1), none]) ⟨rfl, rfl, trivial⟩ (tB_X6_lose_25 C (1 : Int32) σ1 h)
    · refine r_iconst (v := 0) C dX6_lose_20 (by decide) ?_
      refine r_goto (tgt := 25) C dX6_lose_21 (by decide) ?_
      exact r_le (lv' := [some (.ref (a 0)), some (.int p1), none]) ⟨rfl, rfl, trivial⟩ (tB_X6_lose_25 C (0 : Int32) σ1 h)
  · refine r_iconst (v := -1) C dX6_lose_7 (by decide) ?_
    exact r_iret C dX6_lose_8 h
/-! VineRowsModel.put -/
abbrev rm_X6_put : Room := { frames := 2, cells := 0, slots := 0, locals := 42 }
def B_X6_put_93 (p1 : Int32) (p2 : Int32) (p3 : Int32) (s0 : Int32) (s1 : Int32) (σ : zSt) : Option (Int32 × zSt) := zgs σ 3 s1 240 s0 (fun σ14 => some ((1 : Int32), σ14))
def M_X6_put (p1 : Int32) (p2 : Int32) (p3 : Int32) (σ : zSt) : Option (Int32 × zSt) := znm (zsu σ 0 (upd (σ 0) 0 (0 : Int32))) (fun σ1 => zbd (M_X6_isSheet p1 σ1) (fun x3 σ2 => (if x3 = 0 then some ((-1 : Int32), σ2) else zga (σ2 1) p1 4 (fun x4 => (if x4 = (-9 : Int32) then zbd (M_X6_fails (1 : Int32) σ2) (fun x13 σ12 => some (x13, σ12)) else zga (σ2 2) p1 4 (fun x5 => zbd (M_X6_within p2 (0 : Int32) (x5 - (1 : Int32)) σ2) (fun x7 σ6 => (if x7 = 0 then zbd (M_X6_fails (3 : Int32) σ6) (fun x11 σ10 => some (x11, σ10)) else zga (σ6 1) p1 4 (fun x8 => (if x8 = 0 then B_X6_put_93 p1 p2 p3 (p3).toInt8.toInt32 (((60 : Int32) * p1) + p2) σ6 else zga (σ6 1) p1 4 (fun x9 => (if x9 = (1 : Int32) then B_X6_put_93 p1 p2 p3 (p3).toInt16.toInt32 (((60 : Int32) * p1) + p2) σ6 else B_X6_put_93 p1 p2 p3 p3 (((60 : Int32) * p1) + p2) σ6))))))))))))
set_option maxRecDepth 20000 in
theorem tB_X6_put_93 {p : Program} {l : Launch} {e : Env} {s : State} {m : MethodId} {args : Array Value} {below : List Frame} {meth : Method} {c : Code} {D : va_G} {a : Nat → Nat} {cI cO cA : ClassId} {o : Int32 × zSt} (C : zC p s m args meth c D (ztys cI cO cA) 21 a cX6_put 4 RX6 (some .int)) {p1 : Int32} {p2 : Int32} {p3 : Int32}  (s0 : Int32) (s1 : Int32) (σ : zSt) (h : B_X6_put_93 p1 p2 p3  s0 s1 σ = some o) : zV p l e rm_X6_put s m args below meth c D 21 a (fM a cI) 4 (zQi below args s D 21 a (fM a cI) o) σ 93 [none, none, none, none] [.int s0, .int s1, .ref (a 3)] := by
  unfold B_X6_put_93 at h
  refine r_iast (t0 := 0) C 3 aM_3 rfl dX6_put_93 h (fun σ14 h => ?_)
  refine r_iconst (v := 1) C dX6_put_94 (by decide) ?_
  exact r_iret C dX6_put_95 h
set_option maxRecDepth 20000 in
theorem c_X6_put {l : Launch} {D : va_G} {a : Nat → Nat} {cI cO cA : ClassId} (hinj : ∀ i j, i < 21 → j < 21 → a i = a j → i = j) {p1 : Int32} {p2 : Int32} {p3 : Int32} {σ : zSt} {o : Int32 × zSt} (h : M_X6_put p1 p2 p3 σ = some o) : zMi l D (ztys cI cO cA) 21 a (fM a cI) yX6_put cX6_put 4 (some .int) rm_X6_put [.ref (a 0), .int p1, .int p2, .int p3] σ o := by
  unfold M_X6_put at h
  refine zmeti (own := RX6) [some (.ref (a 0)), some (.int p1), some (.int p2), some (.int p3)] (by decide) rfl hinj (Nat.le_of_ble_eq_true rfl) rfl (fun p e s m args below meth c C => ?_)
  refine r_aload_n (x := (a 0)) C dX6_put_0 rfl ?_
  refine r_iconst (v := 0) C dX6_put_1 (by decide) ?_
  refine pf_X6_70 C dX6_put_2 h (fun σ1 h => ?_)
  refine r_iload_n (x := p1) C dX6_put_5 rfl ?_
  refine r_callSi C [.int p1] [] zc_X6_94 zB_X6_isSheet ⟨rfl, rfl, by decide, by decide⟩ (fun out h => c_X6_isSheet C.2.2.2.2.2.2.2.1  h) rfl rfl (Nat.le_of_ble_eq_true rfl) dX6_put_6 h (fun x3 σ2 h => ?_)
  refine r_if_ne (tgt := 14) C dX6_put_9 (by decide) h (fun h => ?_) (fun h => ?_)
  · refine r_aload_n (x := (a 0)) C dX6_put_14 rfl ?_
    refine gf_X6_9 C dX6_put_15 ?_
    refine r_iload_n (x := p1) C dX6_put_18 rfl ?_
    refine r_iald (t0 := 0) C 1 aM_1 rfl dX6_put_19 h (fun x4 h => ?_)
    refine r_bipush (v := -9) C dX6_put_20 (by decide) ?_
    refine r_icmp_ne (tgt := 31) C dX6_put_22 (by decide) h (fun h => ?_) (fun h => ?_)
    · refine r_iload_n (x := p2) C dX6_put_31 rfl ?_
      refine r_iconst (v := 0) C dX6_put_32 (by decide) ?_
      refine r_aload_n (x := (a 0)) C dX6_put_33 rfl ?_
      refine gf_X6_13 C dX6_put_34 ?_
      refine r_iload_n (x := p1) C dX6_put_37 rfl ?_
      refine r_iald (t0 := 0) C 2 aM_2 rfl dX6_put_38 h (fun x5 h => ?_)
      refine r_iconst (v := 1) C dX6_put_39 (by decide) ?_
      refine r_isub C dX6_put_40 ?_
      refine r_callSi C [.int p2, .int (0 : Int32), .int (x5 - (1 : Int32))] [] zc_X6_76 zB_X6_within ⟨rfl, rfl, by decide, by decide⟩ (fun out h => c_X6_within C.2.2.2.2.2.2.2.1  h) rfl rfl (Nat.le_of_ble_eq_true rfl) dX6_put_41 h (fun x7 σ6 h => ?_)
      refine r_if_ne (tgt := 53) C dX6_put_44 (by decide) h (fun h => ?_) (fun h => ?_)
      · refine r_aload_n (x := (a 0)) C dX6_put_53 rfl ?_
        refine gf_X6_16 C dX6_put_54 ?_
        refine r_bipush (v := 60) C dX6_put_57 (by decide) ?_
        refine r_iload_n (x := p1) C dX6_put_59 rfl ?_
        refine r_imul C dX6_put_60 ?_
        refine r_iload_n (x := p2) C dX6_put_61 rfl ?_
        refine r_iadd C dX6_put_62 ?_
        refine r_aload_n (x := (a 0)) C dX6_put_63 rfl ?_
        refine gf_X6_9 C dX6_put_64 ?_
        refine r_iload_n (x := p1) C dX6_put_67 rfl ?_
        refine r_iald (t0 := 0) C 1 aM_1 rfl dX6_put_68 h (fun x8 h => ?_)
        refine r_if_ne (tgt := 77) C dX6_put_69 (by decide) h (fun h => ?_) (fun h => ?_)
        · refine r_aload_n (x := (a 0)) C dX6_put_77 rfl ?_
          refine gf_X6_9 C dX6_put_78 ?_
          refine r_iload_n (x := p1) C dX6_put_81 rfl ?_
          refine r_iald (t0 := 0) C 1 aM_1 rfl dX6_put_82 h (fun x9 h => ?_)
          refine r_iconst (v := 1) C dX6_put_83 (by decide) ?_
          refine r_icmp_ne (tgt := 92) C dX6_put_84 (by decide) h (fun h => ?_) (fun h => ?_)
          · refine r_iload_n (x := p3) C dX6_put_92 rfl ?_
            exact r_le (lv' := [none, none, none, none]) trivial (tB_X6_put_93 C p3 (((60 : Int32) * p1) + p2) σ6 h)
          · refine r_iload_n (x := p3) C dX6_put_87 rfl ?_
            refine r_i2s C dX6_put_88 ?_
            refine r_goto (tgt := 93) C dX6_put_89 (by decide) ?_
            exact r_le (lv' := [none, none, none, none]) trivial (tB_X6_put_93 C (p3).toInt16.toInt32 (((60 : Int32) * p1) + p2) σ6 h)
        · refine r_iload_n (x := p3) C dX6_put_72 rfl ?_
          refine r_i2b C dX6_put_73 ?_
          refine r_goto (tgt := 93) C dX6_put_74 (by decide) ?_
          exact r_le (lv' := [none, none, none, none]) trivial (tB_X6_put_93 C (p3).toInt8.toInt32 (((60 : Int32) * p1) + p2) σ6 h)
      · refine r_aload_n (x := (a 0)) C dX6_put_47 rfl ?_
        refine r_iconst (v := 3) C dX6_put_48 (by decide) ?_
        refine r_callVi C [.int (3 : Int32)] [] (b := 0) (by decide) fM_0 rfl rfl zc_X6_104 zB_X6_fails ⟨rfl, rfl, by decide, by decide⟩ (fun out h => c_X6_fails C.2.2.2.2.2.2.2.1  h) rfl rfl (Nat.le_of_ble_eq_true rfl) dX6_put_49 h (fun x11 σ10 h => ?_)
        exact r_iret C dX6_put_52 h
    · refine r_aload_n (x := (a 0)) C dX6_put_25 rfl ?_
      refine r_iconst (v := 1) C dX6_put_26 (by decide) ?_
      refine r_callVi C [.int (1 : Int32)] [] (b := 0) (by decide) fM_0 rfl rfl zc_X6_104 zB_X6_fails ⟨rfl, rfl, by decide, by decide⟩ (fun out h => c_X6_fails C.2.2.2.2.2.2.2.1  h) rfl rfl (Nat.le_of_ble_eq_true rfl) dX6_put_27 h (fun x13 σ12 h => ?_)
      exact r_iret C dX6_put_30 h
  · refine r_iconst (v := -1) C dX6_put_12 (by decide) ?_
    exact r_iret C dX6_put_13 h
/-! VineRowsModel.cell -/
abbrev rm_X6_cell : Room := { frames := 2, cells := 0, slots := 0, locals := 42 }
def B_X6_cell_50 (p1 : Int32) (p2 : Int32) (p3 : Int32) (σ : zSt) : Option (Int64 × zSt) := zga (σ 1) p1 4 (fun x10 => (if x10 = (-9 : Int32) then zbd (M_X6_lost (1 : Int32) σ) (fun x18 σ17 => some (x18, σ17)) else zga (σ 2) p1 4 (fun x11 => zbd (M_X6_within p2 (0 : Int32) (x11 - (1 : Int32)) σ) (fun x13 σ12 => (if x13 = 0 then zbd (M_X6_lost (3 : Int32) σ12) (fun x16 σ15 => some (x16, σ15)) else zga (σ12 3) (((60 : Int32) * p1) + p2) 240 (fun x14 => some ((x14).toInt64, σ12)))))))
def M_X6_cell (p1 : Int32) (p2 : Int32) (p3 : Int32) (σ : zSt) : Option (Int64 × zSt) := znm (zsu σ 0 (upd (σ 0) 0 (0 : Int32))) (fun σ1 => zbd (M_X6_isSheet p1 σ1) (fun x3 σ2 => (if x3 = 0 then some ((-9223372036854775808 : Int64), σ2) else zbd (M_X6_isSort p3 σ2) (fun x5 σ4 => (if x5 = 0 then some ((-9223372036854775808 : Int64), σ4) else zga (σ4 1) p1 4 (fun x6 => (if x6 = (-9 : Int32) then B_X6_cell_50 p1 p2 p3 σ4 else zga (σ4 1) p1 4 (fun x7 => (if x7 = p3 then B_X6_cell_50 p1 p2 p3 σ4 else zbd (M_X6_lost (2 : Int32) σ4) (fun x9 σ8 => some (x9, σ8)))))))))))
set_option maxRecDepth 20000 in
theorem tB_X6_cell_50 {p : Program} {l : Launch} {e : Env} {s : State} {m : MethodId} {args : Array Value} {below : List Frame} {meth : Method} {c : Code} {D : va_G} {a : Nat → Nat} {cI cO cA : ClassId} {o : Int64 × zSt} (C : zC p s m args meth c D (ztys cI cO cA) 21 a cX6_cell 4 RX6 (some .long)) {p1 : Int32} {p2 : Int32} {p3 : Int32}  (σ : zSt) (h : B_X6_cell_50 p1 p2 p3   σ = some o) : zV p l e rm_X6_cell s m args below meth c D 21 a (fM a cI) 4 (zQl below args s D 21 a (fM a cI) o) σ 50 [some (.ref (a 0)), some (.int p1), some (.int p2), none] [] := by
  unfold B_X6_cell_50 at h
  refine r_aload_n (x := (a 0)) C dX6_cell_50 rfl ?_
  refine gf_X6_9 C dX6_cell_51 ?_
  refine r_iload_n (x := p1) C dX6_cell_54 rfl ?_
  refine r_iald (t0 := 0) C 1 aM_1 rfl dX6_cell_55 h (fun x10 h => ?_)
  refine r_bipush (v := -9) C dX6_cell_56 (by decide) ?_
  refine r_icmp_ne (tgt := 67) C dX6_cell_58 (by decide) h (fun h => ?_) (fun h => ?_)
  · refine r_iload_n (x := p2) C dX6_cell_67 rfl ?_
    refine r_iconst (v := 0) C dX6_cell_68 (by decide) ?_
    refine r_aload_n (x := (a 0)) C dX6_cell_69 rfl ?_
    refine gf_X6_13 C dX6_cell_70 ?_
    refine r_iload_n (x := p1) C dX6_cell_73 rfl ?_
    refine r_iald (t0 := 0) C 2 aM_2 rfl dX6_cell_74 h (fun x11 h => ?_)
    refine r_iconst (v := 1) C dX6_cell_75 (by decide) ?_
    refine r_isub C dX6_cell_76 ?_
    refine r_callSi C [.int p2, .int (0 : Int32), .int (x11 - (1 : Int32))] [] zc_X6_76 zB_X6_within ⟨rfl, rfl, by decide, by decide⟩ (fun out h => c_X6_within C.2.2.2.2.2.2.2.1  h) rfl rfl (Nat.le_of_ble_eq_true rfl) dX6_cell_77 h (fun x13 σ12 h => ?_)
    refine r_if_ne (tgt := 89) C dX6_cell_80 (by decide) h (fun h => ?_) (fun h => ?_)
    · refine r_aload_n (x := (a 0)) C dX6_cell_89 rfl ?_
      refine gf_X6_16 C dX6_cell_90 ?_
      refine r_bipush (v := 60) C dX6_cell_93 (by decide) ?_
      refine r_iload_n (x := p1) C dX6_cell_95 rfl ?_
      refine r_imul C dX6_cell_96 ?_
      refine r_iload_n (x := p2) C dX6_cell_97 rfl ?_
      refine r_iadd C dX6_cell_98 ?_
      refine r_iald (t0 := 0) C 3 aM_3 rfl dX6_cell_99 h (fun x14 h => ?_)
      refine r_i2l C dX6_cell_100 ?_
      exact r_lret C dX6_cell_101 h
    · refine r_aload_n (x := (a 0)) C dX6_cell_83 rfl ?_
      refine r_iconst (v := 3) C dX6_cell_84 (by decide) ?_
      refine r_callVl C [.int (3 : Int32)] [] (b := 0) (by decide) fM_0 rfl rfl zc_X6_208 zB_X6_lost ⟨rfl, rfl, by decide, by decide⟩ (fun out h => c_X6_lost C.2.2.2.2.2.2.2.1  h) rfl rfl (Nat.le_of_ble_eq_true rfl) dX6_cell_85 h (fun x16 σ15 h => ?_)
      exact r_lret C dX6_cell_88 h
  · refine r_aload_n (x := (a 0)) C dX6_cell_61 rfl ?_
    refine r_iconst (v := 1) C dX6_cell_62 (by decide) ?_
    refine r_callVl C [.int (1 : Int32)] [] (b := 0) (by decide) fM_0 rfl rfl zc_X6_208 zB_X6_lost ⟨rfl, rfl, by decide, by decide⟩ (fun out h => c_X6_lost C.2.2.2.2.2.2.2.1  h) rfl rfl (Nat.le_of_ble_eq_true rfl) dX6_cell_63 h (fun x18 σ17 h => ?_)
    exact r_lret C dX6_cell_66 h
set_option maxRecDepth 20000 in
theorem c_X6_cell {l : Launch} {D : va_G} {a : Nat → Nat} {cI cO cA : ClassId} (hinj : ∀ i j, i < 21 → j < 21 → a i = a j → i = j) {p1 : Int32} {p2 : Int32} {p3 : Int32} {σ : zSt} {o : Int64 × zSt} (h : M_X6_cell p1 p2 p3 σ = some o) : zMl l D (ztys cI cO cA) 21 a (fM a cI) yX6_cell cX6_cell 4 (some .long) rm_X6_cell [.ref (a 0), .int p1, .int p2, .int p3] σ o := by
  unfold M_X6_cell at h
  refine zmetl (own := RX6) [some (.ref (a 0)), some (.int p1), some (.int p2), some (.int p3)] (by decide) rfl hinj (Nat.le_of_ble_eq_true rfl) rfl (fun p e s m args below meth c C => ?_)
  refine r_aload_n (x := (a 0)) C dX6_cell_0 rfl ?_
  refine r_iconst (v := 0) C dX6_cell_1 (by decide) ?_
  refine pf_X6_70 C dX6_cell_2 h (fun σ1 h => ?_)
  refine r_iload_n (x := p1) C dX6_cell_5 rfl ?_
  refine r_callSi C [.int p1] [] zc_X6_94 zB_X6_isSheet ⟨rfl, rfl, by decide, by decide⟩ (fun out h => c_X6_isSheet C.2.2.2.2.2.2.2.1  h) rfl rfl (Nat.le_of_ble_eq_true rfl) dX6_cell_6 h (fun x3 σ2 h => ?_)
  refine r_if_eq (tgt := 19) C dX6_cell_9 (by decide) h (fun h => ?_) (fun h => ?_)
  · refine r_ldc2 C zw328 dX6_cell_19 ?_
    exact r_lret C dX6_cell_22 h
  · refine r_iload_n (x := p3) C dX6_cell_12 rfl ?_
    refine r_callSi C [.int p3] [] zc_X6_97 zB_X6_isSort ⟨rfl, rfl, by decide, by decide⟩ (fun out h => c_X6_isSort C.2.2.2.2.2.2.2.1  h) rfl rfl (Nat.le_of_ble_eq_true rfl) dX6_cell_13 h (fun x5 σ4 h => ?_)
    refine r_if_ne (tgt := 23) C dX6_cell_16 (by decide) h (fun h => ?_) (fun h => ?_)
    · refine r_aload_n (x := (a 0)) C dX6_cell_23 rfl ?_
      refine gf_X6_9 C dX6_cell_24 ?_
      refine r_iload_n (x := p1) C dX6_cell_27 rfl ?_
      refine r_iald (t0 := 0) C 1 aM_1 rfl dX6_cell_28 h (fun x6 h => ?_)
      refine r_bipush (v := -9) C dX6_cell_29 (by decide) ?_
      refine r_icmp_eq (tgt := 50) C dX6_cell_31 (by decide) h (fun h => ?_) (fun h => ?_)
      · exact r_le (lv' := [some (.ref (a 0)), some (.int p1), some (.int p2), none]) ⟨rfl, rfl, rfl, trivial⟩ (tB_X6_cell_50 C σ4 h)
      · refine r_aload_n (x := (a 0)) C dX6_cell_34 rfl ?_
        refine gf_X6_9 C dX6_cell_35 ?_
        refine r_iload_n (x := p1) C dX6_cell_38 rfl ?_
        refine r_iald (t0 := 0) C 1 aM_1 rfl dX6_cell_39 h (fun x7 h => ?_)
        refine r_iload_n (x := p3) C dX6_cell_40 rfl ?_
        refine r_icmp_eq (tgt := 50) C dX6_cell_41 (by decide) h (fun h => ?_) (fun h => ?_)
        · exact r_le (lv' := [some (.ref (a 0)), some (.int p1), some (.int p2), none]) ⟨rfl, rfl, rfl, trivial⟩ (tB_X6_cell_50 C σ4 h)
        · refine r_aload_n (x := (a 0)) C dX6_cell_44 rfl ?_
          refine r_iconst (v := 2) C dX6_cell_45 (by decide) ?_
          refine r_callVl C [.int (2 : Int32)] [] (b := 0) (by decide) fM_0 rfl rfl zc_X6_208 zB_X6_lost ⟨rfl, rfl, by decide, by decide⟩ (fun out h => c_X6_lost C.2.2.2.2.2.2.2.1  h) rfl rfl (Nat.le_of_ble_eq_true rfl) dX6_cell_46 h (fun x9 σ8 h => ?_)
          exact r_lret C dX6_cell_49 h
    · refine r_ldc2 C zw328 dX6_cell_19 ?_
      exact r_lret C dX6_cell_22 h
end
