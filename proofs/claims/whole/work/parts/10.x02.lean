noncomputable section
/-! VineRows$Vine.tie -/
abbrev rm_X4_tie : Room := { frames := 0, cells := 0, slots := 0, locals := 0 }
def B_X4_tie_73 (b : Nat) (p1 : Int32) (p2 : Int32) (K26 : (Int32 → zSt → Option (zSt))) (v3 : Int32) (σ : zSt) : Option (zSt) := znm (v3 + (1 : Int32)) (fun x14 => K26 x14 σ)
def B_X4_tie_26 (b : Nat) (p1 : Int32) (p2 : Int32) (K26 : (Int32 → zSt → Option (zSt))) (v3 : Int32) (σ : zSt) : Option (zSt) := znm (σ b 0) (fun x5 => (if x5 ≤ v3 then some σ else (if v3 = p1 then B_X4_tie_73 b p1 p2 K26 v3 σ else zgr p1 8 (b + 9) (fun q6 => zgr p2 8 (b + 9) (fun q7 => zga (σ q7) v3 8 (fun x8 => zgs σ q6 v3 8 (x8 + (1 : Int32)) (fun σ9 => zgr v3 8 (b + 9) (fun q10 => zgr p1 8 (b + 9) (fun q11 => zga (σ9 q11) v3 8 (fun x12 => zgs σ9 q10 p1 8 x12 (fun σ13 => B_X4_tie_73 b p1 p2 K26 v3 σ13)))))))))))
def L_X4_tie_26 (b : Nat) (p1 : Int32) (p2 : Int32) (v3 : Int32) (σ : zSt) : Option (zSt) := zloop (fun (rec : Int32 × zSt → Option (zSt)) x => B_X4_tie_26 b p1 p2  (fun v3 σ => rec (v3, σ)) x.1 x.2) zFU (v3, σ)
def M_X4_tie (b : Nat) (p1 : Int32) (p2 : Int32) (σ : zSt) : Option (zSt) := zga (σ (b + 3)) p1 8 (fun x1 => zgs σ (b + 3) p1 8 (x1 ||| (zon p2)) (fun σ2 => zga (σ2 (b + 3)) p2 8 (fun x3 => zgs σ2 (b + 3) p2 8 (x3 ||| (zon p1)) (fun σ4 => L_X4_tie_26 b p1 p2 (0 : Int32) σ4))))
set_option maxRecDepth 20000 in
theorem tB_X4_tie_73 {p : Program} {l : Launch} {e : Env} {s : State} {m : MethodId} {args : Array Value} {below : List Frame} {meth : Method} {c : Code} {D : va_G} {a : Nat → Nat} {cI cO cA : ClassId} {o : zSt} (C : zC p s m args meth c D (ztys cI cO cA) 51 a cX4_tie 4 RX4 none) {b : Nat} {p1 : Int32} {p2 : Int32} (hb : b = 10 ∨ b = 27) {K26 : (Int32 → zSt → Option (zSt))} (hK26 : ∀ (v3 : Int32) (σ : zSt), K26 v3 σ = some o → zV p l e rm_X4_tie s m args below meth c D 51 a (fX a cI cO cA) 4 (zQv below args s D 51 a (fX a cI cO cA) o) σ 26 [some (.ref (a b)), some (.int p1), some (.int p2), some (.int v3)] []) (v3 : Int32) (σ : zSt) (h : B_X4_tie_73 b p1 p2 K26 v3 σ = some o) : zV p l e rm_X4_tie s m args below meth c D 51 a (fX a cI cO cA) 4 (zQv below args s D 51 a (fX a cI cO cA) o) σ 73 [some (.ref (a b)), some (.int p1), some (.int p2), some (.int v3)] [] := by
  unfold B_X4_tie_73 at h
  refine r_gen h (fun x14 ex14 h => ?_)
  refine r_iinc (x := v3) (v := x14) (lv' := [some (.ref (a b)), some (.int p1), some (.int p2), some (.int x14)]) C dX4_tie_73 rfl (by rw [← ex14]; rfl) (by decide) rfl rfl ?_
  clear ex14
  refine r_goto (tgt := 26) C dX4_tie_76 (by decide) ?_
  exact r_le (lv' := [some (.ref (a b)), some (.int p1), some (.int p2), some (.int x14)]) ⟨rfl, rfl, rfl, rfl, trivial⟩ (hK26 x14 σ h)
set_option maxRecDepth 20000 in
theorem tB_X4_tie_26 {p : Program} {l : Launch} {e : Env} {s : State} {m : MethodId} {args : Array Value} {below : List Frame} {meth : Method} {c : Code} {D : va_G} {a : Nat → Nat} {cI cO cA : ClassId} {o : zSt} (C : zC p s m args meth c D (ztys cI cO cA) 51 a cX4_tie 4 RX4 none) {b : Nat} {p1 : Int32} {p2 : Int32} (hb : b = 10 ∨ b = 27) {K26 : (Int32 → zSt → Option (zSt))} (hK26 : ∀ (v3 : Int32) (σ : zSt), K26 v3 σ = some o → zV p l e rm_X4_tie s m args below meth c D 51 a (fX a cI cO cA) 4 (zQv below args s D 51 a (fX a cI cO cA) o) σ 26 [some (.ref (a b)), some (.int p1), some (.int p2), some (.int v3)] []) (v3 : Int32) (σ : zSt) (h : B_X4_tie_26 b p1 p2 K26 v3 σ = some o) : zV p l e rm_X4_tie s m args below meth c D 51 a (fX a cI cO cA) 4 (zQv below args s D 51 a (fX a cI cO cA) o) σ 26 [some (.ref (a b)), some (.int p1), some (.int p2), some (.int v3)] [] := by
  unfold B_X4_tie_26 at h
  refine r_iload_n (x := v3) C dX4_tie_26 rfl ?_
  refine r_aload_n (x := (a b)) C dX4_tie_27 rfl ?_
  refine gf_X4_38 C hb dX4_tie_28 h (fun x5 h => ?_)
  refine r_icmp_ge (tgt := 79) C dX4_tie_31 (by decide) h (fun h => ?_) (fun h => ?_)
  · exact r_vret C dX4_tie_79 h
  · refine r_iload_n (x := v3) C dX4_tie_34 rfl ?_
    refine r_iload_n (x := p1) C dX4_tie_35 rfl ?_
    refine r_icmp_eq (tgt := 73) C dX4_tie_36 (by decide) h (fun h => ?_) (fun h => ?_)
    · exact r_le (lv' := [some (.ref (a b)), some (.int p1), some (.int p2), some (.int v3)]) ⟨rfl, rfl, rfl, rfl, trivial⟩ (tB_X4_tie_73 C hb (K26 := K26) hK26 v3 σ h)
    · refine r_aload_n (x := (a b)) C dX4_tie_39 rfl ?_
      refine gf_X4_23 C hb dX4_tie_40 ?_
      refine r_iload_n (x := p1) C dX4_tie_43 rfl ?_
      refine r_aald (t0 := 2) C (b + 4) (aX_away hb) rfl rfl dX4_tie_44 h (fun q6 hq6 lq6 h => ?_)
      refine r_iload_n (x := v3) C dX4_tie_45 rfl ?_
      refine r_aload_n (x := (a b)) C dX4_tie_46 rfl ?_
      refine gf_X4_23 C hb dX4_tie_47 ?_
      refine r_iload_n (x := p2) C dX4_tie_50 rfl ?_
      refine r_aald (t0 := 2) C (b + 4) (aX_away hb) rfl rfl dX4_tie_51 h (fun q7 hq7 lq7 h => ?_)
      refine r_iload_n (x := v3) C dX4_tie_52 rfl ?_
      refine r_iald (t0 := 0) C q7 (aX_row hb hq7 lq7) rfl dX4_tie_53 h (fun x8 h => ?_)
      refine r_iconst (v := 1) C dX4_tie_54 (by decide) ?_
      refine r_iadd C dX4_tie_55 ?_
      refine r_iast (t0 := 0) C q6 (aX_row hb hq6 lq6) rfl dX4_tie_56 h (fun σ9 h => ?_)
      refine r_aload_n (x := (a b)) C dX4_tie_57 rfl ?_
      refine gf_X4_23 C hb dX4_tie_58 ?_
      refine r_iload_n (x := v3) C dX4_tie_61 rfl ?_
      refine r_aald (t0 := 2) C (b + 4) (aX_away hb) rfl rfl dX4_tie_62 h (fun q10 hq10 lq10 h => ?_)
      refine r_iload_n (x := p1) C dX4_tie_63 rfl ?_
      refine r_aload_n (x := (a b)) C dX4_tie_64 rfl ?_
      refine gf_X4_23 C hb dX4_tie_65 ?_
      refine r_iload_n (x := p1) C dX4_tie_68 rfl ?_
      refine r_aald (t0 := 2) C (b + 4) (aX_away hb) rfl rfl dX4_tie_69 h (fun q11 hq11 lq11 h => ?_)
      refine r_iload_n (x := v3) C dX4_tie_70 rfl ?_
      refine r_iald (t0 := 0) C q11 (aX_row hb hq11 lq11) rfl dX4_tie_71 h (fun x12 h => ?_)
      refine r_iast (t0 := 0) C q10 (aX_row hb hq10 lq10) rfl dX4_tie_72 h (fun σ13 h => ?_)
      exact r_le (lv' := [some (.ref (a b)), some (.int p1), some (.int p2), some (.int v3)]) ⟨rfl, rfl, rfl, rfl, trivial⟩ (tB_X4_tie_73 C hb (K26 := K26) hK26 v3 σ13 h)
set_option maxRecDepth 20000 in
theorem tL_X4_tie_26 {p : Program} {l : Launch} {e : Env} {s : State} {m : MethodId} {args : Array Value} {below : List Frame} {meth : Method} {c : Code} {D : va_G} {a : Nat → Nat} {cI cO cA : ClassId} {o : zSt} (C : zC p s m args meth c D (ztys cI cO cA) 51 a cX4_tie 4 RX4 none) {b : Nat} {p1 : Int32} {p2 : Int32} (hb : b = 10 ∨ b = 27)  (v3 : Int32) (σ : zSt) (h : L_X4_tie_26 b p1 p2  v3 σ = some o) : zV p l e rm_X4_tie s m args below meth c D 51 a (fX a cI cO cA) 4 (zQv below args s D 51 a (fX a cI cO cA) o) σ 26 [some (.ref (a b)), some (.int p1), some (.int p2), some (.int v3)] [] := by
  unfold L_X4_tie_26 at h
  refine zloop_ind (G := fun x => zV p l e rm_X4_tie s m args below meth c D 51 a (fX a cI cO cA) 4 (zQv below args s D 51 a (fX a cI cO cA) o) x.2 26 [some (.ref (a b)), some (.int p1), some (.int p2), some (.int x.1)] []) ?_ zFU _ h
  intro rec hr x h
  exact tB_X4_tie_26 C hb  (fun v3 σ => hr (v3, σ)) _ _ h
set_option maxRecDepth 20000 in
theorem c_X4_tie {l : Launch} {D : va_G} {a : Nat → Nat} {cI cO cA : ClassId} (hinj : ∀ i j, i < 51 → j < 51 → a i = a j → i = j) {b : Nat} {p1 : Int32} {p2 : Int32} (hb : b = 10 ∨ b = 27) {σ : zSt} {o : zSt} (h : M_X4_tie b p1 p2 σ = some o) : zMv l D (ztys cI cO cA) 51 a (fX a cI cO cA) yX4_tie cX4_tie 4 none rm_X4_tie [.ref (a b), .int p1, .int p2] σ o := by
  unfold M_X4_tie at h
  refine zmetv (own := RX4) [some (.ref (a b)), some (.int p1), some (.int p2), none] (by decide) rfl hinj (Nat.le_of_ble_eq_true rfl) rfl (fun p e s m args below meth c C => ?_)
  refine r_aload_n (x := (a b)) C dX4_tie_0 rfl ?_
  refine gf_X4_18 C hb dX4_tie_1 ?_
  refine r_iload_n (x := p1) C dX4_tie_4 rfl ?_
  refine r_dup2 C dX4_tie_5 rfl rfl ?_
  refine r_iald (t0 := 0) C (b + 3) (aX_v3 hb) rfl dX4_tie_6 h (fun x1 h => ?_)
  refine r_iconst (v := 1) C dX4_tie_7 (by decide) ?_
  refine r_iload_n (x := p2) C dX4_tie_8 rfl ?_
  refine r_ishl C dX4_tie_9 ?_
  refine r_ior C dX4_tie_10 ?_
  refine r_iast (t0 := 0) C (b + 3) (aX_v3 hb) rfl dX4_tie_11 h (fun σ2 h => ?_)
  refine r_aload_n (x := (a b)) C dX4_tie_12 rfl ?_
  refine gf_X4_18 C hb dX4_tie_13 ?_
  refine r_iload_n (x := p2) C dX4_tie_16 rfl ?_
  refine r_dup2 C dX4_tie_17 rfl rfl ?_
  refine r_iald (t0 := 0) C (b + 3) (aX_v3 hb) rfl dX4_tie_18 h (fun x3 h => ?_)
  refine r_iconst (v := 1) C dX4_tie_19 (by decide) ?_
  refine r_iload_n (x := p1) C dX4_tie_20 rfl ?_
  refine r_ishl C dX4_tie_21 ?_
  refine r_ior C dX4_tie_22 ?_
  refine r_iast (t0 := 0) C (b + 3) (aX_v3 hb) rfl dX4_tie_23 h (fun σ4 h => ?_)
  refine r_iconst (v := 0) C dX4_tie_24 (by decide) ?_
  refine r_istore_n (lv' := [some (.ref (a b)), some (.int p1), some (.int p2), some (.int (0 : Int32))]) C dX4_tie_25 (by decide) rfl rfl ?_
  exact r_le (lv' := [some (.ref (a b)), some (.int p1), some (.int p2), some (.int (0 : Int32))]) ⟨rfl, rfl, rfl, rfl, trivial⟩ (tL_X4_tie_26 C hb (0 : Int32) σ4 h)
/-! VineRows$Vine.grow -/
abbrev rm_X4_grow : Room := { frames := 2, cells := 0, slots := 0, locals := 45 }
def B_X4_grow_133 (b : Nat) (q1 : Nat) (p2 : Int32) (K133 : (Int32 → zSt → Option (zSt))) (v3 : Int32) (σ : zSt) : Option (zSt) := (if v3 < 0 then some σ else zga (σ (b + 5)) v3 8 (fun x26 => zga (σ (b + 6)) v3 8 (fun x27 => zbv (M_X4_tie b x26 x27 σ) (fun σ28 => znm (v3 + (-1 : Int32)) (fun x29 => K133 x29 σ28)))))
def L_X4_grow_133 (b : Nat) (q1 : Nat) (p2 : Int32) (v3 : Int32) (σ : zSt) : Option (zSt) := zloop (fun (rec : Int32 × zSt → Option (zSt)) x => B_X4_grow_133 b q1 p2  (fun v3 σ => rec (v3, σ)) x.1 x.2) zFU (v3, σ)
def B_X4_grow_54 (b : Nat) (q1 : Nat) (p2 : Int32) (K54 : (Int32 → zSt → Option (zSt))) (v3 : Int32) (σ : zSt) : Option (zSt) := znm (σ b 0) (fun x10 => (if x10 ≤ v3 then zbv (M_X4_findTaken b σ) (fun σ11 => znm (σ11 b 0) (fun x12 => znm ((x12 - (2 : Int32))) (fun x13 => L_X4_grow_133 b q1 p2 x13 σ11))) else znm (σ b 0) (fun x14 => znm (((p2 + x14) + ((2 : Int32) * v3))) (fun x15 => zbd (M_X2_at q1 x15 σ) (fun x17 σ16 => zbd (M_X3_kindOf x17 σ16) (fun x19 σ18 => zgs σ18 (b + 1) v3 8 (if (0 : Int32) < x19 then x19 else (0 : Int32)) (fun σ20 => zbd (M_X3_digitAt q1 (x15 + (1 : Int32)) (9 : Int32) σ20) (fun x22 σ21 => zgs σ21 (b + 2) v3 8 x22 (fun σ23 => zgs σ23 (b + 3) v3 8 (0 : Int32) (fun σ24 => znm (v3 + (1 : Int32)) (fun x25 => K54 x25 σ24)))))))))))
def L_X4_grow_54 (b : Nat) (q1 : Nat) (p2 : Int32) (v3 : Int32) (σ : zSt) : Option (zSt) := zloop (fun (rec : Int32 × zSt → Option (zSt)) x => B_X4_grow_54 b q1 p2  (fun v3 σ => rec (v3, σ)) x.1 x.2) zFU (v3, σ)
def B_X4_grow_15 (b : Nat) (q1 : Nat) (p2 : Int32) (K15 : (Int32 → zSt → Option (zSt))) (v3 : Int32) (σ : zSt) : Option (zSt) := znm (σ b 0) (fun x4 => (if (x4 - (2 : Int32)) ≤ v3 then L_X4_grow_54 b q1 p2 (0 : Int32) σ else znm (σ b 0) (fun x5 => zbd (M_X3_digitAt q1 ((p2 + (2 : Int32)) + v3) (x5 - (1 : Int32)) σ) (fun x7 σ6 => zgs σ6 (b + 6) v3 8 x7 (fun σ8 => znm (v3 + (1 : Int32)) (fun x9 => K15 x9 σ8))))))
def L_X4_grow_15 (b : Nat) (q1 : Nat) (p2 : Int32) (v3 : Int32) (σ : zSt) : Option (zSt) := zloop (fun (rec : Int32 × zSt → Option (zSt)) x => B_X4_grow_15 b q1 p2  (fun v3 σ => rec (v3, σ)) x.1 x.2) zFU (v3, σ)
def M_X4_grow (b : Nat) (q1 : Nat) (p2 : Int32) (σ : zSt) : Option (zSt) := zbd (M_X3_digitAt q1 (p2 + (1 : Int32)) (8 : Int32) σ) (fun x2 σ1 => znm (zsu σ1 b (upd (σ1 b) 0 x2)) (fun σ3 => L_X4_grow_15 b q1 p2 (0 : Int32) σ3))
set_option maxRecDepth 20000 in
theorem tB_X4_grow_133 {p : Program} {l : Launch} {e : Env} {s : State} {m : MethodId} {args : Array Value} {below : List Frame} {meth : Method} {c : Code} {D : va_G} {a : Nat → Nat} {cI cO cA : ClassId} {o : zSt} (C : zC p s m args meth c D (ztys cI cO cA) 51 a cX4_grow 5 RX4 none) {b : Nat} {q1 : Nat} {p2 : Int32} (hb : b = 10 ∨ b = 27) (hq1 : 2 ≤ q1 ∧ q1 < 6) {K133 : (Int32 → zSt → Option (zSt))} (hK133 : ∀ (v3 : Int32) (σ : zSt), K133 v3 σ = some o → zV p l e rm_X4_grow s m args below meth c D 51 a (fX a cI cO cA) 5 (zQv below args s D 51 a (fX a cI cO cA) o) σ 133 [some (.ref (a b)), none, none, some (.int v3), none] []) (v3 : Int32) (σ : zSt) (h : B_X4_grow_133 b q1 p2 K133 v3 σ = some o) : zV p l e rm_X4_grow s m args below meth c D 51 a (fX a cI cO cA) 5 (zQv below args s D 51 a (fX a cI cO cA) o) σ 133 [some (.ref (a b)), none, none, some (.int v3), none] [] := by
  unfold B_X4_grow_133 at h
  refine r_iload_n (x := v3) C dX4_grow_133 rfl ?_
  refine r_if_lt (tgt := 159) C dX4_grow_134 (by decide) h (fun h => ?_) (fun h => ?_)
  · exact r_vret C dX4_grow_159 h
  · refine r_aload_n (x := (a b)) C dX4_grow_137 rfl ?_
    refine r_aload_n (x := (a b)) C dX4_grow_138 rfl ?_
    refine gf_X4_26 C hb dX4_grow_139 ?_
    refine r_iload_n (x := v3) C dX4_grow_142 rfl ?_
    refine r_iald (t0 := 0) C (b + 5) (aX_v5 hb) rfl dX4_grow_143 h (fun x26 h => ?_)
    refine r_aload_n (x := (a b)) C dX4_grow_144 rfl ?_
    refine gf_X4_29 C hb dX4_grow_145 ?_
    refine r_iload_n (x := v3) C dX4_grow_148 rfl ?_
    refine r_iald (t0 := 0) C (b + 6) (aX_v6 hb) rfl dX4_grow_149 h (fun x27 h => ?_)
    refine r_callVv C [.int x26, .int x27] [] (b := b) (by omega) (fX_vine hb) rfl rfl zc_X4_90 zB_X4_tie ⟨rfl, rfl, by decide, by decide⟩ (fun out h => c_X4_tie C.2.2.2.2.2.2.2.1 hb h) rfl rfl (Nat.le_of_ble_eq_true rfl) dX4_grow_150 h (fun σ28 h => ?_)
    refine r_gen h (fun x29 ex29 h => ?_)
    refine r_iinc (x := v3) (v := x29) (lv' := [some (.ref (a b)), none, none, some (.int x29), none]) C dX4_grow_153 rfl (by rw [← ex29]; rfl) (by decide) rfl rfl ?_
    clear ex29
    refine r_goto (tgt := 133) C dX4_grow_156 (by decide) ?_
    exact r_le (lv' := [some (.ref (a b)), none, none, some (.int x29), none]) ⟨rfl, rfl, trivial⟩ (hK133 x29 σ28 h)
set_option maxRecDepth 20000 in
theorem tL_X4_grow_133 {p : Program} {l : Launch} {e : Env} {s : State} {m : MethodId} {args : Array Value} {below : List Frame} {meth : Method} {c : Code} {D : va_G} {a : Nat → Nat} {cI cO cA : ClassId} {o : zSt} (C : zC p s m args meth c D (ztys cI cO cA) 51 a cX4_grow 5 RX4 none) {b : Nat} {q1 : Nat} {p2 : Int32} (hb : b = 10 ∨ b = 27) (hq1 : 2 ≤ q1 ∧ q1 < 6)  (v3 : Int32) (σ : zSt) (h : L_X4_grow_133 b q1 p2  v3 σ = some o) : zV p l e rm_X4_grow s m args below meth c D 51 a (fX a cI cO cA) 5 (zQv below args s D 51 a (fX a cI cO cA) o) σ 133 [some (.ref (a b)), none, none, some (.int v3), none] [] := by
  unfold L_X4_grow_133 at h
  refine zloop_ind (G := fun x => zV p l e rm_X4_grow s m args below meth c D 51 a (fX a cI cO cA) 5 (zQv below args s D 51 a (fX a cI cO cA) o) x.2 133 [some (.ref (a b)), none, none, some (.int x.1), none] []) ?_ zFU _ h
  intro rec hr x h
  exact tB_X4_grow_133 C hb hq1  (fun v3 σ => hr (v3, σ)) _ _ h
set_option maxRecDepth 20000 in
theorem tB_X4_grow_54 {p : Program} {l : Launch} {e : Env} {s : State} {m : MethodId} {args : Array Value} {below : List Frame} {meth : Method} {c : Code} {D : va_G} {a : Nat → Nat} {cI cO cA : ClassId} {o : zSt} (C : zC p s m args meth c D (ztys cI cO cA) 51 a cX4_grow 5 RX4 none) {b : Nat} {q1 : Nat} {p2 : Int32} (hb : b = 10 ∨ b = 27) (hq1 : 2 ≤ q1 ∧ q1 < 6) {K54 : (Int32 → zSt → Option (zSt))} (hK54 : ∀ (v3 : Int32) (σ : zSt), K54 v3 σ = some o → zV p l e rm_X4_grow s m args below meth c D 51 a (fX a cI cO cA) 5 (zQv below args s D 51 a (fX a cI cO cA) o) σ 54 [some (.ref (a b)), some (.ref (a q1)), some (.int p2), some (.int v3), none] []) (v3 : Int32) (σ : zSt) (h : B_X4_grow_54 b q1 p2 K54 v3 σ = some o) : zV p l e rm_X4_grow s m args below meth c D 51 a (fX a cI cO cA) 5 (zQv below args s D 51 a (fX a cI cO cA) o) σ 54 [some (.ref (a b)), some (.ref (a q1)), some (.int p2), some (.int v3), none] [] := by
  unfold B_X4_grow_54 at h
  refine r_iload_n (x := v3) C dX4_grow_54 rfl ?_
  refine r_aload_n (x := (a b)) C dX4_grow_55 rfl ?_
  refine gf_X4_38 C hb dX4_grow_56 h (fun x10 h => ?_)
  refine r_icmp_ge (tgt := 122) C dX4_grow_59 (by decide) h (fun h => ?_) (fun h => ?_)
  · refine r_aload_n (x := (a b)) C dX4_grow_122 rfl ?_
    refine r_callVv C [] [] (b := b) (by omega) (fX_vine hb) rfl rfl zc_X4_87 zB_X4_findTaken ⟨rfl, rfl, by decide, by decide⟩ (fun out h => c_X4_findTaken C.2.2.2.2.2.2.2.1 hb h) rfl rfl (Nat.le_of_ble_eq_true rfl) dX4_grow_123 h (fun σ11 h => ?_)
    refine r_aload_n (x := (a b)) C dX4_grow_126 rfl ?_
    refine gf_X4_38 C hb dX4_grow_127 h (fun x12 h => ?_)
    refine r_iconst (v := 2) C dX4_grow_130 (by decide) ?_
    refine r_isub C dX4_grow_131 ?_
    refine r_nm h (fun x13 h => ?_)
    refine r_istore_n (lv' := [some (.ref (a b)), some (.ref (a q1)), some (.int p2), some (.int x13), none]) C dX4_grow_132 (by decide) rfl rfl ?_
    exact r_le (lv' := [some (.ref (a b)), none, none, some (.int x13), none]) ⟨rfl, rfl, trivial⟩ (tL_X4_grow_133 C hb hq1 x13 σ11 h)
  · refine r_iload_n (x := p2) C dX4_grow_62 rfl ?_
    refine r_aload_n (x := (a b)) C dX4_grow_63 rfl ?_
    refine gf_X4_38 C hb dX4_grow_64 h (fun x14 h => ?_)
    refine r_iadd C dX4_grow_67 ?_
    refine r_iconst (v := 2) C dX4_grow_68 (by decide) ?_
    refine r_iload_n (x := v3) C dX4_grow_69 rfl ?_
    refine r_imul C dX4_grow_70 ?_
    refine r_iadd C dX4_grow_71 ?_
    refine r_nm h (fun x15 h => ?_)
    refine r_istore (lv' := [some (.ref (a b)), some (.ref (a q1)), some (.int p2), some (.int v3), some (.int x15)]) C dX4_grow_72 (by decide) rfl rfl ?_
    refine r_aload_n (x := (a b)) C dX4_grow_74 rfl ?_
    refine gf_X4_9 C hb dX4_grow_75 ?_
    refine r_iload_n (x := v3) C dX4_grow_78 rfl ?_
    refine r_iconst (v := 0) C dX4_grow_79 (by decide) ?_
    refine r_aload_n (x := (a q1)) C dX4_grow_80 rfl ?_
    refine r_iload (x := x15) C dX4_grow_81 rfl ?_
    refine r_callVi C [.int x15] [.int (0 : Int32), .int v3, .ref (a (b + 1))] (b := q1) (by omega) (fX_sheet hq1) rfl rfl zc_X4_79 zB_X2_at ⟨rfl, rfl, by decide, by decide⟩ (fun out h => c_X2_at C.2.2.2.2.2.2.2.1 hq1 h) rfl rfl (Nat.le_of_ble_eq_true rfl) dX4_grow_83 h (fun x17 σ16 h => ?_)
    refine r_callSi C [.int x17] [.int (0 : Int32), .int v3, .ref (a (b + 1))] zc_X4_84 zB_X3_kindOf ⟨rfl, rfl, by decide, by decide⟩ (fun out h => c_X3_kindOf C.2.2.2.2.2.2.2.1  h) rfl rfl (Nat.le_of_ble_eq_true rfl) dX4_grow_86 h (fun x19 σ18 h => ?_)
    refine r_mmax C ⟨zw91, zw80, zw77, zw81⟩ (by decide) (Nat.le_of_ble_eq_true rfl) dX4_grow_89 ?_
    refine r_iast (t0 := 0) C (b + 1) (aX_v1 hb) rfl dX4_grow_92 h (fun σ20 h => ?_)
    refine r_aload_n (x := (a b)) C dX4_grow_93 rfl ?_
    refine gf_X4_15 C hb dX4_grow_94 ?_
    refine r_iload_n (x := v3) C dX4_grow_97 rfl ?_
    refine r_aload_n (x := (a q1)) C dX4_grow_98 rfl ?_
    refine r_iload (x := x15) C dX4_grow_99 rfl ?_
    refine r_iconst (v := 1) C dX4_grow_101 (by decide) ?_
    refine r_iadd C dX4_grow_102 ?_
    refine r_bipush (v := 9) C dX4_grow_103 (by decide) ?_
    refine r_callSi C [.ref (a q1), .int (x15 + (1 : Int32)), .int (9 : Int32)] [.int v3, .ref (a (b + 2))] zc_X4_73 zB_X3_digitAt ⟨rfl, rfl, by decide, by decide⟩ (fun out h => c_X3_digitAt C.2.2.2.2.2.2.2.1 hq1 h) rfl rfl (Nat.le_of_ble_eq_true rfl) dX4_grow_105 h (fun x22 σ21 h => ?_)
    refine r_iast (t0 := 0) C (b + 2) (aX_v2 hb) rfl dX4_grow_108 h (fun σ23 h => ?_)
    refine r_aload_n (x := (a b)) C dX4_grow_109 rfl ?_
    refine gf_X4_18 C hb dX4_grow_110 ?_
    refine r_iload_n (x := v3) C dX4_grow_113 rfl ?_
    refine r_iconst (v := 0) C dX4_grow_114 (by decide) ?_
    refine r_iast (t0 := 0) C (b + 3) (aX_v3 hb) rfl dX4_grow_115 h (fun σ24 h => ?_)
    refine r_gen h (fun x25 ex25 h => ?_)
    refine r_iinc (x := v3) (v := x25) (lv' := [some (.ref (a b)), some (.ref (a q1)), some (.int p2), some (.int x25), some (.int x15)]) C dX4_grow_116 rfl (by rw [← ex25]; rfl) (by decide) rfl rfl ?_
    clear ex25
    refine r_goto (tgt := 54) C dX4_grow_119 (by decide) ?_
    exact r_le (lv' := [some (.ref (a b)), some (.ref (a q1)), some (.int p2), some (.int x25), none]) ⟨rfl, rfl, rfl, rfl, trivial⟩ (hK54 x25 σ24 h)
set_option maxRecDepth 20000 in
theorem tL_X4_grow_54 {p : Program} {l : Launch} {e : Env} {s : State} {m : MethodId} {args : Array Value} {below : List Frame} {meth : Method} {c : Code} {D : va_G} {a : Nat → Nat} {cI cO cA : ClassId} {o : zSt} (C : zC p s m args meth c D (ztys cI cO cA) 51 a cX4_grow 5 RX4 none) {b : Nat} {q1 : Nat} {p2 : Int32} (hb : b = 10 ∨ b = 27) (hq1 : 2 ≤ q1 ∧ q1 < 6)  (v3 : Int32) (σ : zSt) (h : L_X4_grow_54 b q1 p2  v3 σ = some o) : zV p l e rm_X4_grow s m args below meth c D 51 a (fX a cI cO cA) 5 (zQv below args s D 51 a (fX a cI cO cA) o) σ 54 [some (.ref (a b)), some (.ref (a q1)), some (.int p2), some (.int v3), none] [] := by
  unfold L_X4_grow_54 at h
  refine zloop_ind (G := fun x => zV p l e rm_X4_grow s m args below meth c D 51 a (fX a cI cO cA) 5 (zQv below args s D 51 a (fX a cI cO cA) o) x.2 54 [some (.ref (a b)), some (.ref (a q1)), some (.int p2), some (.int x.1), none] []) ?_ zFU _ h
  intro rec hr x h
  exact tB_X4_grow_54 C hb hq1  (fun v3 σ => hr (v3, σ)) _ _ h
set_option maxRecDepth 20000 in
theorem tB_X4_grow_15 {p : Program} {l : Launch} {e : Env} {s : State} {m : MethodId} {args : Array Value} {below : List Frame} {meth : Method} {c : Code} {D : va_G} {a : Nat → Nat} {cI cO cA : ClassId} {o : zSt} (C : zC p s m args meth c D (ztys cI cO cA) 51 a cX4_grow 5 RX4 none) {b : Nat} {q1 : Nat} {p2 : Int32} (hb : b = 10 ∨ b = 27) (hq1 : 2 ≤ q1 ∧ q1 < 6) {K15 : (Int32 → zSt → Option (zSt))} (hK15 : ∀ (v3 : Int32) (σ : zSt), K15 v3 σ = some o → zV p l e rm_X4_grow s m args below meth c D 51 a (fX a cI cO cA) 5 (zQv below args s D 51 a (fX a cI cO cA) o) σ 15 [some (.ref (a b)), some (.ref (a q1)), some (.int p2), some (.int v3), none] []) (v3 : Int32) (σ : zSt) (h : B_X4_grow_15 b q1 p2 K15 v3 σ = some o) : zV p l e rm_X4_grow s m args below meth c D 51 a (fX a cI cO cA) 5 (zQv below args s D 51 a (fX a cI cO cA) o) σ 15 [some (.ref (a b)), some (.ref (a q1)), some (.int p2), some (.int v3), none] [] := by
  unfold B_X4_grow_15 at h
  refine r_iload_n (x := v3) C dX4_grow_15 rfl ?_
  refine r_aload_n (x := (a b)) C dX4_grow_16 rfl ?_
  refine gf_X4_38 C hb dX4_grow_17 h (fun x4 h => ?_)
  refine r_iconst (v := 2) C dX4_grow_20 (by decide) ?_
  refine r_isub C dX4_grow_21 ?_
  refine r_icmp_ge (tgt := 52) C dX4_grow_22 (by decide) h (fun h => ?_) (fun h => ?_)
  · refine r_iconst (v := 0) C dX4_grow_52 (by decide) ?_
    refine r_istore_n (lv' := [some (.ref (a b)), some (.ref (a q1)), some (.int p2), some (.int (0 : Int32)), none]) C dX4_grow_53 (by decide) rfl rfl ?_
    exact r_le (lv' := [some (.ref (a b)), some (.ref (a q1)), some (.int p2), some (.int (0 : Int32)), none]) ⟨rfl, rfl, rfl, rfl, trivial⟩ (tL_X4_grow_54 C hb hq1 (0 : Int32) σ h)
  · refine r_aload_n (x := (a b)) C dX4_grow_25 rfl ?_
    refine gf_X4_29 C hb dX4_grow_26 ?_
    refine r_iload_n (x := v3) C dX4_grow_29 rfl ?_
    refine r_aload_n (x := (a q1)) C dX4_grow_30 rfl ?_
    refine r_iload_n (x := p2) C dX4_grow_31 rfl ?_
    refine r_iconst (v := 2) C dX4_grow_32 (by decide) ?_
    refine r_iadd C dX4_grow_33 ?_
    refine r_iload_n (x := v3) C dX4_grow_34 rfl ?_
    refine r_iadd C dX4_grow_35 ?_
    refine r_aload_n (x := (a b)) C dX4_grow_36 rfl ?_
    refine gf_X4_38 C hb dX4_grow_37 h (fun x5 h => ?_)
    refine r_iconst (v := 1) C dX4_grow_40 (by decide) ?_
    refine r_isub C dX4_grow_41 ?_
    refine r_callSi C [.ref (a q1), .int ((p2 + (2 : Int32)) + v3), .int (x5 - (1 : Int32))] [.int v3, .ref (a (b + 6))] zc_X4_73 zB_X3_digitAt ⟨rfl, rfl, by decide, by decide⟩ (fun out h => c_X3_digitAt C.2.2.2.2.2.2.2.1 hq1 h) rfl rfl (Nat.le_of_ble_eq_true rfl) dX4_grow_42 h (fun x7 σ6 h => ?_)
    refine r_iast (t0 := 0) C (b + 6) (aX_v6 hb) rfl dX4_grow_45 h (fun σ8 h => ?_)
    refine r_gen h (fun x9 ex9 h => ?_)
    refine r_iinc (x := v3) (v := x9) (lv' := [some (.ref (a b)), some (.ref (a q1)), some (.int p2), some (.int x9), none]) C dX4_grow_46 rfl (by rw [← ex9]; rfl) (by decide) rfl rfl ?_
    clear ex9
    refine r_goto (tgt := 15) C dX4_grow_49 (by decide) ?_
    exact r_le (lv' := [some (.ref (a b)), some (.ref (a q1)), some (.int p2), some (.int x9), none]) ⟨rfl, rfl, rfl, rfl, trivial⟩ (hK15 x9 σ8 h)
set_option maxRecDepth 20000 in
theorem tL_X4_grow_15 {p : Program} {l : Launch} {e : Env} {s : State} {m : MethodId} {args : Array Value} {below : List Frame} {meth : Method} {c : Code} {D : va_G} {a : Nat → Nat} {cI cO cA : ClassId} {o : zSt} (C : zC p s m args meth c D (ztys cI cO cA) 51 a cX4_grow 5 RX4 none) {b : Nat} {q1 : Nat} {p2 : Int32} (hb : b = 10 ∨ b = 27) (hq1 : 2 ≤ q1 ∧ q1 < 6)  (v3 : Int32) (σ : zSt) (h : L_X4_grow_15 b q1 p2  v3 σ = some o) : zV p l e rm_X4_grow s m args below meth c D 51 a (fX a cI cO cA) 5 (zQv below args s D 51 a (fX a cI cO cA) o) σ 15 [some (.ref (a b)), some (.ref (a q1)), some (.int p2), some (.int v3), none] [] := by
  unfold L_X4_grow_15 at h
  refine zloop_ind (G := fun x => zV p l e rm_X4_grow s m args below meth c D 51 a (fX a cI cO cA) 5 (zQv below args s D 51 a (fX a cI cO cA) o) x.2 15 [some (.ref (a b)), some (.ref (a q1)), some (.int p2), some (.int x.1), none] []) ?_ zFU _ h
  intro rec hr x h
  exact tB_X4_grow_15 C hb hq1  (fun v3 σ => hr (v3, σ)) _ _ h
set_option maxRecDepth 20000 in
theorem c_X4_grow {l : Launch} {D : va_G} {a : Nat → Nat} {cI cO cA : ClassId} (hinj : ∀ i j, i < 51 → j < 51 → a i = a j → i = j) {b : Nat} {q1 : Nat} {p2 : Int32} (hb : b = 10 ∨ b = 27) (hq1 : 2 ≤ q1 ∧ q1 < 6) {σ : zSt} {o : zSt} (h : M_X4_grow b q1 p2 σ = some o) : zMv l D (ztys cI cO cA) 51 a (fX a cI cO cA) yX4_grow cX4_grow 5 none rm_X4_grow [.ref (a b), .ref (a q1), .int p2] σ o := by
  unfold M_X4_grow at h
  refine zmetv (own := RX4) [some (.ref (a b)), some (.ref (a q1)), some (.int p2), none, none] (by decide) rfl hinj (Nat.le_of_ble_eq_true rfl) rfl (fun p e s m args below meth c C => ?_)
  refine r_aload_n (x := (a b)) C dX4_grow_0 rfl ?_
  refine r_aload_n (x := (a q1)) C dX4_grow_1 rfl ?_
  refine r_iload_n (x := p2) C dX4_grow_2 rfl ?_
  refine r_iconst (v := 1) C dX4_grow_3 (by decide) ?_
  refine r_iadd C dX4_grow_4 ?_
  refine r_bipush (v := 8) C dX4_grow_5 (by decide) ?_
  refine r_callSi C [.ref (a q1), .int (p2 + (1 : Int32)), .int (8 : Int32)] [.ref (a b)] zc_X4_73 zB_X3_digitAt ⟨rfl, rfl, by decide, by decide⟩ (fun out h => c_X3_digitAt C.2.2.2.2.2.2.2.1 hq1 h) rfl rfl (Nat.le_of_ble_eq_true rfl) dX4_grow_7 h (fun x2 σ1 h => ?_)
  refine pf_X4_38 C hb dX4_grow_10 h (fun σ3 h => ?_)
  refine r_iconst (v := 0) C dX4_grow_13 (by decide) ?_
  refine r_istore_n (lv' := [some (.ref (a b)), some (.ref (a q1)), some (.int p2), some (.int (0 : Int32)), none]) C dX4_grow_14 (by decide) rfl rfl ?_
  exact r_le (lv' := [some (.ref (a b)), some (.ref (a q1)), some (.int p2), some (.int (0 : Int32)), none]) ⟨rfl, rfl, rfl, rfl, trivial⟩ (tL_X4_grow_15 C hb hq1 (0 : Int32) σ3 h)
/-! VineRows$Vine.hangOn -/
abbrev rm_X4_hangOn : Room := { frames := 1, cells := 0, slots := 0, locals := 23 }
def M_X4_hangOn (b : Nat) (p1 : Int32) (p2 : Int32) (σ : zSt) : Option (Int32 × zSt) := zga (σ (b + 3)) p1 8 (fun x1 => zbd (M_X5_leastOf x1 σ) (fun x3 σ2 => zga (σ2 (b + 3)) x3 8 (fun x4 => zgs σ2 (b + 3) x3 8 (x4 &&& (znt (zon p1))) (fun σ5 => zgs σ5 (b + 3) p1 8 (0 : Int32) (fun σ6 => zbv (M_X4_tie b p1 p2 σ6) (fun σ7 => some (x3, σ7)))))))
set_option maxRecDepth 20000 in
theorem c_X4_hangOn {l : Launch} {D : va_G} {a : Nat → Nat} {cI cO cA : ClassId} (hinj : ∀ i j, i < 51 → j < 51 → a i = a j → i = j) {b : Nat} {p1 : Int32} {p2 : Int32} (hb : b = 10 ∨ b = 27) {σ : zSt} {o : Int32 × zSt} (h : M_X4_hangOn b p1 p2 σ = some o) : zMi l D (ztys cI cO cA) 51 a (fX a cI cO cA) yX4_hangOn cX4_hangOn 4 (some .int) rm_X4_hangOn [.ref (a b), .int p1, .int p2] σ o := by
  unfold M_X4_hangOn at h
  refine zmeti (own := RX4) [some (.ref (a b)), some (.int p1), some (.int p2), none] (by decide) rfl hinj (Nat.le_of_ble_eq_true rfl) rfl (fun p e s m args below meth c C => ?_)
  refine r_aload_n (x := (a b)) C dX4_hangOn_0 rfl ?_
  refine gf_X4_18 C hb dX4_hangOn_1 ?_
  refine r_iload_n (x := p1) C dX4_hangOn_4 rfl ?_
  refine r_iald (t0 := 0) C (b + 3) (aX_v3 hb) rfl dX4_hangOn_5 h (fun x1 h => ?_)
  refine r_callNi C [.int x1] [] "VineRows" (List.mem_cons_of_mem _ List.mem_cons_self) zc_X4_97 zB_X5_leastOf ⟨rfl, rfl, by decide, by decide⟩ (fun out h => c_X5_leastOf C.2.2.2.2.2.2.2.1  h) rfl rfl (Nat.le_of_ble_eq_true rfl) dX4_hangOn_6 h (fun x3 σ2 h => ?_)
  refine r_istore_n (lv' := [some (.ref (a b)), some (.int p1), some (.int p2), some (.int x3)]) C dX4_hangOn_9 (by decide) rfl rfl ?_
  refine r_aload_n (x := (a b)) C dX4_hangOn_10 rfl ?_
  refine gf_X4_18 C hb dX4_hangOn_11 ?_
  refine r_iload_n (x := x3) C dX4_hangOn_14 rfl ?_
  refine r_dup2 C dX4_hangOn_15 rfl rfl ?_
  refine r_iald (t0 := 0) C (b + 3) (aX_v3 hb) rfl dX4_hangOn_16 h (fun x4 h => ?_)
  refine r_iconst (v := 1) C dX4_hangOn_17 (by decide) ?_
  refine r_iload_n (x := p1) C dX4_hangOn_18 rfl ?_
  refine r_ishl C dX4_hangOn_19 ?_
  refine r_iconst (v := -1) C dX4_hangOn_20 (by decide) ?_
  refine r_ixor C dX4_hangOn_21 ?_
  refine r_iand C dX4_hangOn_22 ?_
  refine r_iast (t0 := 0) C (b + 3) (aX_v3 hb) rfl dX4_hangOn_23 h (fun σ5 h => ?_)
  refine r_aload_n (x := (a b)) C dX4_hangOn_24 rfl ?_
  refine gf_X4_18 C hb dX4_hangOn_25 ?_
  refine r_iload_n (x := p1) C dX4_hangOn_28 rfl ?_
  refine r_iconst (v := 0) C dX4_hangOn_29 (by decide) ?_
  refine r_iast (t0 := 0) C (b + 3) (aX_v3 hb) rfl dX4_hangOn_30 h (fun σ6 h => ?_)
  refine r_aload_n (x := (a b)) C dX4_hangOn_31 rfl ?_
  refine r_iload_n (x := p1) C dX4_hangOn_32 rfl ?_
  refine r_iload_n (x := p2) C dX4_hangOn_33 rfl ?_
  refine r_callVv C [.int p1, .int p2] [] (b := b) (by omega) (fX_vine hb) rfl rfl zc_X4_90 zB_X4_tie ⟨rfl, rfl, by decide, by decide⟩ (fun out h => c_X4_tie C.2.2.2.2.2.2.2.1 hb h) rfl rfl (Nat.le_of_ble_eq_true rfl) dX4_hangOn_34 h (fun σ7 h => ?_)
  refine r_iload_n (x := x3) C dX4_hangOn_37 rfl ?_
  exact r_iret C dX4_hangOn_38 h
/-! VineRows$Vine.leastEnd -/
abbrev rm_X4_leastEnd : Room := { frames := 1, cells := 0, slots := 0, locals := 20 }
def B_X4_leastEnd_35 (b : Nat) (p1 : Int32) (K2 : (Int32 → zSt → Option (Int32 × zSt))) (v2 : Int32) (σ : zSt) : Option (Int32 × zSt) := znm (v2 + (1 : Int32)) (fun x5 => K2 x5 σ)
def B_X4_leastEnd_2 (b : Nat) (p1 : Int32) (K2 : (Int32 → zSt → Option (Int32 × zSt))) (v2 : Int32) (σ : zSt) : Option (Int32 × zSt) := znm (σ b 0) (fun x1 => (if x1 ≤ v2 then some ((0 : Int32), σ) else (if (zbt p1 v2) = 0 then B_X4_leastEnd_35 b p1 K2 v2 σ else zga (σ (b + 3)) v2 8 (fun x2 => zbd (M_J6_bitCount_0f7a4 (x2 &&& p1) σ) (fun x4 σ3 => (if x4 = (1 : Int32) then some (v2, σ3) else B_X4_leastEnd_35 b p1 K2 v2 σ3))))))
def L_X4_leastEnd_2 (b : Nat) (p1 : Int32) (v2 : Int32) (σ : zSt) : Option (Int32 × zSt) := zloop (fun (rec : Int32 × zSt → Option (Int32 × zSt)) x => B_X4_leastEnd_2 b p1  (fun v2 σ => rec (v2, σ)) x.1 x.2) zFU (v2, σ)
def M_X4_leastEnd (b : Nat) (p1 : Int32) (σ : zSt) : Option (Int32 × zSt) := L_X4_leastEnd_2 b p1 (0 : Int32) σ
set_option maxRecDepth 20000 in
theorem tB_X4_leastEnd_35 {p : Program} {l : Launch} {e : Env} {s : State} {m : MethodId} {args : Array Value} {below : List Frame} {meth : Method} {c : Code} {D : va_G} {a : Nat → Nat} {cI cO cA : ClassId} {o : Int32 × zSt} (C : zC p s m args meth c D (ztys cI cO cA) 51 a cX4_leastEnd 3 RX4 (some .int)) {b : Nat} {p1 : Int32} (hb : b = 10 ∨ b = 27) {K2 : (Int32 → zSt → Option (Int32 × zSt))} (hK2 : ∀ (v2 : Int32) (σ : zSt), K2 v2 σ = some o → zV p l e rm_X4_leastEnd s m args below meth c D 51 a (fX a cI cO cA) 3 (zQi below args s D 51 a (fX a cI cO cA) o) σ 2 [some (.ref (a b)), some (.int p1), some (.int v2)] []) (v2 : Int32) (σ : zSt) (h : B_X4_leastEnd_35 b p1 K2 v2 σ = some o) : zV p l e rm_X4_leastEnd s m args below meth c D 51 a (fX a cI cO cA) 3 (zQi below args s D 51 a (fX a cI cO cA) o) σ 35 [some (.ref (a b)), some (.int p1), some (.int v2)] [] := by
  unfold B_X4_leastEnd_35 at h
  refine r_gen h (fun x5 ex5 h => ?_)
  refine r_iinc (x := v2) (v := x5) (lv' := [some (.ref (a b)), some (.int p1), some (.int x5)]) C dX4_leastEnd_35 rfl (by rw [← ex5]; rfl) (by decide) rfl rfl ?_
  clear ex5
  refine r_goto (tgt := 2) C dX4_leastEnd_38 (by decide) ?_
  exact r_le (lv' := [some (.ref (a b)), some (.int p1), some (.int x5)]) ⟨rfl, rfl, rfl, trivial⟩ (hK2 x5 σ h)
set_option maxRecDepth 20000 in
theorem tB_X4_leastEnd_2 {p : Program} {l : Launch} {e : Env} {s : State} {m : MethodId} {args : Array Value} {below : List Frame} {meth : Method} {c : Code} {D : va_G} {a : Nat → Nat} {cI cO cA : ClassId} {o : Int32 × zSt} (C : zC p s m args meth c D (ztys cI cO cA) 51 a cX4_leastEnd 3 RX4 (some .int)) {b : Nat} {p1 : Int32} (hb : b = 10 ∨ b = 27) {K2 : (Int32 → zSt → Option (Int32 × zSt))} (hK2 : ∀ (v2 : Int32) (σ : zSt), K2 v2 σ = some o → zV p l e rm_X4_leastEnd s m args below meth c D 51 a (fX a cI cO cA) 3 (zQi below args s D 51 a (fX a cI cO cA) o) σ 2 [some (.ref (a b)), some (.int p1), some (.int v2)] []) (v2 : Int32) (σ : zSt) (h : B_X4_leastEnd_2 b p1 K2 v2 σ = some o) : zV p l e rm_X4_leastEnd s m args below meth c D 51 a (fX a cI cO cA) 3 (zQi below args s D 51 a (fX a cI cO cA) o) σ 2 [some (.ref (a b)), some (.int p1), some (.int v2)] [] := by
  unfold B_X4_leastEnd_2 at h
  refine r_iload_n (x := v2) C dX4_leastEnd_2 rfl ?_
  refine r_aload_n (x := (a b)) C dX4_leastEnd_3 rfl ?_
  refine gf_X4_38 C hb dX4_leastEnd_4 h (fun x1 h => ?_)
  refine r_icmp_ge (tgt := 41) C dX4_leastEnd_7 (by decide) h (fun h => ?_) (fun h => ?_)
  · refine r_iconst (v := 0) C dX4_leastEnd_41 (by decide) ?_
    exact r_iret C dX4_leastEnd_42 h
  · refine r_iload_n (x := p1) C dX4_leastEnd_10 rfl ?_
    refine r_iload_n (x := v2) C dX4_leastEnd_11 rfl ?_
    refine r_ishr C dX4_leastEnd_12 ?_
    refine r_iconst (v := 1) C dX4_leastEnd_13 (by decide) ?_
    refine r_iand C dX4_leastEnd_14 ?_
    refine r_if_eq (tgt := 35) C dX4_leastEnd_15 (by decide) h (fun h => ?_) (fun h => ?_)
    · exact r_le (lv' := [some (.ref (a b)), some (.int p1), some (.int v2)]) ⟨rfl, rfl, rfl, trivial⟩ (tB_X4_leastEnd_35 C hb (K2 := K2) hK2 v2 σ h)
    · refine r_aload_n (x := (a b)) C dX4_leastEnd_18 rfl ?_
      refine gf_X4_18 C hb dX4_leastEnd_19 ?_
      refine r_iload_n (x := v2) C dX4_leastEnd_22 rfl ?_
      refine r_iald (t0 := 0) C (b + 3) (aX_v3 hb) rfl dX4_leastEnd_23 h (fun x2 h => ?_)
      refine r_iload_n (x := p1) C dX4_leastEnd_24 rfl ?_
      refine r_iand C dX4_leastEnd_25 ?_
      refine r_callSi C [.int (x2 &&& p1)] [] zc_X4_42 zB_J6_bitCount_0f7a4 ⟨rfl, rfl, by decide, by decide⟩ (fun out h => c_J6_bitCount_0f7a4 C.2.2.2.2.2.2.2.1  h) rfl rfl (Nat.le_of_ble_eq_true rfl) dX4_leastEnd_26 h (fun x4 σ3 h => ?_)
      refine r_iconst (v := 1) C dX4_leastEnd_29 (by decide) ?_
      refine r_icmp_ne (tgt := 35) C dX4_leastEnd_30 (by decide) h (fun h => ?_) (fun h => ?_)
      · exact r_le (lv' := [some (.ref (a b)), some (.int p1), some (.int v2)]) ⟨rfl, rfl, rfl, trivial⟩ (tB_X4_leastEnd_35 C hb (K2 := K2) hK2 v2 σ3 h)
      · refine r_iload_n (x := v2) C dX4_leastEnd_33 rfl ?_
        exact r_iret C dX4_leastEnd_34 h
set_option maxRecDepth 20000 in
theorem tL_X4_leastEnd_2 {p : Program} {l : Launch} {e : Env} {s : State} {m : MethodId} {args : Array Value} {below : List Frame} {meth : Method} {c : Code} {D : va_G} {a : Nat → Nat} {cI cO cA : ClassId} {o : Int32 × zSt} (C : zC p s m args meth c D (ztys cI cO cA) 51 a cX4_leastEnd 3 RX4 (some .int)) {b : Nat} {p1 : Int32} (hb : b = 10 ∨ b = 27)  (v2 : Int32) (σ : zSt) (h : L_X4_leastEnd_2 b p1  v2 σ = some o) : zV p l e rm_X4_leastEnd s m args below meth c D 51 a (fX a cI cO cA) 3 (zQi below args s D 51 a (fX a cI cO cA) o) σ 2 [some (.ref (a b)), some (.int p1), some (.int v2)] [] := by
  unfold L_X4_leastEnd_2 at h
  refine zloop_ind (G := fun x => zV p l e rm_X4_leastEnd s m args below meth c D 51 a (fX a cI cO cA) 3 (zQi below args s D 51 a (fX a cI cO cA) o) x.2 2 [some (.ref (a b)), some (.int p1), some (.int x.1)] []) ?_ zFU _ h
  intro rec hr x h
  exact tB_X4_leastEnd_2 C hb  (fun v2 σ => hr (v2, σ)) _ _ h
set_option maxRecDepth 20000 in
theorem c_X4_leastEnd {l : Launch} {D : va_G} {a : Nat → Nat} {cI cO cA : ClassId} (hinj : ∀ i j, i < 51 → j < 51 → a i = a j → i = j) {b : Nat} {p1 : Int32} (hb : b = 10 ∨ b = 27) {σ : zSt} {o : Int32 × zSt} (h : M_X4_leastEnd b p1 σ = some o) : zMi l D (ztys cI cO cA) 51 a (fX a cI cO cA) yX4_leastEnd cX4_leastEnd 3 (some .int) rm_X4_leastEnd [.ref (a b), .int p1] σ o := by
  unfold M_X4_leastEnd at h
  refine zmeti (own := RX4) [some (.ref (a b)), some (.int p1), none] (by decide) rfl hinj (Nat.le_of_ble_eq_true rfl) rfl (fun p e s m args below meth c C => ?_)
  refine r_iconst (v := 0) C dX4_leastEnd_0 (by decide) ?_
  refine r_istore_n (lv' := [some (.ref (a b)), some (.int p1), some (.int (0 : Int32))]) C dX4_leastEnd_1 (by decide) rfl rfl ?_
  exact r_le (lv' := [some (.ref (a b)), some (.int p1), some (.int (0 : Int32))]) ⟨rfl, rfl, rfl, trivial⟩ (tL_X4_leastEnd_2 C hb (0 : Int32) σ h)
/-! VineRows$Vine.strip -/
abbrev rm_X4_strip : Room := { frames := 2, cells := 0, slots := 0, locals := 42 }
def B_X4_strip_11 (b : Nat) (K11 : (Int32 → Int32 → zSt → Option (zSt))) (v1 : Int32) (v2 : Int32) (σ : zSt) : Option (zSt) := znm (σ b 0) (fun x3 => (if (x3 - (1 : Int32)) ≤ v2 then some σ else zbd (M_X4_leastEnd b v1 σ) (fun x5 σ4 => zgs σ4 (b + 5) v2 8 x5 (fun σ6 => zga (σ6 (b + 5)) v2 8 (fun x7 => zga (σ6 (b + 3)) x7 8 (fun x8 => zbd (M_X5_leastOf (x8 &&& v1) σ6) (fun x10 σ9 => zgs σ9 (b + 6) v2 8 x10 (fun σ11 => zga (σ11 (b + 5)) v2 8 (fun x12 => znm ((v1 &&& (znt (zon x12)))) (fun x13 => znm (v2 + (1 : Int32)) (fun x14 => K11 x13 x14 σ11)))))))))))
def L_X4_strip_11 (b : Nat) (v1 : Int32) (v2 : Int32) (σ : zSt) : Option (zSt) := zloop (fun (rec : Int32 × Int32 × zSt → Option (zSt)) x => B_X4_strip_11 b  (fun v1 v2 σ => rec (v1, v2, σ)) x.1 x.2.1 x.2.2) zFU (v1, v2, σ)
def M_X4_strip (b : Nat) (σ : zSt) : Option (zSt) := znm (σ b 0) (fun x1 => znm (((zon x1) - (1 : Int32))) (fun x2 => L_X4_strip_11 b x2 (0 : Int32) σ))
set_option maxRecDepth 20000 in
theorem tB_X4_strip_11 {p : Program} {l : Launch} {e : Env} {s : State} {m : MethodId} {args : Array Value} {below : List Frame} {meth : Method} {c : Code} {D : va_G} {a : Nat → Nat} {cI cO cA : ClassId} {o : zSt} (C : zC p s m args meth c D (ztys cI cO cA) 51 a cX4_strip 3 RX4 none) {b : Nat} (hb : b = 10 ∨ b = 27) {K11 : (Int32 → Int32 → zSt → Option (zSt))} (hK11 : ∀ (v1 : Int32) (v2 : Int32) (σ : zSt), K11 v1 v2 σ = some o → zV p l e rm_X4_strip s m args below meth c D 51 a (fX a cI cO cA) 3 (zQv below args s D 51 a (fX a cI cO cA) o) σ 11 [some (.ref (a b)), some (.int v1), some (.int v2)] []) (v1 : Int32) (v2 : Int32) (σ : zSt) (h : B_X4_strip_11 b K11 v1 v2 σ = some o) : zV p l e rm_X4_strip s m args below meth c D 51 a (fX a cI cO cA) 3 (zQv below args s D 51 a (fX a cI cO cA) o) σ 11 [some (.ref (a b)), some (.int v1), some (.int v2)] [] := by
  unfold B_X4_strip_11 at h
  refine r_iload_n (x := v2) C dX4_strip_11 rfl ?_
  refine r_aload_n (x := (a b)) C dX4_strip_12 rfl ?_
  refine gf_X4_38 C hb dX4_strip_13 h (fun x3 h => ?_)
  refine r_iconst (v := 1) C dX4_strip_16 (by decide) ?_
  refine r_isub C dX4_strip_17 ?_
  refine r_icmp_ge (tgt := 73) C dX4_strip_18 (by decide) h (fun h => ?_) (fun h => ?_)
  · exact r_vret C dX4_strip_73 h
  · refine r_aload_n (x := (a b)) C dX4_strip_21 rfl ?_
    refine gf_X4_26 C hb dX4_strip_22 ?_
    refine r_iload_n (x := v2) C dX4_strip_25 rfl ?_
    refine r_aload_n (x := (a b)) C dX4_strip_26 rfl ?_
    refine r_iload_n (x := v1) C dX4_strip_27 rfl ?_
    refine r_callVi C [.int v1] [.int v2, .ref (a (b + 5))] (b := b) (by omega) (fX_vine hb) rfl rfl zc_X4_100 zB_X4_leastEnd ⟨rfl, rfl, by decide, by decide⟩ (fun out h => c_X4_leastEnd C.2.2.2.2.2.2.2.1 hb h) rfl rfl (Nat.le_of_ble_eq_true rfl) dX4_strip_28 h (fun x5 σ4 h => ?_)
    refine r_iast (t0 := 0) C (b + 5) (aX_v5 hb) rfl dX4_strip_31 h (fun σ6 h => ?_)
    refine r_aload_n (x := (a b)) C dX4_strip_32 rfl ?_
    refine gf_X4_29 C hb dX4_strip_33 ?_
    refine r_iload_n (x := v2) C dX4_strip_36 rfl ?_
    refine r_aload_n (x := (a b)) C dX4_strip_37 rfl ?_
    refine gf_X4_18 C hb dX4_strip_38 ?_
    refine r_aload_n (x := (a b)) C dX4_strip_41 rfl ?_
    refine gf_X4_26 C hb dX4_strip_42 ?_
    refine r_iload_n (x := v2) C dX4_strip_45 rfl ?_
    refine r_iald (t0 := 0) C (b + 5) (aX_v5 hb) rfl dX4_strip_46 h (fun x7 h => ?_)
    refine r_iald (t0 := 0) C (b + 3) (aX_v3 hb) rfl dX4_strip_47 h (fun x8 h => ?_)
    refine r_iload_n (x := v1) C dX4_strip_48 rfl ?_
    refine r_iand C dX4_strip_49 ?_
    refine r_callNi C [.int (x8 &&& v1)] [.int v2, .ref (a (b + 6))] "VineRows" (List.mem_cons_of_mem _ List.mem_cons_self) zc_X4_97 zB_X5_leastOf ⟨rfl, rfl, by decide, by decide⟩ (fun out h => c_X5_leastOf C.2.2.2.2.2.2.2.1  h) rfl rfl (Nat.le_of_ble_eq_true rfl) dX4_strip_50 h (fun x10 σ9 h => ?_)
    refine r_iast (t0 := 0) C (b + 6) (aX_v6 hb) rfl dX4_strip_53 h (fun σ11 h => ?_)
    refine r_iload_n (x := v1) C dX4_strip_54 rfl ?_
    refine r_iconst (v := 1) C dX4_strip_55 (by decide) ?_
    refine r_aload_n (x := (a b)) C dX4_strip_56 rfl ?_
    refine gf_X4_26 C hb dX4_strip_57 ?_
    refine r_iload_n (x := v2) C dX4_strip_60 rfl ?_
    refine r_iald (t0 := 0) C (b + 5) (aX_v5 hb) rfl dX4_strip_61 h (fun x12 h => ?_)
    refine r_ishl C dX4_strip_62 ?_
    refine r_iconst (v := -1) C dX4_strip_63 (by decide) ?_
    refine r_ixor C dX4_strip_64 ?_
    refine r_iand C dX4_strip_65 ?_
    refine r_nm h (fun x13 h => ?_)
    refine r_istore_n (lv' := [some (.ref (a b)), some (.int x13), some (.int v2)]) C dX4_strip_66 (by decide) rfl rfl ?_
    refine r_gen h (fun x14 ex14 h => ?_)
    refine r_iinc (x := v2) (v := x14) (lv' := [some (.ref (a b)), some (.int x13), some (.int x14)]) C dX4_strip_67 rfl (by rw [← ex14]; rfl) (by decide) rfl rfl ?_
    clear ex14
    refine r_goto (tgt := 11) C dX4_strip_70 (by decide) ?_
    exact r_le (lv' := [some (.ref (a b)), some (.int x13), some (.int x14)]) ⟨rfl, rfl, rfl, trivial⟩ (hK11 x13 x14 σ11 h)
set_option maxRecDepth 20000 in
theorem tL_X4_strip_11 {p : Program} {l : Launch} {e : Env} {s : State} {m : MethodId} {args : Array Value} {below : List Frame} {meth : Method} {c : Code} {D : va_G} {a : Nat → Nat} {cI cO cA : ClassId} {o : zSt} (C : zC p s m args meth c D (ztys cI cO cA) 51 a cX4_strip 3 RX4 none) {b : Nat} (hb : b = 10 ∨ b = 27)  (v1 : Int32) (v2 : Int32) (σ : zSt) (h : L_X4_strip_11 b  v1 v2 σ = some o) : zV p l e rm_X4_strip s m args below meth c D 51 a (fX a cI cO cA) 3 (zQv below args s D 51 a (fX a cI cO cA) o) σ 11 [some (.ref (a b)), some (.int v1), some (.int v2)] [] := by
  unfold L_X4_strip_11 at h
  refine zloop_ind (G := fun x => zV p l e rm_X4_strip s m args below meth c D 51 a (fX a cI cO cA) 3 (zQv below args s D 51 a (fX a cI cO cA) o) x.2.2 11 [some (.ref (a b)), some (.int x.1), some (.int x.2.1)] []) ?_ zFU _ h
  intro rec hr x h
  exact tB_X4_strip_11 C hb  (fun v1 v2 σ => hr (v1, v2, σ)) _ _ _ h
set_option maxRecDepth 20000 in
theorem c_X4_strip {l : Launch} {D : va_G} {a : Nat → Nat} {cI cO cA : ClassId} (hinj : ∀ i j, i < 51 → j < 51 → a i = a j → i = j) {b : Nat} (hb : b = 10 ∨ b = 27) {σ : zSt} {o : zSt} (h : M_X4_strip b σ = some o) : zMv l D (ztys cI cO cA) 51 a (fX a cI cO cA) yX4_strip cX4_strip 3 none rm_X4_strip [.ref (a b)] σ o := by
  unfold M_X4_strip at h
  refine zmetv (own := RX4) [some (.ref (a b)), none, none] (by decide) rfl hinj (Nat.le_of_ble_eq_true rfl) rfl (fun p e s m args below meth c C => ?_)
  refine r_iconst (v := 1) C dX4_strip_0 (by decide) ?_
  refine r_aload_n (x := (a b)) C dX4_strip_1 rfl ?_
  refine gf_X4_38 C hb dX4_strip_2 h (fun x1 h => ?_)
  refine r_ishl C dX4_strip_5 ?_
  refine r_iconst (v := 1) C dX4_strip_6 (by decide) ?_
  refine r_isub C dX4_strip_7 ?_
  refine r_nm h (fun x2 h => ?_)
  refine r_istore_n (lv' := [some (.ref (a b)), some (.int x2), none]) C dX4_strip_8 (by decide) rfl rfl ?_
  refine r_iconst (v := 0) C dX4_strip_9 (by decide) ?_
  refine r_istore_n (lv' := [some (.ref (a b)), some (.int x2), some (.int (0 : Int32))]) C dX4_strip_10 (by decide) rfl rfl ?_
  exact r_le (lv' := [some (.ref (a b)), some (.int x2), some (.int (0 : Int32))]) ⟨rfl, rfl, rfl, trivial⟩ (tL_X4_strip_11 C hb x2 (0 : Int32) σ h)
/-! VineRows$Vine.numberOfRow -/
abbrev rm_X4_numberOfRow : Room := { frames := 3, cells := 0, slots := 0, locals := 64 }
def B_X4_numberOfRow_8 (b : Nat) (K8 : (Int32 → Int32 → zSt → Option (Int32 × zSt))) (v1 : Int32) (v2 : Int32) (σ : zSt) : Option (Int32 × zSt) := znm (σ b 0) (fun x2 => (if (x2 - (2 : Int32)) ≤ v2 then some (v1, σ) else znm (σ b 0) (fun x3 => zga (σ (b + 6)) v2 8 (fun x4 => znm (((v1 * x3) + x4)) (fun x5 => znm (v2 + (1 : Int32)) (fun x6 => K8 x5 x6 σ))))))
def L_X4_numberOfRow_8 (b : Nat) (v1 : Int32) (v2 : Int32) (σ : zSt) : Option (Int32 × zSt) := zloop (fun (rec : Int32 × Int32 × zSt → Option (Int32 × zSt)) x => B_X4_numberOfRow_8 b  (fun v1 v2 σ => rec (v1, v2, σ)) x.1 x.2.1 x.2.2) zFU (v1, v2, σ)
def M_X4_numberOfRow (b : Nat) (σ : zSt) : Option (Int32 × zSt) := zbv (M_X4_strip b σ) (fun σ1 => L_X4_numberOfRow_8 b (0 : Int32) (0 : Int32) σ1)
set_option maxRecDepth 20000 in
theorem tB_X4_numberOfRow_8 {p : Program} {l : Launch} {e : Env} {s : State} {m : MethodId} {args : Array Value} {below : List Frame} {meth : Method} {c : Code} {D : va_G} {a : Nat → Nat} {cI cO cA : ClassId} {o : Int32 × zSt} (C : zC p s m args meth c D (ztys cI cO cA) 51 a cX4_numberOfRow 3 RX4 (some .int)) {b : Nat} (hb : b = 10 ∨ b = 27) {K8 : (Int32 → Int32 → zSt → Option (Int32 × zSt))} (hK8 : ∀ (v1 : Int32) (v2 : Int32) (σ : zSt), K8 v1 v2 σ = some o → zV p l e rm_X4_numberOfRow s m args below meth c D 51 a (fX a cI cO cA) 3 (zQi below args s D 51 a (fX a cI cO cA) o) σ 8 [some (.ref (a b)), some (.int v1), some (.int v2)] []) (v1 : Int32) (v2 : Int32) (σ : zSt) (h : B_X4_numberOfRow_8 b K8 v1 v2 σ = some o) : zV p l e rm_X4_numberOfRow s m args below meth c D 51 a (fX a cI cO cA) 3 (zQi below args s D 51 a (fX a cI cO cA) o) σ 8 [some (.ref (a b)), some (.int v1), some (.int v2)] [] := by
  unfold B_X4_numberOfRow_8 at h
  refine r_iload_n (x := v2) C dX4_numberOfRow_8 rfl ?_
  refine r_aload_n (x := (a b)) C dX4_numberOfRow_9 rfl ?_
  refine gf_X4_38 C hb dX4_numberOfRow_10 h (fun x2 h => ?_)
  refine r_iconst (v := 2) C dX4_numberOfRow_13 (by decide) ?_
  refine r_isub C dX4_numberOfRow_14 ?_
  refine r_icmp_ge (tgt := 38) C dX4_numberOfRow_15 (by decide) h (fun h => ?_) (fun h => ?_)
  · refine r_iload_n (x := v1) C dX4_numberOfRow_38 rfl ?_
    exact r_iret C dX4_numberOfRow_39 h
  · refine r_iload_n (x := v1) C dX4_numberOfRow_18 rfl ?_
    refine r_aload_n (x := (a b)) C dX4_numberOfRow_19 rfl ?_
    refine gf_X4_38 C hb dX4_numberOfRow_20 h (fun x3 h => ?_)
    refine r_imul C dX4_numberOfRow_23 ?_
    refine r_aload_n (x := (a b)) C dX4_numberOfRow_24 rfl ?_
    refine gf_X4_29 C hb dX4_numberOfRow_25 ?_
    refine r_iload_n (x := v2) C dX4_numberOfRow_28 rfl ?_
    refine r_iald (t0 := 0) C (b + 6) (aX_v6 hb) rfl dX4_numberOfRow_29 h (fun x4 h => ?_)
    refine r_iadd C dX4_numberOfRow_30 ?_
    refine r_nm h (fun x5 h => ?_)
    refine r_istore_n (lv' := [some (.ref (a b)), some (.int x5), some (.int v2)]) C dX4_numberOfRow_31 (by decide) rfl rfl ?_
    refine r_gen h (fun x6 ex6 h => ?_)
    refine r_iinc (x := v2) (v := x6) (lv' := [some (.ref (a b)), some (.int x5), some (.int x6)]) C dX4_numberOfRow_32 rfl (by rw [← ex6]; rfl) (by decide) rfl rfl ?_
    clear ex6
    refine r_goto (tgt := 8) C dX4_numberOfRow_35 (by decide) ?_
    exact r_le (lv' := [some (.ref (a b)), some (.int x5), some (.int x6)]) ⟨rfl, rfl, rfl, trivial⟩ (hK8 x5 x6 σ h)
set_option maxRecDepth 20000 in
theorem tL_X4_numberOfRow_8 {p : Program} {l : Launch} {e : Env} {s : State} {m : MethodId} {args : Array Value} {below : List Frame} {meth : Method} {c : Code} {D : va_G} {a : Nat → Nat} {cI cO cA : ClassId} {o : Int32 × zSt} (C : zC p s m args meth c D (ztys cI cO cA) 51 a cX4_numberOfRow 3 RX4 (some .int)) {b : Nat} (hb : b = 10 ∨ b = 27)  (v1 : Int32) (v2 : Int32) (σ : zSt) (h : L_X4_numberOfRow_8 b  v1 v2 σ = some o) : zV p l e rm_X4_numberOfRow s m args below meth c D 51 a (fX a cI cO cA) 3 (zQi below args s D 51 a (fX a cI cO cA) o) σ 8 [some (.ref (a b)), some (.int v1), some (.int v2)] [] := by
  unfold L_X4_numberOfRow_8 at h
  refine zloop_ind (G := fun x => zV p l e rm_X4_numberOfRow s m args below meth c D 51 a (fX a cI cO cA) 3 (zQi below args s D 51 a (fX a cI cO cA) o) x.2.2 8 [some (.ref (a b)), some (.int x.1), some (.int x.2.1)] []) ?_ zFU _ h
  intro rec hr x h
  exact tB_X4_numberOfRow_8 C hb  (fun v1 v2 σ => hr (v1, v2, σ)) _ _ _ h
set_option maxRecDepth 20000 in
theorem c_X4_numberOfRow {l : Launch} {D : va_G} {a : Nat → Nat} {cI cO cA : ClassId} (hinj : ∀ i j, i < 51 → j < 51 → a i = a j → i = j) {b : Nat} (hb : b = 10 ∨ b = 27) {σ : zSt} {o : Int32 × zSt} (h : M_X4_numberOfRow b σ = some o) : zMi l D (ztys cI cO cA) 51 a (fX a cI cO cA) yX4_numberOfRow cX4_numberOfRow 3 (some .int) rm_X4_numberOfRow [.ref (a b)] σ o := by
  unfold M_X4_numberOfRow at h
  refine zmeti (own := RX4) [some (.ref (a b)), none, none] (by decide) rfl hinj (Nat.le_of_ble_eq_true rfl) rfl (fun p e s m args below meth c C => ?_)
  refine r_aload_n (x := (a b)) C dX4_numberOfRow_0 rfl ?_
  refine r_callVv C [] [] (b := b) (by omega) (fX_vine hb) rfl rfl zc_X4_103 zB_X4_strip ⟨rfl, rfl, by decide, by decide⟩ (fun out h => c_X4_strip C.2.2.2.2.2.2.2.1 hb h) rfl rfl (Nat.le_of_ble_eq_true rfl) dX4_numberOfRow_1 h (fun σ1 h => ?_)
  refine r_iconst (v := 0) C dX4_numberOfRow_4 (by decide) ?_
  refine r_istore_n (lv' := [some (.ref (a b)), some (.int (0 : Int32)), none]) C dX4_numberOfRow_5 (by decide) rfl rfl ?_
  refine r_iconst (v := 0) C dX4_numberOfRow_6 (by decide) ?_
  refine r_istore_n (lv' := [some (.ref (a b)), some (.int (0 : Int32)), some (.int (0 : Int32))]) C dX4_numberOfRow_7 (by decide) rfl rfl ?_
  exact r_le (lv' := [some (.ref (a b)), some (.int (0 : Int32)), some (.int (0 : Int32))]) ⟨rfl, rfl, rfl, trivial⟩ (tL_X4_numberOfRow_8 C hb (0 : Int32) (0 : Int32) σ1 h)
/-! VineRows$Vine.twigsApart -/
abbrev rm_X4_twigsApart : Room := { frames := 3, cells := 0, slots := 0, locals := 64 }
def B_X4_twigsApart_54 (b : Nat) (K10 : (Int32 → Int32 → Int32 → zSt → Option (Int32 × zSt))) (v1 : Int32) (v2 : Int32) (v3 : Int32) (σ : zSt) : Option (Int32 × zSt) := znm (v3 + (1 : Int32)) (fun x8 => K10 v1 v2 x8 σ)
def B_X4_twigsApart_10 (b : Nat) (K10 : (Int32 → Int32 → Int32 → zSt → Option (Int32 × zSt))) (v1 : Int32) (v2 : Int32) (v3 : Int32) (σ : zSt) : Option (Int32 × zSt) := znm (σ b 0) (fun x2 => (if (x2 - (1 : Int32)) ≤ v3 then some (v2, σ) else zga (σ (b + 5)) v3 8 (fun x3 => zga (σ (b + 6)) v3 8 (fun x4 => znm (((zon x3) ||| (zon x4))) (fun x5 => (if (v1 &&& x5) = 0 then znm ((v1 ||| x5)) (fun x6 => znm (v2 + (1 : Int32)) (fun x7 => B_X4_twigsApart_54 b K10 x6 x7 v3 σ)) else B_X4_twigsApart_54 b K10 v1 v2 v3 σ))))))
def L_X4_twigsApart_10 (b : Nat) (v1 : Int32) (v2 : Int32) (v3 : Int32) (σ : zSt) : Option (Int32 × zSt) := zloop (fun (rec : Int32 × Int32 × Int32 × zSt → Option (Int32 × zSt)) x => B_X4_twigsApart_10 b  (fun v1 v2 v3 σ => rec (v1, v2, v3, σ)) x.1 x.2.1 x.2.2.1 x.2.2.2) zFU (v1, v2, v3, σ)
def M_X4_twigsApart (b : Nat) (σ : zSt) : Option (Int32 × zSt) := zbv (M_X4_strip b σ) (fun σ1 => L_X4_twigsApart_10 b (0 : Int32) (0 : Int32) (0 : Int32) σ1)
set_option maxRecDepth 20000 in
theorem tB_X4_twigsApart_54 {p : Program} {l : Launch} {e : Env} {s : State} {m : MethodId} {args : Array Value} {below : List Frame} {meth : Method} {c : Code} {D : va_G} {a : Nat → Nat} {cI cO cA : ClassId} {o : Int32 × zSt} (C : zC p s m args meth c D (ztys cI cO cA) 51 a cX4_twigsApart 5 RX4 (some .int)) {b : Nat} (hb : b = 10 ∨ b = 27) {K10 : (Int32 → Int32 → Int32 → zSt → Option (Int32 × zSt))} (hK10 : ∀ (v1 : Int32) (v2 : Int32) (v3 : Int32) (σ : zSt), K10 v1 v2 v3 σ = some o → zV p l e rm_X4_twigsApart s m args below meth c D 51 a (fX a cI cO cA) 5 (zQi below args s D 51 a (fX a cI cO cA) o) σ 10 [some (.ref (a b)), some (.int v1), some (.int v2), some (.int v3), none] []) (v1 : Int32) (v2 : Int32) (v3 : Int32) (σ : zSt) (h : B_X4_twigsApart_54 b K10 v1 v2 v3 σ = some o) : zV p l e rm_X4_twigsApart s m args below meth c D 51 a (fX a cI cO cA) 5 (zQi below args s D 51 a (fX a cI cO cA) o) σ 54 [some (.ref (a b)), some (.int v1), some (.int v2), some (.int v3), none] [] := by
  unfold B_X4_twigsApart_54 at h
  refine r_gen h (fun x8 ex8 h => ?_)
  refine r_iinc (x := v3) (v := x8) (lv' := [some (.ref (a b)), some (.int v1), some (.int v2), some (.int x8), none]) C dX4_twigsApart_54 rfl (by rw [← ex8]; rfl) (by decide) rfl rfl ?_
  clear ex8
  refine r_goto (tgt := 10) C dX4_twigsApart_57 (by decide) ?_
  exact r_le (lv' := [some (.ref (a b)), some (.int v1), some (.int v2), some (.int x8), none]) ⟨rfl, rfl, rfl, rfl, trivial⟩ (hK10 v1 v2 x8 σ h)
set_option maxRecDepth 20000 in
theorem tB_X4_twigsApart_10 {p : Program} {l : Launch} {e : Env} {s : State} {m : MethodId} {args : Array Value} {below : List Frame} {meth : Method} {c : Code} {D : va_G} {a : Nat → Nat} {cI cO cA : ClassId} {o : Int32 × zSt} (C : zC p s m args meth c D (ztys cI cO cA) 51 a cX4_twigsApart 5 RX4 (some .int)) {b : Nat} (hb : b = 10 ∨ b = 27) {K10 : (Int32 → Int32 → Int32 → zSt → Option (Int32 × zSt))} (hK10 : ∀ (v1 : Int32) (v2 : Int32) (v3 : Int32) (σ : zSt), K10 v1 v2 v3 σ = some o → zV p l e rm_X4_twigsApart s m args below meth c D 51 a (fX a cI cO cA) 5 (zQi below args s D 51 a (fX a cI cO cA) o) σ 10 [some (.ref (a b)), some (.int v1), some (.int v2), some (.int v3), none] []) (v1 : Int32) (v2 : Int32) (v3 : Int32) (σ : zSt) (h : B_X4_twigsApart_10 b K10 v1 v2 v3 σ = some o) : zV p l e rm_X4_twigsApart s m args below meth c D 51 a (fX a cI cO cA) 5 (zQi below args s D 51 a (fX a cI cO cA) o) σ 10 [some (.ref (a b)), some (.int v1), some (.int v2), some (.int v3), none] [] := by
  unfold B_X4_twigsApart_10 at h
  refine r_iload_n (x := v3) C dX4_twigsApart_10 rfl ?_
  refine r_aload_n (x := (a b)) C dX4_twigsApart_11 rfl ?_
  refine gf_X4_38 C hb dX4_twigsApart_12 h (fun x2 h => ?_)
  refine r_iconst (v := 1) C dX4_twigsApart_15 (by decide) ?_
  refine r_isub C dX4_twigsApart_16 ?_
  refine r_icmp_ge (tgt := 60) C dX4_twigsApart_17 (by decide) h (fun h => ?_) (fun h => ?_)
  · refine r_iload_n (x := v2) C dX4_twigsApart_60 rfl ?_
    exact r_iret C dX4_twigsApart_61 h
  · refine r_iconst (v := 1) C dX4_twigsApart_20 (by decide) ?_
    refine r_aload_n (x := (a b)) C dX4_twigsApart_21 rfl ?_
    refine gf_X4_26 C hb dX4_twigsApart_22 ?_
    refine r_iload_n (x := v3) C dX4_twigsApart_25 rfl ?_
    refine r_iald (t0 := 0) C (b + 5) (aX_v5 hb) rfl dX4_twigsApart_26 h (fun x3 h => ?_)
    refine r_ishl C dX4_twigsApart_27 ?_
    refine r_iconst (v := 1) C dX4_twigsApart_28 (by decide) ?_
    refine r_aload_n (x := (a b)) C dX4_twigsApart_29 rfl ?_
    refine gf_X4_29 C hb dX4_twigsApart_30 ?_
    refine r_iload_n (x := v3) C dX4_twigsApart_33 rfl ?_
    refine r_iald (t0 := 0) C (b + 6) (aX_v6 hb) rfl dX4_twigsApart_34 h (fun x4 h => ?_)
    refine r_ishl C dX4_twigsApart_35 ?_
    refine r_ior C dX4_twigsApart_36 ?_
    refine r_nm h (fun x5 h => ?_)
    refine r_istore (lv' := [some (.ref (a b)), some (.int v1), some (.int v2), some (.int v3), some (.int x5)]) C dX4_twigsApart_37 (by decide) rfl rfl ?_
    refine r_iload_n (x := v1) C dX4_twigsApart_39 rfl ?_
    refine r_iload (x := x5) C dX4_twigsApart_40 rfl ?_
    refine r_iand C dX4_twigsApart_42 ?_
    refine r_if_ne (tgt := 54) C dX4_twigsApart_43 (by decide) h (fun h => ?_) (fun h => ?_)
    · exact r_le (lv' := [some (.ref (a b)), some (.int v1), some (.int v2), some (.int v3), none]) ⟨rfl, rfl, rfl, rfl, trivial⟩ (tB_X4_twigsApart_54 C hb (K10 := K10) hK10 v1 v2 v3 σ h)
    · refine r_iload_n (x := v1) C dX4_twigsApart_46 rfl ?_
      refine r_iload (x := x5) C dX4_twigsApart_47 rfl ?_
      refine r_ior C dX4_twigsApart_49 ?_
      refine r_nm h (fun x6 h => ?_)
      refine r_istore_n (lv' := [some (.ref (a b)), some (.int x6), some (.int v2), some (.int v3), some (.int x5)]) C dX4_twigsApart_50 (by decide) rfl rfl ?_
      refine r_gen h (fun x7 ex7 h => ?_)
      refine r_iinc (x := v2) (v := x7) (lv' := [some (.ref (a b)), some (.int x6), some (.int x7), some (.int v3), some (.int x5)]) C dX4_twigsApart_51 rfl (by rw [← ex7]; rfl) (by decide) rfl rfl ?_
      clear ex7
      exact r_le (lv' := [some (.ref (a b)), some (.int x6), some (.int x7), some (.int v3), none]) ⟨rfl, rfl, rfl, rfl, trivial⟩ (tB_X4_twigsApart_54 C hb (K10 := K10) hK10 x6 x7 v3 σ h)
set_option maxRecDepth 20000 in
theorem tL_X4_twigsApart_10 {p : Program} {l : Launch} {e : Env} {s : State} {m : MethodId} {args : Array Value} {below : List Frame} {meth : Method} {c : Code} {D : va_G} {a : Nat → Nat} {cI cO cA : ClassId} {o : Int32 × zSt} (C : zC p s m args meth c D (ztys cI cO cA) 51 a cX4_twigsApart 5 RX4 (some .int)) {b : Nat} (hb : b = 10 ∨ b = 27)  (v1 : Int32) (v2 : Int32) (v3 : Int32) (σ : zSt) (h : L_X4_twigsApart_10 b  v1 v2 v3 σ = some o) : zV p l e rm_X4_twigsApart s m args below meth c D 51 a (fX a cI cO cA) 5 (zQi below args s D 51 a (fX a cI cO cA) o) σ 10 [some (.ref (a b)), some (.int v1), some (.int v2), some (.int v3), none] [] := by
  unfold L_X4_twigsApart_10 at h
  refine zloop_ind (G := fun x => zV p l e rm_X4_twigsApart s m args below meth c D 51 a (fX a cI cO cA) 5 (zQi below args s D 51 a (fX a cI cO cA) o) x.2.2.2 10 [some (.ref (a b)), some (.int x.1), some (.int x.2.1), some (.int x.2.2.1), none] []) ?_ zFU _ h
  intro rec hr x h
  exact tB_X4_twigsApart_10 C hb  (fun v1 v2 v3 σ => hr (v1, v2, v3, σ)) _ _ _ _ h
set_option maxRecDepth 20000 in
theorem c_X4_twigsApart {l : Launch} {D : va_G} {a : Nat → Nat} {cI cO cA : ClassId} (hinj : ∀ i j, i < 51 → j < 51 → a i = a j → i = j) {b : Nat} (hb : b = 10 ∨ b = 27) {σ : zSt} {o : Int32 × zSt} (h : M_X4_twigsApart b σ = some o) : zMi l D (ztys cI cO cA) 51 a (fX a cI cO cA) yX4_twigsApart cX4_twigsApart 5 (some .int) rm_X4_twigsApart [.ref (a b)] σ o := by
  unfold M_X4_twigsApart at h
  refine zmeti (own := RX4) [some (.ref (a b)), none, none, none, none] (by decide) rfl hinj (Nat.le_of_ble_eq_true rfl) rfl (fun p e s m args below meth c C => ?_)
  refine r_aload_n (x := (a b)) C dX4_twigsApart_0 rfl ?_
  refine r_callVv C [] [] (b := b) (by omega) (fX_vine hb) rfl rfl zc_X4_103 zB_X4_strip ⟨rfl, rfl, by decide, by decide⟩ (fun out h => c_X4_strip C.2.2.2.2.2.2.2.1 hb h) rfl rfl (Nat.le_of_ble_eq_true rfl) dX4_twigsApart_1 h (fun σ1 h => ?_)
  refine r_iconst (v := 0) C dX4_twigsApart_4 (by decide) ?_
  refine r_istore_n (lv' := [some (.ref (a b)), some (.int (0 : Int32)), none, none, none]) C dX4_twigsApart_5 (by decide) rfl rfl ?_
  refine r_iconst (v := 0) C dX4_twigsApart_6 (by decide) ?_
  refine r_istore_n (lv' := [some (.ref (a b)), some (.int (0 : Int32)), some (.int (0 : Int32)), none, none]) C dX4_twigsApart_7 (by decide) rfl rfl ?_
  refine r_iconst (v := 0) C dX4_twigsApart_8 (by decide) ?_
  refine r_istore_n (lv' := [some (.ref (a b)), some (.int (0 : Int32)), some (.int (0 : Int32)), some (.int (0 : Int32)), none]) C dX4_twigsApart_9 (by decide) rfl rfl ?_
  exact r_le (lv' := [some (.ref (a b)), some (.int (0 : Int32)), some (.int (0 : Int32)), some (.int (0 : Int32)), none]) ⟨rfl, rfl, rfl, rfl, trivial⟩ (tL_X4_twigsApart_10 C hb (0 : Int32) (0 : Int32) (0 : Int32) σ1 h)
/-! VineRows$Vine.bestApart -/
abbrev rm_X4_bestApart : Room := { frames := 3, cells := 0, slots := 0, locals := 64 }
def B_X4_bestApart_50 (b : Nat) (K50 : (Int32 → Int32 → zSt → Option (Int32 × zSt))) (v1 : Int32) (v2 : Int32) (σ : zSt) : Option (Int32 × zSt) := znm (σ b 0) (fun x8 => (if (x8 - (1 : Int32)) ≤ v2 then zga (σ (b + 7)) v1 8 (fun x9 => zga (σ (b + 8)) v1 8 (fun x10 => some ((if x9 < x10 then x10 else x9), σ))) else zga (σ (b + 5)) v2 8 (fun x11 => zga (σ (b + 6)) v2 8 (fun x12 => zga (σ (b + 7)) x12 8 (fun x13 => zga (σ (b + 8)) x11 8 (fun x14 => zgs σ (b + 7) x12 8 (x13 + x14) (fun σ15 => zga (σ15 (b + 8)) x12 8 (fun x16 => zga (σ15 (b + 7)) x11 8 (fun x17 => zga (σ15 (b + 8)) x11 8 (fun x18 => zgs σ15 (b + 8) x12 8 (x16 + (if x17 < x18 then x18 else x17)) (fun σ19 => znm (v2 + (1 : Int32)) (fun x20 => K50 x12 x20 σ19))))))))))))
def L_X4_bestApart_50 (b : Nat) (v1 : Int32) (v2 : Int32) (σ : zSt) : Option (Int32 × zSt) := zloop (fun (rec : Int32 × Int32 × zSt → Option (Int32 × zSt)) x => B_X4_bestApart_50 b  (fun v1 v2 σ => rec (v1, v2, σ)) x.1 x.2.1 x.2.2) zFU (v1, v2, σ)
def B_X4_bestApart_6 (b : Nat) (K6 : (Int32 → zSt → Option (Int32 × zSt))) (v1 : Int32) (σ : zSt) : Option (Int32 × zSt) := znm (σ b 0) (fun x2 => (if x2 ≤ v1 then L_X4_bestApart_50 b (0 : Int32) (0 : Int32) σ else zbd (M_X4_worth b v1 σ) (fun x4 σ3 => zgs σ3 (b + 7) v1 8 (((256 : Int32) * x4) - (zon v1)) (fun σ5 => zgs σ5 (b + 8) v1 8 (0 : Int32) (fun σ6 => znm (v1 + (1 : Int32)) (fun x7 => K6 x7 σ6))))))
def L_X4_bestApart_6 (b : Nat) (v1 : Int32) (σ : zSt) : Option (Int32 × zSt) := zloop (fun (rec : Int32 × zSt → Option (Int32 × zSt)) x => B_X4_bestApart_6 b  (fun v1 σ => rec (v1, σ)) x.1 x.2) zFU (v1, σ)
def M_X4_bestApart (b : Nat) (σ : zSt) : Option (Int32 × zSt) := zbv (M_X4_strip b σ) (fun σ1 => L_X4_bestApart_6 b (0 : Int32) σ1)
set_option maxRecDepth 20000 in
theorem tB_X4_bestApart_50 {p : Program} {l : Launch} {e : Env} {s : State} {m : MethodId} {args : Array Value} {below : List Frame} {meth : Method} {c : Code} {D : va_G} {a : Nat → Nat} {cI cO cA : ClassId} {o : Int32 × zSt} (C : zC p s m args meth c D (ztys cI cO cA) 51 a cX4_bestApart 4 RX4 (some .int)) {b : Nat} (hb : b = 10 ∨ b = 27) {K50 : (Int32 → Int32 → zSt → Option (Int32 × zSt))} (hK50 : ∀ (v1 : Int32) (v2 : Int32) (σ : zSt), K50 v1 v2 σ = some o → zV p l e rm_X4_bestApart s m args below meth c D 51 a (fX a cI cO cA) 4 (zQi below args s D 51 a (fX a cI cO cA) o) σ 50 [some (.ref (a b)), some (.int v1), some (.int v2), none] []) (v1 : Int32) (v2 : Int32) (σ : zSt) (h : B_X4_bestApart_50 b K50 v1 v2 σ = some o) : zV p l e rm_X4_bestApart s m args below meth c D 51 a (fX a cI cO cA) 4 (zQi below args s D 51 a (fX a cI cO cA) o) σ 50 [some (.ref (a b)), some (.int v1), some (.int v2), none] [] := by
  unfold B_X4_bestApart_50 at h
  refine r_iload_n (x := v2) C dX4_bestApart_50 rfl ?_
  refine r_aload_n (x := (a b)) C dX4_bestApart_51 rfl ?_
  refine gf_X4_38 C hb dX4_bestApart_52 h (fun x8 h => ?_)
  refine r_iconst (v := 1) C dX4_bestApart_55 (by decide) ?_
  refine r_isub C dX4_bestApart_56 ?_
  refine r_icmp_ge (tgt := 119) C dX4_bestApart_57 (by decide) h (fun h => ?_) (fun h => ?_)
  · refine r_aload_n (x := (a b)) C dX4_bestApart_119 rfl ?_
    refine gf_X4_32 C hb dX4_bestApart_120 ?_
    refine r_iload_n (x := v1) C dX4_bestApart_123 rfl ?_
    refine r_iald (t0 := 0) C (b + 7) (aX_v7 hb) rfl dX4_bestApart_124 h (fun x9 h => ?_)
    refine r_aload_n (x := (a b)) C dX4_bestApart_125 rfl ?_
    refine gf_X4_35 C hb dX4_bestApart_126 ?_
    refine r_iload_n (x := v1) C dX4_bestApart_129 rfl ?_
    refine r_iald (t0 := 0) C (b + 8) (aX_v8 hb) rfl dX4_bestApart_130 h (fun x10 h => ?_)
    refine r_mmax C ⟨zw91, zw80, zw77, zw81⟩ (by decide) (Nat.le_of_ble_eq_true rfl) dX4_bestApart_131 ?_
    exact r_iret C dX4_bestApart_134 h
  · refine r_aload_n (x := (a b)) C dX4_bestApart_60 rfl ?_
    refine gf_X4_26 C hb dX4_bestApart_61 ?_
    refine r_iload_n (x := v2) C dX4_bestApart_64 rfl ?_
    refine r_iald (t0 := 0) C (b + 5) (aX_v5 hb) rfl dX4_bestApart_65 h (fun x11 h => ?_)
    refine r_istore_n (lv' := [some (.ref (a b)), some (.int v1), some (.int v2), some (.int x11)]) C dX4_bestApart_66 (by decide) rfl rfl ?_
    refine r_aload_n (x := (a b)) C dX4_bestApart_67 rfl ?_
    refine gf_X4_29 C hb dX4_bestApart_68 ?_
    refine r_iload_n (x := v2) C dX4_bestApart_71 rfl ?_
    refine r_iald (t0 := 0) C (b + 6) (aX_v6 hb) rfl dX4_bestApart_72 h (fun x12 h => ?_)
    refine r_istore_n (lv' := [some (.ref (a b)), some (.int x12), some (.int v2), some (.int x11)]) C dX4_bestApart_73 (by decide) rfl rfl ?_
    refine r_aload_n (x := (a b)) C dX4_bestApart_74 rfl ?_
    refine gf_X4_32 C hb dX4_bestApart_75 ?_
    refine r_iload_n (x := x12) C dX4_bestApart_78 rfl ?_
    refine r_dup2 C dX4_bestApart_79 rfl rfl ?_
    refine r_iald (t0 := 0) C (b + 7) (aX_v7 hb) rfl dX4_bestApart_80 h (fun x13 h => ?_)
    refine r_aload_n (x := (a b)) C dX4_bestApart_81 rfl ?_
    refine gf_X4_35 C hb dX4_bestApart_82 ?_
    refine r_iload_n (x := x11) C dX4_bestApart_85 rfl ?_
    refine r_iald (t0 := 0) C (b + 8) (aX_v8 hb) rfl dX4_bestApart_86 h (fun x14 h => ?_)
    refine r_iadd C dX4_bestApart_87 ?_
    refine r_iast (t0 := 0) C (b + 7) (aX_v7 hb) rfl dX4_bestApart_88 h (fun σ15 h => ?_)
    refine r_aload_n (x := (a b)) C dX4_bestApart_89 rfl ?_
    refine gf_X4_35 C hb dX4_bestApart_90 ?_
    refine r_iload_n (x := x12) C dX4_bestApart_93 rfl ?_
    refine r_dup2 C dX4_bestApart_94 rfl rfl ?_
    refine r_iald (t0 := 0) C (b + 8) (aX_v8 hb) rfl dX4_bestApart_95 h (fun x16 h => ?_)
    refine r_aload_n (x := (a b)) C dX4_bestApart_96 rfl ?_
    refine gf_X4_32 C hb dX4_bestApart_97 ?_
    refine r_iload_n (x := x11) C dX4_bestApart_100 rfl ?_
    refine r_iald (t0 := 0) C (b + 7) (aX_v7 hb) rfl dX4_bestApart_101 h (fun x17 h => ?_)
    refine r_aload_n (x := (a b)) C dX4_bestApart_102 rfl ?_
    refine gf_X4_35 C hb dX4_bestApart_103 ?_
    refine r_iload_n (x := x11) C dX4_bestApart_106 rfl ?_
    refine r_iald (t0 := 0) C (b + 8) (aX_v8 hb) rfl dX4_bestApart_107 h (fun x18 h => ?_)
    refine r_mmax C ⟨zw91, zw80, zw77, zw81⟩ (by decide) (Nat.le_of_ble_eq_true rfl) dX4_bestApart_108 ?_
    refine r_iadd C dX4_bestApart_111 ?_
    refine r_iast (t0 := 0) C (b + 8) (aX_v8 hb) rfl dX4_bestApart_112 h (fun σ19 h => ?_)
    refine r_gen h (fun x20 ex20 h => ?_)
    refine r_iinc (x := v2) (v := x20) (lv' := [some (.ref (a b)), some (.int x12), some (.int x20), some (.int x11)]) C dX4_bestApart_113 rfl (by rw [← ex20]; rfl) (by decide) rfl rfl ?_
    clear ex20
    refine r_goto (tgt := 50) C dX4_bestApart_116 (by decide) ?_
    exact r_le (lv' := [some (.ref (a b)), some (.int x12), some (.int x20), none]) ⟨rfl, rfl, rfl, trivial⟩ (hK50 x12 x20 σ19 h)
set_option maxRecDepth 20000 in
theorem tL_X4_bestApart_50 {p : Program} {l : Launch} {e : Env} {s : State} {m : MethodId} {args : Array Value} {below : List Frame} {meth : Method} {c : Code} {D : va_G} {a : Nat → Nat} {cI cO cA : ClassId} {o : Int32 × zSt} (C : zC p s m args meth c D (ztys cI cO cA) 51 a cX4_bestApart 4 RX4 (some .int)) {b : Nat} (hb : b = 10 ∨ b = 27)  (v1 : Int32) (v2 : Int32) (σ : zSt) (h : L_X4_bestApart_50 b  v1 v2 σ = some o) : zV p l e rm_X4_bestApart s m args below meth c D 51 a (fX a cI cO cA) 4 (zQi below args s D 51 a (fX a cI cO cA) o) σ 50 [some (.ref (a b)), some (.int v1), some (.int v2), none] [] := by
  unfold L_X4_bestApart_50 at h
  refine zloop_ind (G := fun x => zV p l e rm_X4_bestApart s m args below meth c D 51 a (fX a cI cO cA) 4 (zQi below args s D 51 a (fX a cI cO cA) o) x.2.2 50 [some (.ref (a b)), some (.int x.1), some (.int x.2.1), none] []) ?_ zFU _ h
  intro rec hr x h
  exact tB_X4_bestApart_50 C hb  (fun v1 v2 σ => hr (v1, v2, σ)) _ _ _ h
set_option maxRecDepth 20000 in
theorem tB_X4_bestApart_6 {p : Program} {l : Launch} {e : Env} {s : State} {m : MethodId} {args : Array Value} {below : List Frame} {meth : Method} {c : Code} {D : va_G} {a : Nat → Nat} {cI cO cA : ClassId} {o : Int32 × zSt} (C : zC p s m args meth c D (ztys cI cO cA) 51 a cX4_bestApart 4 RX4 (some .int)) {b : Nat} (hb : b = 10 ∨ b = 27) {K6 : (Int32 → zSt → Option (Int32 × zSt))} (hK6 : ∀ (v1 : Int32) (σ : zSt), K6 v1 σ = some o → zV p l e rm_X4_bestApart s m args below meth c D 51 a (fX a cI cO cA) 4 (zQi below args s D 51 a (fX a cI cO cA) o) σ 6 [some (.ref (a b)), some (.int v1), none, none] []) (v1 : Int32) (σ : zSt) (h : B_X4_bestApart_6 b K6 v1 σ = some o) : zV p l e rm_X4_bestApart s m args below meth c D 51 a (fX a cI cO cA) 4 (zQi below args s D 51 a (fX a cI cO cA) o) σ 6 [some (.ref (a b)), some (.int v1), none, none] [] := by
  unfold B_X4_bestApart_6 at h
  refine r_iload_n (x := v1) C dX4_bestApart_6 rfl ?_
  refine r_aload_n (x := (a b)) C dX4_bestApart_7 rfl ?_
  refine gf_X4_38 C hb dX4_bestApart_8 h (fun x2 h => ?_)
  refine r_icmp_ge (tgt := 46) C dX4_bestApart_11 (by decide) h (fun h => ?_) (fun h => ?_)
  · refine r_iconst (v := 0) C dX4_bestApart_46 (by decide) ?_
    refine r_istore_n (lv' := [some (.ref (a b)), some (.int (0 : Int32)), none, none]) C dX4_bestApart_47 (by decide) rfl rfl ?_
    refine r_iconst (v := 0) C dX4_bestApart_48 (by decide) ?_
    refine r_istore_n (lv' := [some (.ref (a b)), some (.int (0 : Int32)), some (.int (0 : Int32)), none]) C dX4_bestApart_49 (by decide) rfl rfl ?_
    exact r_le (lv' := [some (.ref (a b)), some (.int (0 : Int32)), some (.int (0 : Int32)), none]) ⟨rfl, rfl, rfl, trivial⟩ (tL_X4_bestApart_50 C hb (0 : Int32) (0 : Int32) σ h)
  · refine r_aload_n (x := (a b)) C dX4_bestApart_14 rfl ?_
    refine gf_X4_32 C hb dX4_bestApart_15 ?_
    refine r_iload_n (x := v1) C dX4_bestApart_18 rfl ?_
    refine r_sipush (v := 256) C dX4_bestApart_19 (by decide) ?_
    refine r_aload_n (x := (a b)) C dX4_bestApart_22 rfl ?_
    refine r_iload_n (x := v1) C dX4_bestApart_23 rfl ?_
    refine r_callVi C [.int v1] [.int (256 : Int32), .int v1, .ref (a (b + 7))] (b := b) (by omega) (fX_vine hb) rfl rfl zc_X4_52 zB_X4_worth ⟨rfl, rfl, by decide, by decide⟩ (fun out h => c_X4_worth C.2.2.2.2.2.2.2.1 hb h) rfl rfl (Nat.le_of_ble_eq_true rfl) dX4_bestApart_24 h (fun x4 σ3 h => ?_)
    refine r_imul C dX4_bestApart_27 ?_
    refine r_iconst (v := 1) C dX4_bestApart_28 (by decide) ?_
    refine r_iload_n (x := v1) C dX4_bestApart_29 rfl ?_
    refine r_ishl C dX4_bestApart_30 ?_
    refine r_isub C dX4_bestApart_31 ?_
    refine r_iast (t0 := 0) C (b + 7) (aX_v7 hb) rfl dX4_bestApart_32 h (fun σ5 h => ?_)
    refine r_aload_n (x := (a b)) C dX4_bestApart_33 rfl ?_
    refine gf_X4_35 C hb dX4_bestApart_34 ?_
    refine r_iload_n (x := v1) C dX4_bestApart_37 rfl ?_
    refine r_iconst (v := 0) C dX4_bestApart_38 (by decide) ?_
    refine r_iast (t0 := 0) C (b + 8) (aX_v8 hb) rfl dX4_bestApart_39 h (fun σ6 h => ?_)
    refine r_gen h (fun x7 ex7 h => ?_)
    refine r_iinc (x := v1) (v := x7) (lv' := [some (.ref (a b)), some (.int x7), none, none]) C dX4_bestApart_40 rfl (by rw [← ex7]; rfl) (by decide) rfl rfl ?_
    clear ex7
    refine r_goto (tgt := 6) C dX4_bestApart_43 (by decide) ?_
    exact r_le (lv' := [some (.ref (a b)), some (.int x7), none, none]) ⟨rfl, rfl, trivial⟩ (hK6 x7 σ6 h)
set_option maxRecDepth 20000 in
theorem tL_X4_bestApart_6 {p : Program} {l : Launch} {e : Env} {s : State} {m : MethodId} {args : Array Value} {below : List Frame} {meth : Method} {c : Code} {D : va_G} {a : Nat → Nat} {cI cO cA : ClassId} {o : Int32 × zSt} (C : zC p s m args meth c D (ztys cI cO cA) 51 a cX4_bestApart 4 RX4 (some .int)) {b : Nat} (hb : b = 10 ∨ b = 27)  (v1 : Int32) (σ : zSt) (h : L_X4_bestApart_6 b  v1 σ = some o) : zV p l e rm_X4_bestApart s m args below meth c D 51 a (fX a cI cO cA) 4 (zQi below args s D 51 a (fX a cI cO cA) o) σ 6 [some (.ref (a b)), some (.int v1), none, none] [] := by
  unfold L_X4_bestApart_6 at h
  refine zloop_ind (G := fun x => zV p l e rm_X4_bestApart s m args below meth c D 51 a (fX a cI cO cA) 4 (zQi below args s D 51 a (fX a cI cO cA) o) x.2 6 [some (.ref (a b)), some (.int x.1), none, none] []) ?_ zFU _ h
  intro rec hr x h
  exact tB_X4_bestApart_6 C hb  (fun v1 σ => hr (v1, σ)) _ _ h
set_option maxRecDepth 20000 in
theorem c_X4_bestApart {l : Launch} {D : va_G} {a : Nat → Nat} {cI cO cA : ClassId} (hinj : ∀ i j, i < 51 → j < 51 → a i = a j → i = j) {b : Nat} (hb : b = 10 ∨ b = 27) {σ : zSt} {o : Int32 × zSt} (h : M_X4_bestApart b σ = some o) : zMi l D (ztys cI cO cA) 51 a (fX a cI cO cA) yX4_bestApart cX4_bestApart 4 (some .int) rm_X4_bestApart [.ref (a b)] σ o := by
  unfold M_X4_bestApart at h
  refine zmeti (own := RX4) [some (.ref (a b)), none, none, none] (by decide) rfl hinj (Nat.le_of_ble_eq_true rfl) rfl (fun p e s m args below meth c C => ?_)
  refine r_aload_n (x := (a b)) C dX4_bestApart_0 rfl ?_
  refine r_callVv C [] [] (b := b) (by omega) (fX_vine hb) rfl rfl zc_X4_103 zB_X4_strip ⟨rfl, rfl, by decide, by decide⟩ (fun out h => c_X4_strip C.2.2.2.2.2.2.2.1 hb h) rfl rfl (Nat.le_of_ble_eq_true rfl) dX4_bestApart_1 h (fun σ1 h => ?_)
  refine r_iconst (v := 0) C dX4_bestApart_4 (by decide) ?_
  refine r_istore_n (lv' := [some (.ref (a b)), some (.int (0 : Int32)), none, none]) C dX4_bestApart_5 (by decide) rfl rfl ?_
  exact r_le (lv' := [some (.ref (a b)), some (.int (0 : Int32)), none, none]) ⟨rfl, rfl, trivial⟩ (tL_X4_bestApart_6 C hb (0 : Int32) σ1 h)
/-! VineRows.faulted -/
abbrev rm_X5_faulted : Room := { frames := 0, cells := 0, slots := 0, locals := 0 }
def M_X5_faulted (p1 : Int32) (σ : zSt) : Option (Int32 × zSt) := znm (zsu σ 0 (upd (σ 0) 7 p1)) (fun σ1 => some (((-10 : Int32) - p1), σ1))
set_option maxRecDepth 20000 in
theorem c_X5_faulted {l : Launch} {D : va_G} {a : Nat → Nat} {cI cO cA : ClassId} (hinj : ∀ i j, i < 51 → j < 51 → a i = a j → i = j) {p1 : Int32} {σ : zSt} {o : Int32 × zSt} (h : M_X5_faulted p1 σ = some o) : zMi l D (ztys cI cO cA) 51 a (fX a cI cO cA) yX5_faulted cX5_faulted 2 (some .int) rm_X5_faulted [.ref (a 0), .int p1] σ o := by
  unfold M_X5_faulted at h
  refine zmeti (own := RX5) [some (.ref (a 0)), some (.int p1)] (by decide) rfl hinj (Nat.le_of_ble_eq_true rfl) rfl (fun p e s m args below meth c C => ?_)
  refine r_aload_n (x := (a 0)) C dX5_faulted_0 rfl ?_
  refine r_iload_n (x := p1) C dX5_faulted_1 rfl ?_
  refine pf_X5_42 C dX5_faulted_2 h (fun σ1 h => ?_)
  refine r_bipush (v := -10) C dX5_faulted_5 (by decide) ?_
  refine r_iload_n (x := p1) C dX5_faulted_7 rfl ?_
  refine r_isub C dX5_faulted_8 ?_
  exact r_iret C dX5_faulted_9 h
/-! VineRows.isLane -/
abbrev rm_X5_isLane : Room := { frames := 0, cells := 0, slots := 0, locals := 0 }
def M_X5_isLane (p1 : Int32) (σ : zSt) : Option (Int32 × zSt) := (if p1 < 0 then zgz (0 : Int32) σ else (if (2 : Int32) < p1 then zgz (0 : Int32) σ else zgz (1 : Int32) σ))
set_option maxRecDepth 20000 in
theorem c_X5_isLane {l : Launch} {D : va_G} {a : Nat → Nat} {cI cO cA : ClassId} (hinj : ∀ i j, i < 51 → j < 51 → a i = a j → i = j) {p1 : Int32} {σ : zSt} {o : Int32 × zSt} (h : M_X5_isLane p1 σ = some o) : zMi l D (ztys cI cO cA) 51 a (fX a cI cO cA) yX5_isLane cX5_isLane 1 (some .boolean) rm_X5_isLane [.int p1] σ o := by
  unfold M_X5_isLane at h
  refine zmeti (own := RX5) [some (.int p1)] (by decide) rfl hinj (Nat.le_of_ble_eq_true rfl) rfl (fun p e s m args below meth c C => ?_)
  refine r_iload_n (x := p1) C dX5_isLane_0 rfl ?_
  refine r_if_lt (tgt := 13) C dX5_isLane_1 (by decide) h (fun h => ?_) (fun h => ?_)
  · refine r_iconst (v := 0) C dX5_isLane_13 (by decide) ?_
    exact r_zret C dX5_isLane_14 h
  · refine r_iload_n (x := p1) C dX5_isLane_4 rfl ?_
    refine r_iconst (v := 2) C dX5_isLane_5 (by decide) ?_
    refine r_icmp_gt (tgt := 13) C dX5_isLane_6 (by decide) h (fun h => ?_) (fun h => ?_)
    · refine r_iconst (v := 0) C dX5_isLane_13 (by decide) ?_
      exact r_zret C dX5_isLane_14 h
    · refine r_iconst (v := 1) C dX5_isLane_9 (by decide) ?_
      refine r_goto (tgt := 14) C dX5_isLane_10 (by decide) ?_
      exact r_zret C dX5_isLane_14 h
/-! VineRows.isSheet -/
abbrev rm_X5_isSheet : Room := { frames := 0, cells := 0, slots := 0, locals := 0 }
def M_X5_isSheet (p1 : Int32) (σ : zSt) : Option (Int32 × zSt) := (if p1 < 0 then zgz (0 : Int32) σ else (if (4 : Int32) ≤ p1 then zgz (0 : Int32) σ else zgz (1 : Int32) σ))
set_option maxRecDepth 20000 in
theorem c_X5_isSheet {l : Launch} {D : va_G} {a : Nat → Nat} {cI cO cA : ClassId} (hinj : ∀ i j, i < 51 → j < 51 → a i = a j → i = j) {p1 : Int32} {σ : zSt} {o : Int32 × zSt} (h : M_X5_isSheet p1 σ = some o) : zMi l D (ztys cI cO cA) 51 a (fX a cI cO cA) yX5_isSheet cX5_isSheet 1 (some .boolean) rm_X5_isSheet [.int p1] σ o := by
  unfold M_X5_isSheet at h
  refine zmeti (own := RX5) [some (.int p1)] (by decide) rfl hinj (Nat.le_of_ble_eq_true rfl) rfl (fun p e s m args below meth c C => ?_)
  refine r_iload_n (x := p1) C dX5_isSheet_0 rfl ?_
  refine r_if_lt (tgt := 13) C dX5_isSheet_1 (by decide) h (fun h => ?_) (fun h => ?_)
  · refine r_iconst (v := 0) C dX5_isSheet_13 (by decide) ?_
    exact r_zret C dX5_isSheet_14 h
  · refine r_iload_n (x := p1) C dX5_isSheet_4 rfl ?_
    refine r_iconst (v := 4) C dX5_isSheet_5 (by decide) ?_
    refine r_icmp_ge (tgt := 13) C dX5_isSheet_6 (by decide) h (fun h => ?_) (fun h => ?_)
    · refine r_iconst (v := 0) C dX5_isSheet_13 (by decide) ?_
      exact r_zret C dX5_isSheet_14 h
    · refine r_iconst (v := 1) C dX5_isSheet_9 (by decide) ?_
      refine r_goto (tgt := 14) C dX5_isSheet_10 (by decide) ?_
      exact r_zret C dX5_isSheet_14 h
/-! VineRows.vine -/
abbrev rm_X5_vine : Room := { frames := 3, cells := 0, slots := 0, locals := 69 }
def B_X5_vine_72 (p1 : Int32) (p2 : Int32) (p3 : Int32) (p4 : Int32) (v5 : Nat) (v6 : Int32) (σ : zSt) : Option (Int32 × zSt) := (if v6 = 0 then zbd (M_X3_firstFault v5 p3 p4 σ) (fun x12 σ11 => (if x12 = (-9 : Int32) then zbv (M_X4_grow 10 v5 p3 σ11) (fun σ13 => znm (zsu σ13 0 (upd (σ13 0) 5 (0 : Int32))) (fun σ14 => znm (zsu σ14 47 (upd (σ14 47) 0 (0 : Int32))) (fun σ15 => znm (σ15 10 0) (fun x16 => some (x16, σ15))))) else some (((-100 : Int32) - x12), σ11))) else zbd (M_X5_faulted v6 σ) (fun x18 σ17 => some (x18, σ17)))
def B_X5_vine_53 (p1 : Int32) (p2 : Int32) (p3 : Int32) (p4 : Int32) (v5 : Nat) (v6 : Int32) (σ : zSt) : Option (Int32 × zSt) := (if v6 = 0 then zbd (M_X2_has v5 p3 p4 σ) (fun x10 σ9 => (if x10 = 0 then B_X5_vine_72 p1 p2 p3 p4 v5 (3 : Int32) σ9 else B_X5_vine_72 p1 p2 p3 p4 v5 v6 σ9)) else B_X5_vine_72 p1 p2 p3 p4 v5 v6 σ)
def M_X5_vine (p1 : Int32) (p2 : Int32) (p3 : Int32) (p4 : Int32) (σ : zSt) : Option (Int32 × zSt) := znm (zsu σ 0 (upd (σ 0) 7 (0 : Int32))) (fun σ1 => zbd (M_X5_isSheet p1 σ1) (fun x3 σ2 => (if x3 = 0 then some ((-1 : Int32), σ2) else zbd (M_X5_isLane p2 σ2) (fun x5 σ4 => (if x5 = 0 then some ((-2 : Int32), σ4) else zgr p1 4 2 (fun q6 => zbd (M_X2_faultAs q6 p2 σ4) (fun x8 σ7 => (if x8 = 0 then (if 0 ≤ p4 then B_X5_vine_53 p1 p2 p3 p4 q6 x8 σ7 else B_X5_vine_53 p1 p2 p3 p4 q6 (4 : Int32) σ7) else B_X5_vine_53 p1 p2 p3 p4 q6 x8 σ7))))))))
set_option maxRecDepth 20000 in
theorem tB_X5_vine_72 {p : Program} {l : Launch} {e : Env} {s : State} {m : MethodId} {args : Array Value} {below : List Frame} {meth : Method} {c : Code} {D : va_G} {a : Nat → Nat} {cI cO cA : ClassId} {o : Int32 × zSt} (C : zC p s m args meth c D (ztys cI cO cA) 51 a cX5_vine 8 RX5 (some .int)) {p1 : Int32} {p2 : Int32} {p3 : Int32} {p4 : Int32}  (v5 : Nat) (v6 : Int32) (hv5 : 2 ≤ v5 ∧ v5 < 6) (σ : zSt) (h : B_X5_vine_72 p1 p2 p3 p4  v5 v6 σ = some o) : zV p l e rm_X5_vine s m args below meth c D 51 a (fX a cI cO cA) 8 (zQi below args s D 51 a (fX a cI cO cA) o) σ 72 [some (.ref (a 0)), none, none, some (.int p3), some (.int p4), some (.ref (a v5)), some (.int v6), none] [] := by
  unfold B_X5_vine_72 at h
  refine r_iload (x := v6) C dX5_vine_72 rfl ?_
  refine r_if_eq (tgt := 84) C dX5_vine_74 (by decide) h (fun h => ?_) (fun h => ?_)
  · refine r_aload (x := (a v5)) C dX5_vine_84 rfl ?_
    refine r_iload_n (x := p3) C dX5_vine_86 rfl ?_
    refine r_iload (x := p4) C dX5_vine_87 rfl ?_
    refine r_callSi C [.ref (a v5), .int p3, .int p4] [] zc_X5_64 zB_X3_firstFault ⟨rfl, rfl, by decide, by decide⟩ (fun out h => c_X3_firstFault C.2.2.2.2.2.2.2.1 hv5 h) rfl rfl (Nat.le_of_ble_eq_true rfl) dX5_vine_89 h (fun x12 σ11 h => ?_)
    refine r_istore (lv' := [some (.ref (a 0)), none, none, some (.int p3), some (.int p4), some (.ref (a v5)), some (.int v6), some (.int x12)]) C dX5_vine_92 (by decide) rfl rfl ?_
    refine r_iload (x := x12) C dX5_vine_94 rfl ?_
    refine r_bipush (v := -9) C dX5_vine_96 (by decide) ?_
    refine r_icmp_eq (tgt := 107) C dX5_vine_98 (by decide) h (fun h => ?_) (fun h => ?_)
    · refine r_aload_n (x := (a 0)) C dX5_vine_107 rfl ?_
      refine gf_X5_14 C dX5_vine_108 ?_
      refine r_aload (x := (a v5)) C dX5_vine_111 rfl ?_
      refine r_iload_n (x := p3) C dX5_vine_113 rfl ?_
      refine r_callVv C [.ref (a v5), .int p3] [] (b := 10) (by decide) (fX_vine (Or.inl rfl)) rfl rfl zc_X5_70 zB_X4_grow ⟨rfl, rfl, by decide, by decide⟩ (fun out h => c_X4_grow C.2.2.2.2.2.2.2.1 (Or.inl rfl) hv5 h) rfl rfl (Nat.le_of_ble_eq_true rfl) dX5_vine_114 h (fun σ13 h => ?_)
      refine r_aload_n (x := (a 0)) C dX5_vine_117 rfl ?_
      refine r_iconst (v := 0) C dX5_vine_118 (by decide) ?_
      refine pf_X5_74 C dX5_vine_119 h (fun σ14 h => ?_)
      refine r_aload_n (x := (a 0)) C dX5_vine_122 rfl ?_
      refine gf_X5_31 C dX5_vine_123 ?_
      refine r_iconst (v := 0) C dX5_vine_126 (by decide) ?_
      refine pf_X5_77 C dX5_vine_127 h (fun σ15 h => ?_)
      refine r_aload_n (x := (a 0)) C dX5_vine_130 rfl ?_
      refine gf_X5_14 C dX5_vine_131 ?_
      refine gf_X5_80 C (Or.inl rfl) dX5_vine_134 h (fun x16 h => ?_)
      exact r_iret C dX5_vine_137 h
    · refine r_bipush (v := -100) C dX5_vine_101 (by decide) ?_
      refine r_iload (x := x12) C dX5_vine_103 rfl ?_
      refine r_isub C dX5_vine_105 ?_
      exact r_iret C dX5_vine_106 h
  · refine r_aload_n (x := (a 0)) C dX5_vine_77 rfl ?_
    refine r_iload (x := v6) C dX5_vine_78 rfl ?_
    refine r_callVi C [.int v6] [] (b := 0) (by decide) fX_0 rfl rfl zc_X5_61 zB_X5_faulted ⟨rfl, rfl, by decide, by decide⟩ (fun out h => c_X5_faulted C.2.2.2.2.2.2.2.1  h) rfl rfl (Nat.le_of_ble_eq_true rfl) dX5_vine_80 h (fun x18 σ17 h => ?_)
    exact r_iret C dX5_vine_83 h
set_option maxRecDepth 20000 in
theorem tB_X5_vine_53 {p : Program} {l : Launch} {e : Env} {s : State} {m : MethodId} {args : Array Value} {below : List Frame} {meth : Method} {c : Code} {D : va_G} {a : Nat → Nat} {cI cO cA : ClassId} {o : Int32 × zSt} (C : zC p s m args meth c D (ztys cI cO cA) 51 a cX5_vine 8 RX5 (some .int)) {p1 : Int32} {p2 : Int32} {p3 : Int32} {p4 : Int32}  (v5 : Nat) (v6 : Int32) (hv5 : 2 ≤ v5 ∧ v5 < 6) (σ : zSt) (h : B_X5_vine_53 p1 p2 p3 p4  v5 v6 σ = some o) : zV p l e rm_X5_vine s m args below meth c D 51 a (fX a cI cO cA) 8 (zQi below args s D 51 a (fX a cI cO cA) o) σ 53 [some (.ref (a 0)), none, none, some (.int p3), some (.int p4), some (.ref (a v5)), some (.int v6), none] [] := by
  unfold B_X5_vine_53 at h
  refine r_iload (x := v6) C dX5_vine_53 rfl ?_
  refine r_if_ne (tgt := 72) C dX5_vine_55 (by decide) h (fun h => ?_) (fun h => ?_)
  · exact r_le (lv' := [some (.ref (a 0)), none, none, some (.int p3), some (.int p4), some (.ref (a v5)), some (.int v6), none]) ⟨rfl, rfl, rfl, rfl, rfl, trivial⟩ (tB_X5_vine_72 C v5 v6 hv5 σ h)
  · refine r_aload (x := (a v5)) C dX5_vine_58 rfl ?_
    refine r_iload_n (x := p3) C dX5_vine_60 rfl ?_
    refine r_iload (x := p4) C dX5_vine_61 rfl ?_
    refine r_callVi C [.int p3, .int p4] [] (b := v5) (by omega) (fX_sheet hv5) rfl rfl zc_X5_57 zB_X2_has ⟨rfl, rfl, by decide, by decide⟩ (fun out h => c_X2_has C.2.2.2.2.2.2.2.1 hv5 h) rfl rfl (Nat.le_of_ble_eq_true rfl) dX5_vine_63 h (fun x10 σ9 h => ?_)
    refine r_if_ne (tgt := 72) C dX5_vine_66 (by decide) h (fun h => ?_) (fun h => ?_)
    · exact r_le (lv' := [some (.ref (a 0)), none, none, some (.int p3), some (.int p4), some (.ref (a v5)), some (.int v6), none]) ⟨rfl, rfl, rfl, rfl, rfl, trivial⟩ (tB_X5_vine_72 C v5 v6 hv5 σ9 h)
    · refine r_iconst (v := 3) C dX5_vine_69 (by decide) ?_
      refine r_istore (lv' := [some (.ref (a 0)), none, none, some (.int p3), some (.int p4), some (.ref (a v5)), some (.int (3 : Int32)), none]) C dX5_vine_70 (by decide) rfl rfl ?_
      exact r_le (lv' := [some (.ref (a 0)), none, none, some (.int p3), some (.int p4), some (.ref (a v5)), some (.int (3 : Int32)), none]) ⟨rfl, rfl, rfl, rfl, rfl, trivial⟩ (tB_X5_vine_72 C v5 (3 : Int32) hv5 σ9 h)
set_option maxRecDepth 20000 in
theorem c_X5_vine {l : Launch} {D : va_G} {a : Nat → Nat} {cI cO cA : ClassId} (hinj : ∀ i j, i < 51 → j < 51 → a i = a j → i = j) {p1 : Int32} {p2 : Int32} {p3 : Int32} {p4 : Int32} {σ : zSt} {o : Int32 × zSt} (h : M_X5_vine p1 p2 p3 p4 σ = some o) : zMi l D (ztys cI cO cA) 51 a (fX a cI cO cA) yX5_vine cX5_vine 8 (some .int) rm_X5_vine [.ref (a 0), .int p1, .int p2, .int p3, .int p4] σ o := by
  unfold M_X5_vine at h
  refine zmeti (own := RX5) [some (.ref (a 0)), some (.int p1), some (.int p2), some (.int p3), some (.int p4), none, none, none] (by decide) rfl hinj (Nat.le_of_ble_eq_true rfl) rfl (fun p e s m args below meth c C => ?_)
  refine r_aload_n (x := (a 0)) C dX5_vine_0 rfl ?_
  refine r_iconst (v := 0) C dX5_vine_1 (by decide) ?_
  refine pf_X5_42 C dX5_vine_2 h (fun σ1 h => ?_)
  refine r_iload_n (x := p1) C dX5_vine_5 rfl ?_
  refine r_callSi C [.int p1] [] zc_X5_46 zB_X5_isSheet ⟨rfl, rfl, by decide, by decide⟩ (fun out h => c_X5_isSheet C.2.2.2.2.2.2.2.1  h) rfl rfl (Nat.le_of_ble_eq_true rfl) dX5_vine_6 h (fun x3 σ2 h => ?_)
  refine r_if_ne (tgt := 14) C dX5_vine_9 (by decide) h (fun h => ?_) (fun h => ?_)
  · refine r_iload_n (x := p2) C dX5_vine_14 rfl ?_
    refine r_callSi C [.int p2] [] zc_X5_50 zB_X5_isLane ⟨rfl, rfl, by decide, by decide⟩ (fun out h => c_X5_isLane C.2.2.2.2.2.2.2.1  h) rfl rfl (Nat.le_of_ble_eq_true rfl) dX5_vine_15 h (fun x5 σ4 h => ?_)
    refine r_if_ne (tgt := 24) C dX5_vine_18 (by decide) h (fun h => ?_) (fun h => ?_)
    · refine r_aload_n (x := (a 0)) C dX5_vine_24 rfl ?_
      refine gf_X5_37 C dX5_vine_25 ?_
      refine r_iload_n (x := p1) C dX5_vine_28 rfl ?_
      refine r_aald (t0 := 1) C 1 aX_sheets rfl rfl dX5_vine_29 h (fun q6 hq6 lq6 h => ?_)
      refine r_astore (lv' := [some (.ref (a 0)), some (.int p1), some (.int p2), some (.int p3), some (.int p4), some (.ref (a q6)), none, none]) C dX5_vine_30 (by decide) rfl rfl ?_
      refine r_aload (x := (a q6)) C dX5_vine_32 rfl ?_
      refine r_iload_n (x := p2) C dX5_vine_34 rfl ?_
      refine r_callVi C [.int p2] [] (b := q6) (by omega) (fX_sheet ⟨hq6, lq6⟩) rfl rfl zc_X5_53 zB_X2_faultAs ⟨rfl, rfl, by decide, by decide⟩ (fun out h => c_X2_faultAs C.2.2.2.2.2.2.2.1 ⟨hq6, lq6⟩ h) rfl rfl (Nat.le_of_ble_eq_true rfl) dX5_vine_35 h (fun x8 σ7 h => ?_)
      refine r_istore (lv' := [some (.ref (a 0)), some (.int p1), some (.int p2), some (.int p3), some (.int p4), some (.ref (a q6)), some (.int x8), none]) C dX5_vine_38 (by decide) rfl rfl ?_
      refine r_iload (x := x8) C dX5_vine_40 rfl ?_
      refine r_if_ne (tgt := 53) C dX5_vine_42 (by decide) h (fun h => ?_) (fun h => ?_)
      · exact r_le (lv' := [some (.ref (a 0)), none, none, some (.int p3), some (.int p4), some (.ref (a q6)), some (.int x8), none]) ⟨rfl, rfl, rfl, rfl, rfl, trivial⟩ (tB_X5_vine_53 C q6 x8 ⟨hq6, lq6⟩ σ7 h)
      · refine r_iload (x := p4) C dX5_vine_45 rfl ?_
        refine r_if_ge (tgt := 53) C dX5_vine_47 (by decide) h (fun h => ?_) (fun h => ?_)
        · exact r_le (lv' := [some (.ref (a 0)), none, none, some (.int p3), some (.int p4), some (.ref (a q6)), some (.int x8), none]) ⟨rfl, rfl, rfl, rfl, rfl, trivial⟩ (tB_X5_vine_53 C q6 x8 ⟨hq6, lq6⟩ σ7 h)
        · refine r_iconst (v := 4) C dX5_vine_50 (by decide) ?_
          refine r_istore (lv' := [some (.ref (a 0)), some (.int p1), some (.int p2), some (.int p3), some (.int p4), some (.ref (a q6)), some (.int (4 : Int32)), none]) C dX5_vine_51 (by decide) rfl rfl ?_
          exact r_le (lv' := [some (.ref (a 0)), none, none, some (.int p3), some (.int p4), some (.ref (a q6)), some (.int (4 : Int32)), none]) ⟨rfl, rfl, rfl, rfl, rfl, trivial⟩ (tB_X5_vine_53 C q6 (4 : Int32) ⟨hq6, lq6⟩ σ7 h)
    · refine r_bipush (v := -2) C dX5_vine_21 (by decide) ?_
      exact r_iret C dX5_vine_23 h
  · refine r_iconst (v := -1) C dX5_vine_12 (by decide) ?_
    exact r_iret C dX5_vine_13 h
end
