noncomputable section
/-! VineRowsModel.copy -/
abbrev rm_X6_copy : Room := { frames := 2, cells := 0, slots := 0, locals := 42 }
def B_X6_copy_190 (p1 : Int32) (p2 : Int32) (p3 : Int32) (p4 : Int32) (p5 : Int32) (K166 : (Int32 → Int32 → zSt → Option (Int32 × zSt))) (v7 : Int32) (v8 : Int32) (s0 : Int32) (σ : zSt) : Option (Int32 × zSt) := zga (σ 3) ((((60 : Int32) * p1) + p2) + s0) 240 (fun x16 => zgs σ 3 ((((60 : Int32) * p3) + p4) + s0) 240 x16 (fun σ17 => znm (v8 + (1 : Int32)) (fun x18 => K166 v7 x18 σ17)))
def B_X6_copy_166 (p1 : Int32) (p2 : Int32) (p3 : Int32) (p4 : Int32) (p5 : Int32) (K166 : (Int32 → Int32 → zSt → Option (Int32 × zSt))) (v7 : Int32) (v8 : Int32) (σ : zSt) : Option (Int32 × zSt) := (if p5 ≤ v8 then some (p5, σ) else (if v7 = 0 then B_X6_copy_190 p1 p2 p3 p4 p5 K166 v7 v8 v8 σ else B_X6_copy_190 p1 p2 p3 p4 p5 K166 v7 v8 ((p5 - (1 : Int32)) - v8) σ))
def L_X6_copy_166 (p1 : Int32) (p2 : Int32) (p3 : Int32) (p4 : Int32) (p5 : Int32) (v7 : Int32) (v8 : Int32) (σ : zSt) : Option (Int32 × zSt) := zloop (fun (rec : Int32 × Int32 × zSt → Option (Int32 × zSt)) x => B_X6_copy_166 p1 p2 p3 p4 p5  (fun v7 v8 σ => rec (v7, v8, σ)) x.1 x.2.1 x.2.2) zFU (v7, v8, σ)
def B_X6_copy_161 (p1 : Int32) (p2 : Int32) (p3 : Int32) (p4 : Int32) (p5 : Int32) (s0 : Int32) (σ : zSt) : Option (Int32 × zSt) := L_X6_copy_166 p1 p2 p3 p4 p5 s0 (0 : Int32) σ
def B_X6_copy_144 (p1 : Int32) (p2 : Int32) (p3 : Int32) (p4 : Int32) (p5 : Int32) (σ : zSt) : Option (Int32 × zSt) := zbd (M_X6_fails (3 : Int32) σ) (fun x20 σ19 => some (x20, σ19))
def B_X6_copy_110 (p1 : Int32) (p2 : Int32) (p3 : Int32) (p4 : Int32) (p5 : Int32) (s0 : Int32) (σ : zSt) : Option (Int32 × zSt) := (if s0 = 0 then B_X6_copy_144 p1 p2 p3 p4 p5 σ else zga (σ 2) p1 4 (fun x14 => (if (x14 - p2) < p5 then B_X6_copy_144 p1 p2 p3 p4 p5 σ else zga (σ 2) p3 4 (fun x15 => (if p5 ≤ (x15 - p4) then (if p4 ≤ p2 then B_X6_copy_161 p1 p2 p3 p4 p5 (0 : Int32) σ else B_X6_copy_161 p1 p2 p3 p4 p5 (1 : Int32) σ) else B_X6_copy_144 p1 p2 p3 p4 p5 σ)))))
def B_X6_copy_109 (p1 : Int32) (p2 : Int32) (p3 : Int32) (p4 : Int32) (p5 : Int32) (σ : zSt) : Option (Int32 × zSt) := B_X6_copy_110 p1 p2 p3 p4 p5 (0 : Int32) σ
def B_X6_copy_43 (p1 : Int32) (p2 : Int32) (p3 : Int32) (p4 : Int32) (p5 : Int32) (σ : zSt) : Option (Int32 × zSt) := zbd (M_X6_fails (1 : Int32) σ) (fun x22 σ21 => some (x22, σ21))
def M_X6_copy (p1 : Int32) (p2 : Int32) (p3 : Int32) (p4 : Int32) (p5 : Int32) (σ : zSt) : Option (Int32 × zSt) := znm (zsu σ 0 (upd (σ 0) 0 (0 : Int32))) (fun σ1 => zbd (M_X6_isSheet p1 σ1) (fun x3 σ2 => (if x3 = 0 then some ((-1 : Int32), σ2) else zbd (M_X6_isSheet p3 σ2) (fun x5 σ4 => (if x5 = 0 then some ((-1 : Int32), σ4) else zga (σ4 1) p1 4 (fun x6 => (if x6 = (-9 : Int32) then B_X6_copy_43 p1 p2 p3 p4 p5 σ4 else zga (σ4 1) p3 4 (fun x7 => (if x7 = (-9 : Int32) then B_X6_copy_43 p1 p2 p3 p4 p5 σ4 else zga (σ4 1) p1 4 (fun x8 => zga (σ4 1) p3 4 (fun x9 => (if x8 = x9 then (if p2 < 0 then B_X6_copy_109 p1 p2 p3 p4 p5 σ4 else (if p4 < 0 then B_X6_copy_109 p1 p2 p3 p4 p5 σ4 else (if p5 < 0 then B_X6_copy_109 p1 p2 p3 p4 p5 σ4 else zga (σ4 2) p1 4 (fun x10 => (if x10 < p2 then B_X6_copy_109 p1 p2 p3 p4 p5 σ4 else zga (σ4 2) p3 4 (fun x11 => (if x11 < p4 then B_X6_copy_109 p1 p2 p3 p4 p5 σ4 else B_X6_copy_110 p1 p2 p3 p4 p5 (1 : Int32) σ4))))))) else zbd (M_X6_fails (2 : Int32) σ4) (fun x13 σ12 => some (x13, σ12))))))))))))))
set_option maxRecDepth 20000 in
theorem tB_X6_copy_190 {p : Program} {l : Launch} {e : Env} {s : State} {m : MethodId} {args : Array Value} {below : List Frame} {meth : Method} {c : Code} {D : va_G} {a : Nat → Nat} {cI cO cA : ClassId} {o : Int32 × zSt} (C : zC p s m args meth c D (ztys cI cO cA) 21 a cX6_copy 10 RX6 (some .int)) {p1 : Int32} {p2 : Int32} {p3 : Int32} {p4 : Int32} {p5 : Int32} {K166 : (Int32 → Int32 → zSt → Option (Int32 × zSt))} (hK166 : ∀ (v7 : Int32) (v8 : Int32) (σ : zSt), K166 v7 v8 σ = some o → zV p l e rm_X6_copy s m args below meth c D 21 a (fM a cI) 10 (zQi below args s D 21 a (fM a cI) o) σ 166 [some (.ref (a 0)), some (.int p1), some (.int p2), some (.int p3), some (.int p4), some (.int p5), none, some (.int v7), some (.int v8), none] []) (v7 : Int32) (v8 : Int32) (s0 : Int32) (σ : zSt) (h : B_X6_copy_190 p1 p2 p3 p4 p5 K166 v7 v8 s0 σ = some o) : zV p l e rm_X6_copy s m args below meth c D 21 a (fM a cI) 10 (zQi below args s D 21 a (fM a cI) o) σ 190 [some (.ref (a 0)), some (.int p1), some (.int p2), some (.int p3), some (.int p4), some (.int p5), none, some (.int v7), some (.int v8), none] [.int s0] := by
  unfold B_X6_copy_190 at h
  refine r_istore (lv' := [some (.ref (a 0)), some (.int p1), some (.int p2), some (.int p3), some (.int p4), some (.int p5), none, some (.int v7), some (.int v8), some (.int s0)]) C dX6_copy_190 (by decide) rfl rfl ?_
  refine r_aload_n (x := (a 0)) C dX6_copy_192 rfl ?_
  refine gf_X6_16 C dX6_copy_193 ?_
  refine r_bipush (v := 60) C dX6_copy_196 (by decide) ?_
  refine r_iload_n (x := p3) C dX6_copy_198 rfl ?_
  refine r_imul C dX6_copy_199 ?_
  refine r_iload (x := p4) C dX6_copy_200 rfl ?_
  refine r_iadd C dX6_copy_202 ?_
  refine r_iload (x := s0) C dX6_copy_203 rfl ?_
  refine r_iadd C dX6_copy_205 ?_
  refine r_aload_n (x := (a 0)) C dX6_copy_206 rfl ?_
  refine gf_X6_16 C dX6_copy_207 ?_
  refine r_bipush (v := 60) C dX6_copy_210 (by decide) ?_
  refine r_iload_n (x := p1) C dX6_copy_212 rfl ?_
  refine r_imul C dX6_copy_213 ?_
  refine r_iload_n (x := p2) C dX6_copy_214 rfl ?_
  refine r_iadd C dX6_copy_215 ?_
  refine r_iload (x := s0) C dX6_copy_216 rfl ?_
  refine r_iadd C dX6_copy_218 ?_
  refine r_iald (t0 := 0) C 3 aM_3 rfl dX6_copy_219 h (fun x16 h => ?_)
  refine r_iast (t0 := 0) C 3 aM_3 rfl dX6_copy_220 h (fun σ17 h => ?_)
  refine r_gen h (fun x18 ex18 h => ?_)
  refine r_iinc (x := v8) (v := x18) (lv' := [some (.ref (a 0)), some (.int p1), some (.int p2), some (.int p3), some (.int p4), some (.int p5), none, some (.int v7), some (.int x18), some (.int s0)]) C dX6_copy_221 rfl (by rw [← ex18]; rfl) (by decide) rfl rfl ?_
  clear ex18
  refine r_goto (tgt := 166) C dX6_copy_224 (by decide) ?_
  exact r_le (lv' := [some (.ref (a 0)), some (.int p1), some (.int p2), some (.int p3), some (.int p4), some (.int p5), none, some (.int v7), some (.int x18), none]) ⟨rfl, rfl, rfl, rfl, rfl, rfl, rfl, rfl, trivial⟩ (hK166 v7 x18 σ17 h)
set_option maxRecDepth 20000 in
theorem tB_X6_copy_166 {p : Program} {l : Launch} {e : Env} {s : State} {m : MethodId} {args : Array Value} {below : List Frame} {meth : Method} {c : Code} {D : va_G} {a : Nat → Nat} {cI cO cA : ClassId} {o : Int32 × zSt} (C : zC p s m args meth c D (ztys cI cO cA) 21 a cX6_copy 10 RX6 (some .int)) {p1 : Int32} {p2 : Int32} {p3 : Int32} {p4 : Int32} {p5 : Int32} {K166 : (Int32 → Int32 → zSt → Option (Int32 × zSt))} (hK166 : ∀ (v7 : Int32) (v8 : Int32) (σ : zSt), K166 v7 v8 σ = some o → zV p l e rm_X6_copy s m args below meth c D 21 a (fM a cI) 10 (zQi below args s D 21 a (fM a cI) o) σ 166 [some (.ref (a 0)), some (.int p1), some (.int p2), some (.int p3), some (.int p4), some (.int p5), none, some (.int v7), some (.int v8), none] []) (v7 : Int32) (v8 : Int32) (σ : zSt) (h : B_X6_copy_166 p1 p2 p3 p4 p5 K166 v7 v8 σ = some o) : zV p l e rm_X6_copy s m args below meth c D 21 a (fM a cI) 10 (zQi below args s D 21 a (fM a cI) o) σ 166 [some (.ref (a 0)), some (.int p1), some (.int p2), some (.int p3), some (.int p4), some (.int p5), none, some (.int v7), some (.int v8), none] [] := by
  unfold B_X6_copy_166 at h
  refine r_iload (x := v8) C dX6_copy_166 rfl ?_
  refine r_iload (x := p5) C dX6_copy_168 rfl ?_
  refine r_icmp_ge (tgt := 227) C dX6_copy_170 (by decide) h (fun h => ?_) (fun h => ?_)
  · refine r_iload (x := p5) C dX6_copy_227 rfl ?_
    exact r_iret C dX6_copy_229 h
  · refine r_iload (x := v7) C dX6_copy_173 rfl ?_
    refine r_if_eq (tgt := 188) C dX6_copy_175 (by decide) h (fun h => ?_) (fun h => ?_)
    · refine r_iload (x := v8) C dX6_copy_188 rfl ?_
      exact r_le (lv' := [some (.ref (a 0)), some (.int p1), some (.int p2), some (.int p3), some (.int p4), some (.int p5), none, some (.int v7), some (.int v8), none]) ⟨rfl, rfl, rfl, rfl, rfl, rfl, rfl, rfl, trivial⟩ (tB_X6_copy_190 C (K166 := K166) hK166 v7 v8 v8 σ h)
    · refine r_iload (x := p5) C dX6_copy_178 rfl ?_
      refine r_iconst (v := 1) C dX6_copy_180 (by decide) ?_
      refine r_isub C dX6_copy_181 ?_
      refine r_iload (x := v8) C dX6_copy_182 rfl ?_
      refine r_isub C dX6_copy_184 ?_
      refine r_goto (tgt := 190) C dX6_copy_185 (by decide) ?_
      exact r_le (lv' := [some (.ref (a 0)), some (.int p1), some (.int p2), some (.int p3), some (.int p4), some (.int p5), none, some (.int v7), some (.int v8), none]) ⟨rfl, rfl, rfl, rfl, rfl, rfl, rfl, rfl, trivial⟩ (tB_X6_copy_190 C (K166 := K166) hK166 v7 v8 ((p5 - (1 : Int32)) - v8) σ h)
set_option maxRecDepth 20000 in
theorem tL_X6_copy_166 {p : Program} {l : Launch} {e : Env} {s : State} {m : MethodId} {args : Array Value} {below : List Frame} {meth : Method} {c : Code} {D : va_G} {a : Nat → Nat} {cI cO cA : ClassId} {o : Int32 × zSt} (C : zC p s m args meth c D (ztys cI cO cA) 21 a cX6_copy 10 RX6 (some .int)) {p1 : Int32} {p2 : Int32} {p3 : Int32} {p4 : Int32} {p5 : Int32}  (v7 : Int32) (v8 : Int32) (σ : zSt) (h : L_X6_copy_166 p1 p2 p3 p4 p5  v7 v8 σ = some o) : zV p l e rm_X6_copy s m args below meth c D 21 a (fM a cI) 10 (zQi below args s D 21 a (fM a cI) o) σ 166 [some (.ref (a 0)), some (.int p1), some (.int p2), some (.int p3), some (.int p4), some (.int p5), none, some (.int v7), some (.int v8), none] [] := by
  unfold L_X6_copy_166 at h
  refine zloop_ind (G := fun x => zV p l e rm_X6_copy s m args below meth c D 21 a (fM a cI) 10 (zQi below args s D 21 a (fM a cI) o) x.2.2 166 [some (.ref (a 0)), some (.int p1), some (.int p2), some (.int p3), some (.int p4), some (.int p5), none, some (.int x.1), some (.int x.2.1), none] []) ?_ zFU _ h
  intro rec hr x h
  exact tB_X6_copy_166 C   (fun v7 v8 σ => hr (v7, v8, σ)) _ _ _ h
set_option maxRecDepth 20000 in
theorem tB_X6_copy_161 {p : Program} {l : Launch} {e : Env} {s : State} {m : MethodId} {args : Array Value} {below : List Frame} {meth : Method} {c : Code} {D : va_G} {a : Nat → Nat} {cI cO cA : ClassId} {o : Int32 × zSt} (C : zC p s m args meth c D (ztys cI cO cA) 21 a cX6_copy 10 RX6 (some .int)) {p1 : Int32} {p2 : Int32} {p3 : Int32} {p4 : Int32} {p5 : Int32}  (s0 : Int32) (σ : zSt) (h : B_X6_copy_161 p1 p2 p3 p4 p5  s0 σ = some o) : zV p l e rm_X6_copy s m args below meth c D 21 a (fM a cI) 10 (zQi below args s D 21 a (fM a cI) o) σ 161 [some (.ref (a 0)), some (.int p1), some (.int p2), some (.int p3), some (.int p4), some (.int p5), none, none, none, none] [.int s0] := by
  unfold B_X6_copy_161 at h
  refine r_istore (lv' := [some (.ref (a 0)), some (.int p1), some (.int p2), some (.int p3), some (.int p4), some (.int p5), none, some (.int s0), none, none]) C dX6_copy_161 (by decide) rfl rfl ?_
  refine r_iconst (v := 0) C dX6_copy_163 (by decide) ?_
  refine r_istore (lv' := [some (.ref (a 0)), some (.int p1), some (.int p2), some (.int p3), some (.int p4), some (.int p5), none, some (.int s0), some (.int (0 : Int32)), none]) C dX6_copy_164 (by decide) rfl rfl ?_
  exact r_le (lv' := [some (.ref (a 0)), some (.int p1), some (.int p2), some (.int p3), some (.int p4), some (.int p5), none, some (.int s0), some (.int (0 : Int32)), none]) ⟨rfl, rfl, rfl, rfl, rfl, rfl, rfl, rfl, trivial⟩ (tL_X6_copy_166 C s0 (0 : Int32) σ h)
set_option maxRecDepth 20000 in
theorem tB_X6_copy_144 {p : Program} {l : Launch} {e : Env} {s : State} {m : MethodId} {args : Array Value} {below : List Frame} {meth : Method} {c : Code} {D : va_G} {a : Nat → Nat} {cI cO cA : ClassId} {o : Int32 × zSt} (C : zC p s m args meth c D (ztys cI cO cA) 21 a cX6_copy 10 RX6 (some .int)) {p1 : Int32} {p2 : Int32} {p3 : Int32} {p4 : Int32} {p5 : Int32}  (σ : zSt) (h : B_X6_copy_144 p1 p2 p3 p4 p5   σ = some o) : zV p l e rm_X6_copy s m args below meth c D 21 a (fM a cI) 10 (zQi below args s D 21 a (fM a cI) o) σ 144 [some (.ref (a 0)), none, none, none, none, none, none, none, none, none] [] := by
  unfold B_X6_copy_144 at h
  refine r_aload_n (x := (a 0)) C dX6_copy_144 rfl ?_
  refine r_iconst (v := 3) C dX6_copy_145 (by decide) ?_
  refine r_callVi C [.int (3 : Int32)] [] (b := 0) (by decide) fM_0 rfl rfl zc_X6_104 zB_X6_fails ⟨rfl, rfl, by decide, by decide⟩ (fun out h => c_X6_fails C.2.2.2.2.2.2.2.1  h) rfl rfl (Nat.le_of_ble_eq_true rfl) dX6_copy_146 h (fun x20 σ19 h => ?_)
  exact r_iret C dX6_copy_149 h
set_option maxRecDepth 20000 in
theorem tB_X6_copy_110 {p : Program} {l : Launch} {e : Env} {s : State} {m : MethodId} {args : Array Value} {below : List Frame} {meth : Method} {c : Code} {D : va_G} {a : Nat → Nat} {cI cO cA : ClassId} {o : Int32 × zSt} (C : zC p s m args meth c D (ztys cI cO cA) 21 a cX6_copy 10 RX6 (some .int)) {p1 : Int32} {p2 : Int32} {p3 : Int32} {p4 : Int32} {p5 : Int32}  (s0 : Int32) (σ : zSt) (h : B_X6_copy_110 p1 p2 p3 p4 p5  s0 σ = some o) : zV p l e rm_X6_copy s m args below meth c D 21 a (fM a cI) 10 (zQi below args s D 21 a (fM a cI) o) σ 110 [some (.ref (a 0)), some (.int p1), some (.int p2), some (.int p3), some (.int p4), some (.int p5), none, none, none, none] [.int s0] := by
  unfold B_X6_copy_110 at h
  refine r_istore (lv' := [some (.ref (a 0)), some (.int p1), some (.int p2), some (.int p3), some (.int p4), some (.int p5), some (.int s0), none, none, none]) C dX6_copy_110 (by decide) rfl rfl ?_
  refine r_iload (x := s0) C dX6_copy_112 rfl ?_
  refine r_if_eq (tgt := 144) C dX6_copy_114 (by decide) h (fun h => ?_) (fun h => ?_)
  · exact r_le (lv' := [some (.ref (a 0)), none, none, none, none, none, none, none, none, none]) ⟨rfl, trivial⟩ (tB_X6_copy_144 C σ h)
  · refine r_iload (x := p5) C dX6_copy_117 rfl ?_
    refine r_aload_n (x := (a 0)) C dX6_copy_119 rfl ?_
    refine gf_X6_13 C dX6_copy_120 ?_
    refine r_iload_n (x := p1) C dX6_copy_123 rfl ?_
    refine r_iald (t0 := 0) C 2 aM_2 rfl dX6_copy_124 h (fun x14 h => ?_)
    refine r_iload_n (x := p2) C dX6_copy_125 rfl ?_
    refine r_isub C dX6_copy_126 ?_
    refine r_icmp_gt (tgt := 144) C dX6_copy_127 (by decide) h (fun h => ?_) (fun h => ?_)
    · exact r_le (lv' := [some (.ref (a 0)), none, none, none, none, none, none, none, none, none]) ⟨rfl, trivial⟩ (tB_X6_copy_144 C σ h)
    · refine r_iload (x := p5) C dX6_copy_130 rfl ?_
      refine r_aload_n (x := (a 0)) C dX6_copy_132 rfl ?_
      refine gf_X6_13 C dX6_copy_133 ?_
      refine r_iload_n (x := p3) C dX6_copy_136 rfl ?_
      refine r_iald (t0 := 0) C 2 aM_2 rfl dX6_copy_137 h (fun x15 h => ?_)
      refine r_iload (x := p4) C dX6_copy_138 rfl ?_
      refine r_isub C dX6_copy_140 ?_
      refine r_icmp_le (tgt := 150) C dX6_copy_141 (by decide) h (fun h => ?_) (fun h => ?_)
      · refine r_iload_n (x := p2) C dX6_copy_150 rfl ?_
        refine r_iload (x := p4) C dX6_copy_151 rfl ?_
        refine r_icmp_ge (tgt := 160) C dX6_copy_153 (by decide) h (fun h => ?_) (fun h => ?_)
        · refine r_iconst (v := 0) C dX6_copy_160 (by decide) ?_
          exact r_le (lv' := [some (.ref (a 0)), some (.int p1), some (.int p2), some (.int p3), some (.int p4), some (.int p5), none, none, none, none]) ⟨rfl, rfl, rfl, rfl, rfl, rfl, trivial⟩ (tB_X6_copy_161 C (0 : Int32) σ h)
        · refine r_iconst (v := 1) C dX6_copy_156 (by decide) ?_
          refine r_goto (tgt := 161) C dX6_copy_157 (by decide) ?_
          exact r_le (lv' := [some (.ref (a 0)), some (.int p1), some (.int p2), some (.int p3), some (.int p4), some (.int p5), none, none, none, none]) ⟨rfl, rfl, rfl, rfl, rfl, rfl, trivial⟩ (tB_X6_copy_161 C (1 : Int32) σ h)
      · exact r_le (lv' := [some (.ref (a 0)), none, none, none, none, none, none, none, none, none]) ⟨rfl, trivial⟩ (tB_X6_copy_144 C σ h)
set_option maxRecDepth 20000 in
theorem tB_X6_copy_109 {p : Program} {l : Launch} {e : Env} {s : State} {m : MethodId} {args : Array Value} {below : List Frame} {meth : Method} {c : Code} {D : va_G} {a : Nat → Nat} {cI cO cA : ClassId} {o : Int32 × zSt} (C : zC p s m args meth c D (ztys cI cO cA) 21 a cX6_copy 10 RX6 (some .int)) {p1 : Int32} {p2 : Int32} {p3 : Int32} {p4 : Int32} {p5 : Int32}  (σ : zSt) (h : B_X6_copy_109 p1 p2 p3 p4 p5   σ = some o) : zV p l e rm_X6_copy s m args below meth c D 21 a (fM a cI) 10 (zQi below args s D 21 a (fM a cI) o) σ 109 [some (.ref (a 0)), some (.int p1), some (.int p2), some (.int p3), some (.int p4), some (.int p5), none, none, none, none] [] := by
  unfold B_X6_copy_109 at h
  refine r_iconst (v := 0) C dX6_copy_109 (by decide) ?_
  exact r_le (lv' := [some (.ref (a 0)), some (.int p1), some (.int p2), some (.int p3), some (.int p4), some (.int p5), none, none, none, none]) ⟨rfl, rfl, rfl, rfl, rfl, rfl, trivial⟩ (tB_X6_copy_110 C (0 : Int32) σ h)
set_option maxRecDepth 20000 in
theorem tB_X6_copy_43 {p : Program} {l : Launch} {e : Env} {s : State} {m : MethodId} {args : Array Value} {below : List Frame} {meth : Method} {c : Code} {D : va_G} {a : Nat → Nat} {cI cO cA : ClassId} {o : Int32 × zSt} (C : zC p s m args meth c D (ztys cI cO cA) 21 a cX6_copy 10 RX6 (some .int)) {p1 : Int32} {p2 : Int32} {p3 : Int32} {p4 : Int32} {p5 : Int32}  (σ : zSt) (h : B_X6_copy_43 p1 p2 p3 p4 p5   σ = some o) : zV p l e rm_X6_copy s m args below meth c D 21 a (fM a cI) 10 (zQi below args s D 21 a (fM a cI) o) σ 43 [some (.ref (a 0)), none, none, none, none, none, none, none, none, none] [] := by
  unfold B_X6_copy_43 at h
  refine r_aload_n (x := (a 0)) C dX6_copy_43 rfl ?_
  refine r_iconst (v := 1) C dX6_copy_44 (by decide) ?_
  refine r_callVi C [.int (1 : Int32)] [] (b := 0) (by decide) fM_0 rfl rfl zc_X6_104 zB_X6_fails ⟨rfl, rfl, by decide, by decide⟩ (fun out h => c_X6_fails C.2.2.2.2.2.2.2.1  h) rfl rfl (Nat.le_of_ble_eq_true rfl) dX6_copy_45 h (fun x22 σ21 h => ?_)
  exact r_iret C dX6_copy_48 h
set_option maxRecDepth 20000 in
theorem c_X6_copy {l : Launch} {D : va_G} {a : Nat → Nat} {cI cO cA : ClassId} (hinj : ∀ i j, i < 21 → j < 21 → a i = a j → i = j) {p1 : Int32} {p2 : Int32} {p3 : Int32} {p4 : Int32} {p5 : Int32} {σ : zSt} {o : Int32 × zSt} (h : M_X6_copy p1 p2 p3 p4 p5 σ = some o) : zMi l D (ztys cI cO cA) 21 a (fM a cI) yX6_copy cX6_copy 10 (some .int) rm_X6_copy [.ref (a 0), .int p1, .int p2, .int p3, .int p4, .int p5] σ o := by
  unfold M_X6_copy at h
  refine zmeti (own := RX6) [some (.ref (a 0)), some (.int p1), some (.int p2), some (.int p3), some (.int p4), some (.int p5), none, none, none, none] (by decide) rfl hinj (Nat.le_of_ble_eq_true rfl) rfl (fun p e s m args below meth c C => ?_)
  refine r_aload_n (x := (a 0)) C dX6_copy_0 rfl ?_
  refine r_iconst (v := 0) C dX6_copy_1 (by decide) ?_
  refine pf_X6_70 C dX6_copy_2 h (fun σ1 h => ?_)
  refine r_iload_n (x := p1) C dX6_copy_5 rfl ?_
  refine r_callSi C [.int p1] [] zc_X6_94 zB_X6_isSheet ⟨rfl, rfl, by decide, by decide⟩ (fun out h => c_X6_isSheet C.2.2.2.2.2.2.2.1  h) rfl rfl (Nat.le_of_ble_eq_true rfl) dX6_copy_6 h (fun x3 σ2 h => ?_)
  refine r_if_eq (tgt := 19) C dX6_copy_9 (by decide) h (fun h => ?_) (fun h => ?_)
  · refine r_iconst (v := -1) C dX6_copy_19 (by decide) ?_
    exact r_iret C dX6_copy_20 h
  · refine r_iload_n (x := p3) C dX6_copy_12 rfl ?_
    refine r_callSi C [.int p3] [] zc_X6_94 zB_X6_isSheet ⟨rfl, rfl, by decide, by decide⟩ (fun out h => c_X6_isSheet C.2.2.2.2.2.2.2.1  h) rfl rfl (Nat.le_of_ble_eq_true rfl) dX6_copy_13 h (fun x5 σ4 h => ?_)
    refine r_if_ne (tgt := 21) C dX6_copy_16 (by decide) h (fun h => ?_) (fun h => ?_)
    · refine r_aload_n (x := (a 0)) C dX6_copy_21 rfl ?_
      refine gf_X6_9 C dX6_copy_22 ?_
      refine r_iload_n (x := p1) C dX6_copy_25 rfl ?_
      refine r_iald (t0 := 0) C 1 aM_1 rfl dX6_copy_26 h (fun x6 h => ?_)
      refine r_bipush (v := -9) C dX6_copy_27 (by decide) ?_
      refine r_icmp_eq (tgt := 43) C dX6_copy_29 (by decide) h (fun h => ?_) (fun h => ?_)
      · exact r_le (lv' := [some (.ref (a 0)), none, none, none, none, none, none, none, none, none]) ⟨rfl, trivial⟩ (tB_X6_copy_43 C σ4 h)
      · refine r_aload_n (x := (a 0)) C dX6_copy_32 rfl ?_
        refine gf_X6_9 C dX6_copy_33 ?_
        refine r_iload_n (x := p3) C dX6_copy_36 rfl ?_
        refine r_iald (t0 := 0) C 1 aM_1 rfl dX6_copy_37 h (fun x7 h => ?_)
        refine r_bipush (v := -9) C dX6_copy_38 (by decide) ?_
        refine r_icmp_ne (tgt := 49) C dX6_copy_40 (by decide) h (fun h => ?_) (fun h => ?_)
        · refine r_aload_n (x := (a 0)) C dX6_copy_49 rfl ?_
          refine gf_X6_9 C dX6_copy_50 ?_
          refine r_iload_n (x := p1) C dX6_copy_53 rfl ?_
          refine r_iald (t0 := 0) C 1 aM_1 rfl dX6_copy_54 h (fun x8 h => ?_)
          refine r_aload_n (x := (a 0)) C dX6_copy_55 rfl ?_
          refine gf_X6_9 C dX6_copy_56 ?_
          refine r_iload_n (x := p3) C dX6_copy_59 rfl ?_
          refine r_iald (t0 := 0) C 1 aM_1 rfl dX6_copy_60 h (fun x9 h => ?_)
          refine r_icmp_eq (tgt := 70) C dX6_copy_61 (by decide) h (fun h => ?_) (fun h => ?_)
          · refine r_iload_n (x := p2) C dX6_copy_70 rfl ?_
            refine r_if_lt (tgt := 109) C dX6_copy_71 (by decide) h (fun h => ?_) (fun h => ?_)
            · exact r_le (lv' := [some (.ref (a 0)), some (.int p1), some (.int p2), some (.int p3), some (.int p4), some (.int p5), none, none, none, none]) ⟨rfl, rfl, rfl, rfl, rfl, rfl, trivial⟩ (tB_X6_copy_109 C σ4 h)
            · refine r_iload (x := p4) C dX6_copy_74 rfl ?_
              refine r_if_lt (tgt := 109) C dX6_copy_76 (by decide) h (fun h => ?_) (fun h => ?_)
              · exact r_le (lv' := [some (.ref (a 0)), some (.int p1), some (.int p2), some (.int p3), some (.int p4), some (.int p5), none, none, none, none]) ⟨rfl, rfl, rfl, rfl, rfl, rfl, trivial⟩ (tB_X6_copy_109 C σ4 h)
              · refine r_iload (x := p5) C dX6_copy_79 rfl ?_
                refine r_if_lt (tgt := 109) C dX6_copy_81 (by decide) h (fun h => ?_) (fun h => ?_)
                · exact r_le (lv' := [some (.ref (a 0)), some (.int p1), some (.int p2), some (.int p3), some (.int p4), some (.int p5), none, none, none, none]) ⟨rfl, rfl, rfl, rfl, rfl, rfl, trivial⟩ (tB_X6_copy_109 C σ4 h)
                · refine r_iload_n (x := p2) C dX6_copy_84 rfl ?_
                  refine r_aload_n (x := (a 0)) C dX6_copy_85 rfl ?_
                  refine gf_X6_13 C dX6_copy_86 ?_
                  refine r_iload_n (x := p1) C dX6_copy_89 rfl ?_
                  refine r_iald (t0 := 0) C 2 aM_2 rfl dX6_copy_90 h (fun x10 h => ?_)
                  refine r_icmp_gt (tgt := 109) C dX6_copy_91 (by decide) h (fun h => ?_) (fun h => ?_)
                  · exact r_le (lv' := [some (.ref (a 0)), some (.int p1), some (.int p2), some (.int p3), some (.int p4), some (.int p5), none, none, none, none]) ⟨rfl, rfl, rfl, rfl, rfl, rfl, trivial⟩ (tB_X6_copy_109 C σ4 h)
                  · refine r_iload (x := p4) C dX6_copy_94 rfl ?_
                    refine r_aload_n (x := (a 0)) C dX6_copy_96 rfl ?_
                    refine gf_X6_13 C dX6_copy_97 ?_
                    refine r_iload_n (x := p3) C dX6_copy_100 rfl ?_
                    refine r_iald (t0 := 0) C 2 aM_2 rfl dX6_copy_101 h (fun x11 h => ?_)
                    refine r_icmp_gt (tgt := 109) C dX6_copy_102 (by decide) h (fun h => ?_) (fun h => ?_)
                    · exact r_le (lv' := [some (.ref (a 0)), some (.int p1), some (.int p2), some (.int p3), some (.int p4), some (.int p5), none, none, none, none]) ⟨rfl, rfl, rfl, rfl, rfl, rfl, trivial⟩ (tB_X6_copy_109 C σ4 h)
                    · refine r_iconst (v := 1) C dX6_copy_105 (by decide) ?_
                      refine r_goto (tgt := 110) C dX6_copy_106 (by decide) ?_
                      exact r_le (lv' := [some (.ref (a 0)), some (.int p1), some (.int p2), some (.int p3), some (.int p4), some (.int p5), none, none, none, none]) ⟨rfl, rfl, rfl, rfl, rfl, rfl, trivial⟩ (tB_X6_copy_110 C (1 : Int32) σ4 h)
          · refine r_aload_n (x := (a 0)) C dX6_copy_64 rfl ?_
            refine r_iconst (v := 2) C dX6_copy_65 (by decide) ?_
            refine r_callVi C [.int (2 : Int32)] [] (b := 0) (by decide) fM_0 rfl rfl zc_X6_104 zB_X6_fails ⟨rfl, rfl, by decide, by decide⟩ (fun out h => c_X6_fails C.2.2.2.2.2.2.2.1  h) rfl rfl (Nat.le_of_ble_eq_true rfl) dX6_copy_66 h (fun x13 σ12 h => ?_)
            exact r_iret C dX6_copy_69 h
        · exact r_le (lv' := [some (.ref (a 0)), none, none, none, none, none, none, none, none, none]) ⟨rfl, trivial⟩ (tB_X6_copy_43 C σ4 h)
    · refine r_iconst (v := -1) C dX6_copy_19 (by decide) ?_
      exact r_iret C dX6_copy_20 h
/-! VineRowsModel.begins -/
abbrev rm_X6_begins : Room := { frames := 0, cells := 0, slots := 0, locals := 0 }
def M_X6_begins (p1 : Int32) (σ : zSt) : Option (zSt) := znm (σ 0 1) (fun x1 => znm (zsu σ 0 (upd (σ 0) 1 (((31 : Int32) * x1) + p1))) (fun σ2 => some σ2))
set_option maxRecDepth 20000 in
theorem c_X6_begins {l : Launch} {D : va_G} {a : Nat → Nat} {cI cO cA : ClassId} (hinj : ∀ i j, i < 21 → j < 21 → a i = a j → i = j) {p1 : Int32} {σ : zSt} {o : zSt} (h : M_X6_begins p1 σ = some o) : zMv l D (ztys cI cO cA) 21 a (fM a cI) yX6_begins cX6_begins 2 none rm_X6_begins [.ref (a 0), .int p1] σ o := by
  unfold M_X6_begins at h
  refine zmetv (own := RX6) [some (.ref (a 0)), some (.int p1)] (by decide) rfl hinj (Nat.le_of_ble_eq_true rfl) rfl (fun p e s m args below meth c C => ?_)
  refine r_aload_n (x := (a 0)) C dX6_begins_0 rfl ?_
  refine r_bipush (v := 31) C dX6_begins_1 (by decide) ?_
  refine r_aload_n (x := (a 0)) C dX6_begins_3 rfl ?_
  refine gf_X6_212 C dX6_begins_4 h (fun x1 h => ?_)
  refine r_imul C dX6_begins_7 ?_
  refine r_iload_n (x := p1) C dX6_begins_8 rfl ?_
  refine r_iadd C dX6_begins_9 ?_
  refine pf_X6_212 C dX6_begins_10 h (fun σ2 h => ?_)
  exact r_vret C dX6_begins_13 h
/-! VineRowsModel.tell -/
abbrev rm_X6_tell : Room := { frames := 1, cells := 0, slots := 0, locals := 21 }
def M_X6_tell (p1 : Int32) (σ : zSt) : Option (Int32 × zSt) := zbd (M_X6_isPost p1 σ) (fun x2 σ1 => (if x2 = 0 then some ((-1 : Int32), σ1) else zga (σ1 6) p1 8 (fun x3 => zga (σ1 5) p1 8 (fun x4 => (if x4 = (1 : Int32) then zbv (M_X6_begins (2 : Int32) σ1) (fun σ5 => zbv (M_X6_begins (1 : Int32) σ5) (fun σ6 => some ((x3 + (100 : Int32)), σ6))) else (if x4 = (2 : Int32) then zbv (M_X6_begins (3 : Int32) σ1) (fun σ7 => zbv (M_X6_begins (2 : Int32) σ7) (fun σ8 => zbv (M_X6_begins (1 : Int32) σ8) (fun σ9 => zbv (M_X6_begins (1 : Int32) σ9) (fun σ10 => some ((((2 : Int32) * x3) + (100 : Int32)), σ10))))) else (zbv (M_X6_begins (1 : Int32) σ1) (fun σ11 => some (x3, σ11)))))))))
set_option maxRecDepth 20000 in
theorem c_X6_tell {l : Launch} {D : va_G} {a : Nat → Nat} {cI cO cA : ClassId} (hinj : ∀ i j, i < 21 → j < 21 → a i = a j → i = j) {p1 : Int32} {σ : zSt} {o : Int32 × zSt} (h : M_X6_tell p1 σ = some o) : zMi l D (ztys cI cO cA) 21 a (fM a cI) yX6_tell cX6_tell 3 (some .int) rm_X6_tell [.ref (a 0), .int p1] σ o := by
  unfold M_X6_tell at h
  refine zmeti (own := RX6) [some (.ref (a 0)), some (.int p1), none] (by decide) rfl hinj (Nat.le_of_ble_eq_true rfl) rfl (fun p e s m args below meth c C => ?_)
  refine r_aload_n (x := (a 0)) C dX6_tell_0 rfl ?_
  refine r_iload_n (x := p1) C dX6_tell_1 rfl ?_
  refine r_callVi C [.int p1] [] (b := 0) (by decide) fM_0 rfl rfl zc_X6_83 zB_X6_isPost ⟨rfl, rfl, by decide, by decide⟩ (fun out h => c_X6_isPost C.2.2.2.2.2.2.2.1  h) rfl rfl (Nat.le_of_ble_eq_true rfl) dX6_tell_2 h (fun x2 σ1 h => ?_)
  refine r_if_ne (tgt := 10) C dX6_tell_5 (by decide) h (fun h => ?_) (fun h => ?_)
  · refine r_aload_n (x := (a 0)) C dX6_tell_10 rfl ?_
    refine gf_X6_25 C dX6_tell_11 ?_
    refine r_iload_n (x := p1) C dX6_tell_14 rfl ?_
    refine r_iald (t0 := 0) C 6 aM_6 rfl dX6_tell_15 h (fun x3 h => ?_)
    refine r_istore_n (lv' := [some (.ref (a 0)), some (.int p1), some (.int x3)]) C dX6_tell_16 (by decide) rfl rfl ?_
    refine r_aload_n (x := (a 0)) C dX6_tell_17 rfl ?_
    refine gf_X6_22 C dX6_tell_18 ?_
    refine r_iload_n (x := p1) C dX6_tell_21 rfl ?_
    refine r_iald (t0 := 0) C 5 aM_5 rfl dX6_tell_22 h (fun x4 h => ?_)
    by_cases hx0 : x4 = (1 : Int32)
    · rw [if_pos hx0] at h
      refine r_lookup (tgt := 48) (off := 25) C dX6_tell_23 (by decide) (by rw [hx0]; decide) (by decide) ?_
      refine r_aload_n (x := (a 0)) C dX6_tell_48 rfl ?_
      refine r_iconst (v := 2) C dX6_tell_49 (by decide) ?_
      refine r_callVv C [.int (2 : Int32)] [] (b := 0) (by decide) fM_0 rfl rfl zc_X6_215 zB_X6_begins ⟨rfl, rfl, by decide, by decide⟩ (fun out h => c_X6_begins C.2.2.2.2.2.2.2.1  h) rfl rfl (Nat.le_of_ble_eq_true rfl) dX6_tell_50 h (fun σ5 h => ?_)
      refine r_aload_n (x := (a 0)) C dX6_tell_53 rfl ?_
      refine r_iconst (v := 1) C dX6_tell_54 (by decide) ?_
      refine r_callVv C [.int (1 : Int32)] [] (b := 0) (by decide) fM_0 rfl rfl zc_X6_215 zB_X6_begins ⟨rfl, rfl, by decide, by decide⟩ (fun out h => c_X6_begins C.2.2.2.2.2.2.2.1  h) rfl rfl (Nat.le_of_ble_eq_true rfl) dX6_tell_55 h (fun σ6 h => ?_)
      refine r_iload_n (x := x3) C dX6_tell_58 rfl ?_
      refine r_bipush (v := 100) C dX6_tell_59 (by decide) ?_
      refine r_iadd C dX6_tell_61 ?_
      exact r_iret C dX6_tell_62 h
    · rw [if_neg hx0] at h
      by_cases hx1 : x4 = (2 : Int32)
      · rw [if_pos hx1] at h
        refine r_lookup (tgt := 63) (off := 40) C dX6_tell_23 (by decide) (by rw [hx1]; decide) (by decide) ?_
        refine r_aload_n (x := (a 0)) C dX6_tell_63 rfl ?_
        refine r_iconst (v := 3) C dX6_tell_64 (by decide) ?_
        refine r_callVv C [.int (3 : Int32)] [] (b := 0) (by decide) fM_0 rfl rfl zc_X6_215 zB_X6_begins ⟨rfl, rfl, by decide, by decide⟩ (fun out h => c_X6_begins C.2.2.2.2.2.2.2.1  h) rfl rfl (Nat.le_of_ble_eq_true rfl) dX6_tell_65 h (fun σ7 h => ?_)
        refine r_aload_n (x := (a 0)) C dX6_tell_68 rfl ?_
        refine r_iconst (v := 2) C dX6_tell_69 (by decide) ?_
        refine r_callVv C [.int (2 : Int32)] [] (b := 0) (by decide) fM_0 rfl rfl zc_X6_215 zB_X6_begins ⟨rfl, rfl, by decide, by decide⟩ (fun out h => c_X6_begins C.2.2.2.2.2.2.2.1  h) rfl rfl (Nat.le_of_ble_eq_true rfl) dX6_tell_70 h (fun σ8 h => ?_)
        refine r_aload_n (x := (a 0)) C dX6_tell_73 rfl ?_
        refine r_iconst (v := 1) C dX6_tell_74 (by decide) ?_
        refine r_callVv C [.int (1 : Int32)] [] (b := 0) (by decide) fM_0 rfl rfl zc_X6_215 zB_X6_begins ⟨rfl, rfl, by decide, by decide⟩ (fun out h => c_X6_begins C.2.2.2.2.2.2.2.1  h) rfl rfl (Nat.le_of_ble_eq_true rfl) dX6_tell_75 h (fun σ9 h => ?_)
        refine r_aload_n (x := (a 0)) C dX6_tell_78 rfl ?_
        refine r_iconst (v := 1) C dX6_tell_79 (by decide) ?_
        refine r_callVv C [.int (1 : Int32)] [] (b := 0) (by decide) fM_0 rfl rfl zc_X6_215 zB_X6_begins ⟨rfl, rfl, by decide, by decide⟩ (fun out h => c_X6_begins C.2.2.2.2.2.2.2.1  h) rfl rfl (Nat.le_of_ble_eq_true rfl) dX6_tell_80 h (fun σ10 h => ?_)
        refine r_iconst (v := 2) C dX6_tell_83 (by decide) ?_
        refine r_iload_n (x := x3) C dX6_tell_84 rfl ?_
        refine r_imul C dX6_tell_85 ?_
        refine r_bipush (v := 100) C dX6_tell_86 (by decide) ?_
        refine r_iadd C dX6_tell_88 ?_
        exact r_iret C dX6_tell_89 h
      · rw [if_neg hx1] at h
        refine r_lookup (tgt := 90) (off := 67) C dX6_tell_23 (by decide) (by rw [lv_osw hx0 (by decide)]; rw [lv_osw hx1 (by decide)]; rfl) (by decide) ?_
        refine r_aload_n (x := (a 0)) C dX6_tell_90 rfl ?_
        refine r_iconst (v := 1) C dX6_tell_91 (by decide) ?_
        refine r_callVv C [.int (1 : Int32)] [] (b := 0) (by decide) fM_0 rfl rfl zc_X6_215 zB_X6_begins ⟨rfl, rfl, by decide, by decide⟩ (fun out h => c_X6_begins C.2.2.2.2.2.2.2.1  h) rfl rfl (Nat.le_of_ble_eq_true rfl) dX6_tell_92 h (fun σ11 h => ?_)
        refine r_iload_n (x := x3) C dX6_tell_95 rfl ?_
        exact r_iret C dX6_tell_96 h
  · refine r_iconst (v := -1) C dX6_tell_8 (by decide) ?_
    exact r_iret C dX6_tell_9 h
/-! VineRowsModel.knock -/
abbrev rm_X6_knock : Room := { frames := 1, cells := 0, slots := 0, locals := 22 }
def B_X6_knock_26 (p1 : Int32) (s0 : Int32) (σ : zSt) : Option (Int32 × zSt) := zbv (M_X6_begins s0 σ) (fun σ4 => zga (σ4 5) p1 8 (fun x5 => (if x5 = (2 : Int32) then some ((80 : Int32), σ4) else zga (σ4 4) p1 8 (fun x6 => zbd (M_X6_size x6 σ4) (fun x8 σ7 => some (x8, σ7))))))
def M_X6_knock (p1 : Int32) (σ : zSt) : Option (Int32 × zSt) := zbd (M_X6_isPost p1 σ) (fun x2 σ1 => (if x2 = 0 then some ((-1 : Int32), σ1) else zga (σ1 5) p1 8 (fun x3 => (if x3 = (2 : Int32) then B_X6_knock_26 p1 (5 : Int32) σ1 else B_X6_knock_26 p1 (4 : Int32) σ1))))
set_option maxRecDepth 20000 in
theorem tB_X6_knock_26 {p : Program} {l : Launch} {e : Env} {s : State} {m : MethodId} {args : Array Value} {below : List Frame} {meth : Method} {c : Code} {D : va_G} {a : Nat → Nat} {cI cO cA : ClassId} {o : Int32 × zSt} (C : zC p s m args meth c D (ztys cI cO cA) 21 a cX6_knock 2 RX6 (some .int)) {p1 : Int32}  (s0 : Int32) (σ : zSt) (h : B_X6_knock_26 p1  s0 σ = some o) : zV p l e rm_X6_knock s m args below meth c D 21 a (fM a cI) 2 (zQi below args s D 21 a (fM a cI) o) σ 26 [some (.ref (a 0)), some (.int p1)] [.int s0, .ref (a 0)] := by
  unfold B_X6_knock_26 at h
  refine r_callVv C [.int s0] [] (b := 0) (by decide) fM_0 rfl rfl zc_X6_215 zB_X6_begins ⟨rfl, rfl, by decide, by decide⟩ (fun out h => c_X6_begins C.2.2.2.2.2.2.2.1  h) rfl rfl (Nat.le_of_ble_eq_true rfl) dX6_knock_26 h (fun σ4 h => ?_)
  refine r_aload_n (x := (a 0)) C dX6_knock_29 rfl ?_
  refine gf_X6_22 C dX6_knock_30 ?_
  refine r_iload_n (x := p1) C dX6_knock_33 rfl ?_
  refine r_iald (t0 := 0) C 5 aM_5 rfl dX6_knock_34 h (fun x5 h => ?_)
  refine r_iconst (v := 2) C dX6_knock_35 (by decide) ?_
  refine r_icmp_ne (tgt := 44) C dX6_knock_36 (by decide) h (fun h => ?_) (fun h => ?_)
  · refine r_aload_n (x := (a 0)) C dX6_knock_44 rfl ?_
    refine gf_X6_19 C dX6_knock_45 ?_
    refine r_iload_n (x := p1) C dX6_knock_48 rfl ?_
    refine r_iald (t0 := 0) C 4 aM_4 rfl dX6_knock_49 h (fun x6 h => ?_)
    refine r_callSi C [.int x6] [] zc_X6_140 zB_X6_size ⟨rfl, rfl, by decide, by decide⟩ (fun out h => c_X6_size C.2.2.2.2.2.2.2.1  h) rfl rfl (Nat.le_of_ble_eq_true rfl) dX6_knock_50 h (fun x8 σ7 h => ?_)
    exact r_iret C dX6_knock_53 h
  · refine r_bipush (v := 80) C dX6_knock_39 (by decide) ?_
    refine r_goto (tgt := 53) C dX6_knock_41 (by decide) ?_
    exact r_iret C dX6_knock_53 h
set_option maxRecDepth 20000 in
theorem c_X6_knock {l : Launch} {D : va_G} {a : Nat → Nat} {cI cO cA : ClassId} (hinj : ∀ i j, i < 21 → j < 21 → a i = a j → i = j) {p1 : Int32} {σ : zSt} {o : Int32 × zSt} (h : M_X6_knock p1 σ = some o) : zMi l D (ztys cI cO cA) 21 a (fM a cI) yX6_knock cX6_knock 2 (some .int) rm_X6_knock [.ref (a 0), .int p1] σ o := by
  unfold M_X6_knock at h
  refine zmeti (own := RX6) [some (.ref (a 0)), some (.int p1)] (by decide) rfl hinj (Nat.le_of_ble_eq_true rfl) rfl (fun p e s m args below meth c C => ?_)
  refine r_aload_n (x := (a 0)) C dX6_knock_0 rfl ?_
  refine r_iload_n (x := p1) C dX6_knock_1 rfl ?_
  refine r_callVi C [.int p1] [] (b := 0) (by decide) fM_0 rfl rfl zc_X6_83 zB_X6_isPost ⟨rfl, rfl, by decide, by decide⟩ (fun out h => c_X6_isPost C.2.2.2.2.2.2.2.1  h) rfl rfl (Nat.le_of_ble_eq_true rfl) dX6_knock_2 h (fun x2 σ1 h => ?_)
  refine r_if_ne (tgt := 10) C dX6_knock_5 (by decide) h (fun h => ?_) (fun h => ?_)
  · refine r_aload_n (x := (a 0)) C dX6_knock_10 rfl ?_
    refine r_aload_n (x := (a 0)) C dX6_knock_11 rfl ?_
    refine gf_X6_22 C dX6_knock_12 ?_
    refine r_iload_n (x := p1) C dX6_knock_15 rfl ?_
    refine r_iald (t0 := 0) C 5 aM_5 rfl dX6_knock_16 h (fun x3 h => ?_)
    refine r_iconst (v := 2) C dX6_knock_17 (by decide) ?_
    refine r_icmp_ne (tgt := 25) C dX6_knock_18 (by decide) h (fun h => ?_) (fun h => ?_)
    · refine r_iconst (v := 4) C dX6_knock_25 (by decide) ?_
      exact r_le (lv' := [some (.ref (a 0)), some (.int p1)]) ⟨rfl, rfl, trivial⟩ (tB_X6_knock_26 C (4 : Int32) σ1 h)
    · refine r_iconst (v := 5) C dX6_knock_21 (by decide) ?_
      refine r_goto (tgt := 26) C dX6_knock_22 (by decide) ?_
      exact r_le (lv' := [some (.ref (a 0)), some (.int p1)]) ⟨rfl, rfl, trivial⟩ (tB_X6_knock_26 C (5 : Int32) σ1 h)
  · refine r_iconst (v := -1) C dX6_knock_8 (by decide) ?_
    exact r_iret C dX6_knock_9 h
/-! VineRowsModel.as -/
abbrev rm_X6_as : Room := { frames := 1, cells := 0, slots := 0, locals := 22 }
def M_X6_as (p1 : Int32) (p2 : Int32) (σ : zSt) : Option (Int32 × zSt) := znm (zsu σ 0 (upd (σ 0) 0 (0 : Int32))) (fun σ1 => zbd (M_X6_isPost p1 σ1) (fun x3 σ2 => (if x3 = 0 then some ((-1 : Int32), σ2) else zbd (M_X6_within p2 (0 : Int32) (2 : Int32) σ2) (fun x5 σ4 => (if x5 = 0 then some ((-2 : Int32), σ4) else zga (σ4 5) p1 8 (fun x6 => (if x6 < p2 then zbd (M_X6_fails (2 : Int32) σ4) (fun x8 σ7 => some (x8, σ7)) else some ((1 : Int32), σ4))))))))
set_option maxRecDepth 20000 in
theorem c_X6_as {l : Launch} {D : va_G} {a : Nat → Nat} {cI cO cA : ClassId} (hinj : ∀ i j, i < 21 → j < 21 → a i = a j → i = j) {p1 : Int32} {p2 : Int32} {σ : zSt} {o : Int32 × zSt} (h : M_X6_as p1 p2 σ = some o) : zMi l D (ztys cI cO cA) 21 a (fM a cI) yX6_as cX6_as 3 (some .int) rm_X6_as [.ref (a 0), .int p1, .int p2] σ o := by
  unfold M_X6_as at h
  refine zmeti (own := RX6) [some (.ref (a 0)), some (.int p1), some (.int p2)] (by decide) rfl hinj (Nat.le_of_ble_eq_true rfl) rfl (fun p e s m args below meth c C => ?_)
  refine r_aload_n (x := (a 0)) C dX6_as_0 rfl ?_
  refine r_iconst (v := 0) C dX6_as_1 (by decide) ?_
  refine pf_X6_70 C dX6_as_2 h (fun σ1 h => ?_)
  refine r_aload_n (x := (a 0)) C dX6_as_5 rfl ?_
  refine r_iload_n (x := p1) C dX6_as_6 rfl ?_
  refine r_callVi C [.int p1] [] (b := 0) (by decide) fM_0 rfl rfl zc_X6_83 zB_X6_isPost ⟨rfl, rfl, by decide, by decide⟩ (fun out h => c_X6_isPost C.2.2.2.2.2.2.2.1  h) rfl rfl (Nat.le_of_ble_eq_true rfl) dX6_as_7 h (fun x3 σ2 h => ?_)
  refine r_if_ne (tgt := 15) C dX6_as_10 (by decide) h (fun h => ?_) (fun h => ?_)
  · refine r_iload_n (x := p2) C dX6_as_15 rfl ?_
    refine r_iconst (v := 0) C dX6_as_16 (by decide) ?_
    refine r_iconst (v := 2) C dX6_as_17 (by decide) ?_
    refine r_callSi C [.int p2, .int (0 : Int32), .int (2 : Int32)] [] zc_X6_76 zB_X6_within ⟨rfl, rfl, by decide, by decide⟩ (fun out h => c_X6_within C.2.2.2.2.2.2.2.1  h) rfl rfl (Nat.le_of_ble_eq_true rfl) dX6_as_18 h (fun x5 σ4 h => ?_)
    refine r_if_ne (tgt := 27) C dX6_as_21 (by decide) h (fun h => ?_) (fun h => ?_)
    · refine r_aload_n (x := (a 0)) C dX6_as_27 rfl ?_
      refine gf_X6_22 C dX6_as_28 ?_
      refine r_iload_n (x := p1) C dX6_as_31 rfl ?_
      refine r_iald (t0 := 0) C 5 aM_5 rfl dX6_as_32 h (fun x6 h => ?_)
      refine r_iload_n (x := p2) C dX6_as_33 rfl ?_
      refine r_icmp_lt (tgt := 41) C dX6_as_34 (by decide) h (fun h => ?_) (fun h => ?_)
      · refine r_aload_n (x := (a 0)) C dX6_as_41 rfl ?_
        refine r_iconst (v := 2) C dX6_as_42 (by decide) ?_
        refine r_callVi C [.int (2 : Int32)] [] (b := 0) (by decide) fM_0 rfl rfl zc_X6_104 zB_X6_fails ⟨rfl, rfl, by decide, by decide⟩ (fun out h => c_X6_fails C.2.2.2.2.2.2.2.1  h) rfl rfl (Nat.le_of_ble_eq_true rfl) dX6_as_43 h (fun x8 σ7 h => ?_)
        exact r_iret C dX6_as_46 h
      · refine r_iconst (v := 1) C dX6_as_37 (by decide) ?_
        refine r_goto (tgt := 46) C dX6_as_38 (by decide) ?_
        exact r_iret C dX6_as_46 h
    · refine r_bipush (v := -2) C dX6_as_24 (by decide) ?_
      exact r_iret C dX6_as_26 h
  · refine r_iconst (v := -1) C dX6_as_13 (by decide) ?_
    exact r_iret C dX6_as_14 h
/-! VineRowsModel.trace -/
abbrev rm_X6_trace : Room := { frames := 0, cells := 0, slots := 0, locals := 0 }
def M_X6_trace (σ : zSt) : Option (Int32 × zSt) := znm (σ 0 1) (fun x1 => some (x1, σ))
set_option maxRecDepth 20000 in
theorem c_X6_trace {l : Launch} {D : va_G} {a : Nat → Nat} {cI cO cA : ClassId} (hinj : ∀ i j, i < 21 → j < 21 → a i = a j → i = j) {σ : zSt} {o : Int32 × zSt} (h : M_X6_trace  σ = some o) : zMi l D (ztys cI cO cA) 21 a (fM a cI) yX6_trace cX6_trace 1 (some .int) rm_X6_trace [.ref (a 0)] σ o := by
  unfold M_X6_trace at h
  refine zmeti (own := RX6) [some (.ref (a 0))] (by decide) rfl hinj (Nat.le_of_ble_eq_true rfl) rfl (fun p e s m args below meth c C => ?_)
  refine r_aload_n (x := (a 0)) C dX6_trace_0 rfl ?_
  refine gf_X6_212 C dX6_trace_1 h (fun x1 h => ?_)
  exact r_iret C dX6_trace_4 h
/-! VineRowsModel.fault -/
abbrev rm_X6_fault : Room := { frames := 0, cells := 0, slots := 0, locals := 0 }
def M_X6_fault (σ : zSt) : Option (Int32 × zSt) := znm (σ 0 0) (fun x1 => some (x1, σ))
set_option maxRecDepth 20000 in
theorem c_X6_fault {l : Launch} {D : va_G} {a : Nat → Nat} {cI cO cA : ClassId} (hinj : ∀ i j, i < 21 → j < 21 → a i = a j → i = j) {σ : zSt} {o : Int32 × zSt} (h : M_X6_fault  σ = some o) : zMi l D (ztys cI cO cA) 21 a (fM a cI) yX6_fault cX6_fault 1 (some .int) rm_X6_fault [.ref (a 0)] σ o := by
  unfold M_X6_fault at h
  refine zmeti (own := RX6) [some (.ref (a 0))] (by decide) rfl hinj (Nat.le_of_ble_eq_true rfl) rfl (fun p e s m args below meth c C => ?_)
  refine r_aload_n (x := (a 0)) C dX6_fault_0 rfl ?_
  refine gf_X6_70 C dX6_fault_1 h (fun x1 h => ?_)
  exact r_iret C dX6_fault_4 h
/-! VineRowsModel.many -/
abbrev rm_X6_many : Room := { frames := 2, cells := 0, slots := 0, locals := 44 }
def M_X6_many (p1 : Int32) (σ : zSt) : Option (Int32 × zSt) := (if p1 = (0 : Int32) then znm (σ 0 5) (fun x1 => some (x1, σ)) else (if p1 = (1 : Int32) then znm (σ 0 6) (fun x2 => some (x2, σ)) else (if p1 = (2 : Int32) then zbd (M_X6_ends σ) (fun x4 σ3 => zbd (M_X6_size x4 σ3) (fun x6 σ5 => some (x6, σ5))) else (if p1 = (3 : Int32) then znm (σ 0 23) (fun x7 => some (x7, σ)) else (some ((-2 : Int32), σ))))))
set_option maxRecDepth 20000 in
theorem c_X6_many {l : Launch} {D : va_G} {a : Nat → Nat} {cI cO cA : ClassId} (hinj : ∀ i j, i < 21 → j < 21 → a i = a j → i = j) {p1 : Int32} {σ : zSt} {o : Int32 × zSt} (h : M_X6_many p1 σ = some o) : zMi l D (ztys cI cO cA) 21 a (fM a cI) yX6_many cX6_many 2 (some .int) rm_X6_many [.ref (a 0), .int p1] σ o := by
  unfold M_X6_many at h
  refine zmeti (own := RX6) [some (.ref (a 0)), some (.int p1)] (by decide) rfl hinj (Nat.le_of_ble_eq_true rfl) rfl (fun p e s m args below meth c C => ?_)
  refine r_iload_n (x := p1) C dX6_many_0 rfl ?_
  by_cases hx0 : p1 = (0 : Int32)
  · rw [if_pos hx0] at h
    refine r_tableIn (tgt := 32) (off := 31) C dX6_many_1 (by rw [hx0]; decide) (by rw [hx0]; decide) (by rw [hx0]; decide) (by decide) ?_
    refine r_aload_n (x := (a 0)) C dX6_many_32 rfl ?_
    refine gf_X6_80 C dX6_many_33 h (fun x1 h => ?_)
    exact r_iret C dX6_many_36 h
  · rw [if_neg hx0] at h
    by_cases hx1 : p1 = (1 : Int32)
    · rw [if_pos hx1] at h
      refine r_tableIn (tgt := 37) (off := 36) C dX6_many_1 (by rw [hx1]; decide) (by rw [hx1]; decide) (by rw [hx1]; decide) (by decide) ?_
      refine r_aload_n (x := (a 0)) C dX6_many_37 rfl ?_
      refine gf_X6_117 C dX6_many_38 h (fun x2 h => ?_)
      exact r_iret C dX6_many_41 h
    · rw [if_neg hx1] at h
      by_cases hx2 : p1 = (2 : Int32)
      · rw [if_pos hx2] at h
        refine r_tableIn (tgt := 42) (off := 41) C dX6_many_1 (by rw [hx2]; decide) (by rw [hx2]; decide) (by rw [hx2]; decide) (by decide) ?_
        refine r_aload_n (x := (a 0)) C dX6_many_42 rfl ?_
        refine r_callVi C [] [] (b := 0) (by decide) fM_0 rfl rfl zc_X6_178 zB_X6_ends ⟨rfl, rfl, by decide, by decide⟩ (fun out h => c_X6_ends C.2.2.2.2.2.2.2.1  h) rfl rfl (Nat.le_of_ble_eq_true rfl) dX6_many_43 h (fun x4 σ3 h => ?_)
        refine r_callSi C [.int x4] [] zc_X6_140 zB_X6_size ⟨rfl, rfl, by decide, by decide⟩ (fun out h => c_X6_size C.2.2.2.2.2.2.2.1  h) rfl rfl (Nat.le_of_ble_eq_true rfl) dX6_many_46 h (fun x6 σ5 h => ?_)
        exact r_iret C dX6_many_49 h
      · rw [if_neg hx2] at h
        by_cases hx3 : p1 = (3 : Int32)
        · rw [if_pos hx3] at h
          refine r_tableIn (tgt := 50) (off := 49) C dX6_many_1 (by rw [hx3]; decide) (by rw [hx3]; decide) (by rw [hx3]; decide) (by decide) ?_
          refine r_aload_n (x := (a 0)) C dX6_many_50 rfl ?_
          refine gf_X6_120 C dX6_many_51 h (fun x7 h => ?_)
          exact r_iret C dX6_many_54 h
        · rw [if_neg hx3] at h
          have hy0 := zne (n := 0) hx0 (by decide)
          have hy1 := zne (n := 1) hx1 (by decide)
          have hy2 := zne (n := 2) hx2 (by decide)
          have hy3 := zne (n := 3) hx3 (by decide)
          refine r_tableOut (tgt := 55) C dX6_many_1 (by omega) (by decide) ?_
          refine r_bipush (v := -2) C dX6_many_55 (by decide) ?_
          exact r_iret C dX6_many_57 h
end
