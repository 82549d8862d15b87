/-! the law from its entry -/
theorem zx372 : Cond.instantiable RX5 8 ∈ zbig := zbigM 61 (by decide +kernel) (by decide +kernel)
theorem zx373 : Cond.instantiable RX6 27 ∈ zbig := zbigM 549 (by decide +kernel) (by decide +kernel)
theorem zx374 : Cond.initialized RX5 ∈ zbig := zbigM 50 (by decide +kernel) (by decide +kernel)
theorem zx375 : Cond.initialized RX6 ∈ zbig := zbigM 55 (by decide +kernel) (by decide +kernel)
theorem zx376 : Cond.classLink RL 7 RX5 ∈ zbig := zbigM 60 (by decide +kernel) (by decide +kernel)
theorem zx377 : Cond.classLink RL 10 RX6 ∈ zbig := zbigM 548 (by decide +kernel) (by decide +kernel)
theorem zx378 : Cond.methodLink RL 9 yX5_init ∈ zbig := zbigM 62 (by decide +kernel) (by decide +kernel)
theorem zx379 : Cond.instanceMethod yX5_init ∈ zbig := zbigM 63 (by decide +kernel) (by decide +kernel)
theorem zx380 : Cond.initialized yX5_init.cls ∈ zbig := zbigM 50 (by decide +kernel) (by decide +kernel)
theorem zx381 : Cond.code yX5_init cX5_init 2 none ∈ zbig := zbigM 64 (by decide +kernel) (by decide +kernel)
theorem zx382 : Cond.methodLink RL 12 yX6_init ∈ zbig := zbigM 550 (by decide +kernel) (by decide +kernel)
theorem zx383 : Cond.instanceMethod yX6_init ∈ zbig := zbigM 551 (by decide +kernel) (by decide +kernel)
theorem zx384 : Cond.initialized yX6_init.cls ∈ zbig := zbigM 55 (by decide +kernel) (by decide +kernel)
theorem zx385 : Cond.code yX6_init cX6_init 1 none ∈ zbig := zbigM 552 (by decide +kernel) (by decide +kernel)
theorem zy_oa : Cond.arrayOver (.array .int) ∈ lw_tbl := List.mem_of_getElem? (i := 75) (by decide +kernel)
theorem zy_oo : Cond.arrayOver (.object "VineRows$Sheet") ∈ lw_tbl := List.mem_of_getElem? (i := 152) (by decide +kernel)
theorem zy_n13 : Cond.methodLinkNest RX5 13 yX4_init "VineRows" ∈ lw_tbl := List.mem_of_getElem? (i := 70) (by decide +kernel)
theorem zy_n23 : Cond.methodLinkNest RX5 23 yX1_init "VineRows" ∈ lw_tbl := List.mem_of_getElem? (i := 117) (by decide +kernel)
theorem zy_n30 : Cond.methodLinkNest RX5 30 yX0_init "VineRows" ∈ lw_tbl := List.mem_of_getElem? (i := 133) (by decide +kernel)
theorem zy_n41 : Cond.methodLinkNest RX5 41 yX2_init "VineRows" ∈ lw_tbl := List.mem_of_getElem? (i := 154) (by decide +kernel)
theorem zy_m48 : Cond.methodLinkNest RX4 48 yX5_worthOf "VineRows" ∈ lw_tbl := List.mem_of_getElem? (i := 273) (by decide +kernel)
theorem zy_m97 : Cond.methodLinkNest RX4 97 yX5_leastOf "VineRows" ∈ lw_tbl := List.mem_of_getElem? (i := 254) (by decide +kernel)
theorem zX5_same {cI cA : ClassId} (u U : State) (h : u.vm = U.vm) (hX : zX5 cI cA u) : zX5 cI cA U := by
  obtain ⟨h1, h2, h3, h4, h5, h6⟩ := hX
  exact ⟨h1.moved (h ▸ Vm.Alike.refl u.vm), h2.moved (h ▸ Vm.Alike.refl u.vm), h3.same rfl h, h4.same rfl h, h5.same rfl h, h6.same rfl h⟩
theorem zX5_warm {cI cA : ClassId} {s U : State} (hW : s.WarmedH U.vm) (hX : zX5 cI cA s) : zX5 cI cA U := by
  obtain ⟨h1, h2, h3, h4, h5, h6⟩ := hX
  exact ⟨h1.moved hW.alike, h2.moved hW.alike, h3.warmM hW, h4.warmM hW, h5.warmM hW, h6.warmM hW⟩
theorem zknown {s : State} {args : Array Value} (hts : ∀ w ∈ lw_tbl, w.before args s = true) : ∃ (D : va_G) (cI cO cA : ClassId), va_K D zcl (ztys cI cO cA) s ∧ (∀ w ∈ znests, va_Nw w s) ∧ zX5 cI cA s := by
  have ht : ∀ w ∈ zbig, w.before args s = true := fun w hw => hts w (List.mem_filter.mp hw).1
  obtain ⟨c0, i0, k0⟩ := u_known (C := RX0) (T := TX0) (N := 4) (n := 4) ht inX0 (ht _ zx58)
  obtain ⟨c1, i1, k1⟩ := u_known (C := RX1) (T := TX1) (N := 3) (n := 3) ht inX1 (ht _ zx51)
  obtain ⟨c2, i2, k2⟩ := u_known (C := RX2) (T := TX2) (N := 3) (n := 3) ht inX2 (ht _ zx67)
  obtain ⟨c3, i3, k3⟩ := u_known (C := RX4) (T := TX4) (N := 9) (n := 9) ht inX4 (ht _ zx43)
  obtain ⟨c4, i4, k4⟩ := u_known (C := RX5) (T := TX5) (N := 8) (n := 8) ht inX5 (ht _ zx372)
  obtain ⟨c5, i5, k5⟩ := u_known (C := RX6) (T := TX6) (N := 27) (n := 27) ht inX6 (ht _ zx373)
  obtain ⟨cI, kI, compI, f1, f2, f3⟩ := Cond.arrayClass_spec (ht _ zx_ar)
  obtain ⟨comp, cO, kO, g1, g2, g3, g4, g5⟩ := Cond.arrayOver_spec (hts _ zy_oo)
  obtain ⟨cI2, cA, kA, h1, h2, h3, h4, h5⟩ := arrayOverA_spec (hts _ zy_oa)
  have e1 : cI2 = cI := Option.some.inj (h1.symm.trans f1)
  subst e1
  refine ⟨(fun k => ([c0, c1, c2, c3, c4, c5] : List ClassId).getD k c0, fun k => ([i0, i1, i2, i3, i4, i5] : List (Nat → Nat)).getD k i0), cI2, cO, cA, ⟨fun k q hq => ?_, fun k q hq => ?_⟩, fun w hw => ?_, ⟨kA, h3, h4⟩, va_AO.of (hts _ zy_oo), va_Nw.of rfl (hts _ zy_n13), va_Nw.of rfl (hts _ zy_n23), va_Nw.of rfl (hts _ zy_n30), va_Nw.of rfl (hts _ zy_n41)⟩
  · match k, hq with
    | 0, hq => cases hq; exact k0
    | 1, hq => cases hq; exact k1
    | 2, hq => cases hq; exact k2
    | 3, hq => cases hq; exact k3
    | 4, hq => cases hq; exact k4
    | 5, hq => cases hq; exact k5
    | k + 6, hq => simp [zcl] at hq
  · match k, hq with
    | 0, hq => cases hq; exact ⟨fun n z => ⟨fun k h => (by cases h), kI, f2, compI, f3⟩, f1⟩
    | 1, hq => cases hq; exact ⟨fun n z => ⟨fun k h => (by cases h), kO, g3, comp, g4⟩, kO, comp, g3, g4, g1, g5⟩
    | 2, hq => cases hq; exact ⟨fun n z => ⟨fun k h => (by cases h), kA, h3, cI2, h4⟩, h5⟩
    | k + 3, hq => simp [ztys] at hq
  · rcases List.mem_cons.mp hw with rfl | hw
    · exact va_Nw.of rfl (hts _ zy_m48)
    · rcases List.mem_cons.mp hw with rfl | hw
      · exact va_Nw.of rfl (hts _ zy_m97)
      · exact absurd hw List.not_mem_nil
theorem zwd_left {N : Nat} {a : Nat → Nat} {f : Nat → (Nat → Int32) → va_E} {σ : zSt} {w : va_W} {i : Nat} (h : i < N) : (zwd N a f σ ++ w)[i]? = some (a i, f i (σ i)) := by
  rw [List.getElem?_append_left (by simpa [zwd] using h), zwd_get h]
theorem zwd_right {N : Nat} {a : Nat → Nat} {f : Nat → (Nat → Int32) → va_E} {σ : zSt} {w : va_W} (i : Nat) : (zwd N a f σ ++ w)[N + i]? = w[i]? := by
  rw [List.getElem?_append_right (by simp [zwd])]
  simp [zwd]
theorem zwd_range {N : Nat} {a : Nat → Nat} {f : Nat → (Nat → Int32) → va_E} {σ : zSt} {w : va_W} : (List.range N).map (fun i => (zwd N a f σ ++ w)[i]?) = (zwd N a f σ).map some := by
  apply List.ext_getElem?
  intro k
  by_cases hk : k < N
  · rw [List.getElem?_map, List.getElem?_range hk, List.getElem?_map, zwd_get hk]
    simp only [Option.map_some]
    rw [zwd_left hk]
  · rw [List.getElem?_eq_none (by simpa using hk), List.getElem?_eq_none (by simpa [zwd] using hk)]
set_option maxRecDepth 40000 in
set_option maxHeartbeats 4000000 in
theorem whole_start {p : Program} {e : Env} {s : State} {m : MethodId} {below : List Frame} {meth : Method} {c : Code} (l : Launch) (hflags : l.flags = flags0) {b L : Nat} {xs : Nat → Int32} (hL : L ≤ 3072) (C0 : lw_At p s m meth c b L xs) : W p l e room_1 s m #[Value.ref b] below meth c s.heap [] 0 0 (lw_Z below #[Value.ref b] s) (entryFrame m ([Value.ref b] : List Value).toArray 4) := by
  obtain ⟨hx, hb, hr, hml, hown, hts, hX, hbl, hlocks, hgv⟩ := id C0
  obtain ⟨D, cI, cO, cA, hK, hN, hX5⟩ := zknown hts
  have ht : ∀ w ∈ zbig, w.before #[Value.ref b] s = true := fun w hw => hts w (List.mem_filter.mp hw).1
  have C : zN p s m #[Value.ref b] meth c D cI cO cA code 4 RL (fun q : Nat => s.heap.size ≤ q) := ⟨hx, hb, hml, hown, ht, hK, fun q h => h⟩
  have hl := lv_entry ([.ref b]) (n := 4) (Nat.le_of_ble_eq_true rfl)
  rw [lg_entry_eq]
  generalize (lg_sl ([.ref b]) ++ List.replicate (4 - (lg_sl ([.ref b])).length) Slot.unset).toArray = ls at hl ⊢
  have hl : zlx ls 4 [some (.ref b), none, none, none] := hl
  have key : zU p l e room_1 s m #[Value.ref b] below meth c D (fun q : Nat => s.heap.size ≤ q) 4 (lw_Z below #[Value.ref b] s) 0 0 [] 0 [some (.ref b), none, none, none] [] := by
    refine uu_new (T := TX5) (N := 8) (ci := 4) (fs := [.null, .null, .null, .null, .null, .int 0, .int 0, .int 0]) C inX5 tyX5 tyX5_ok zx376 zx372 zx374 rfl (fun j hj => by rcases (show j = 0 ∨ j = 1 ∨ j = 2 ∨ j = 3 ∨ j = 4 ∨ j = 5 ∨ j = 6 ∨ j = 7 by omega) with rfl | rfl | rfl | rfl | rfl | rfl | rfl | rfl <;> rfl) (Nat.le_of_ble_eq_true rfl) (Nat.le_of_ble_eq_true rfl) dL_law_0 (fun q0 => ?_)
    refine uu_dup C dL_law_3 rfl ?_
    refine uu_initI (X := zX5 cI cA) (rm := rm_X5_init) (wc := [(q0, .inr (4, [.null, .null, .null, .null, .null, .int 0, .int 0, .int 0]))]) (wr := []) (w1 := fun a => zwd 51 a (fX a cI cO cA) zσ0) C zx378 zx379 rfl ⟨zx380, zx381, by decide +kernel⟩ (by decide) (fun sz => c_X5_init l D cI cO cA _ sz) zX5_same (fun U hW => zX5_warm hW hX5) [0] [] rfl rfl rfl rfl (by decide) (Nat.le_of_ble_eq_true rfl) dL_law_4 (Nat.le_of_ble_eq_true rfl) (Nat.le_of_ble_eq_true rfl) (fun a e9 => ?_)
    subst e9
    refine uu_ws (ws2 := zwd 51 a (fX a cI cO cA) zσ0) rfl ?_
    refine uu_astore_n C dL_law_7 (by decide) rfl (lv2 := [some (.ref b), some (.ref (a 0)), none, none]) rfl ?_
    refine uu_new (T := TX6) (N := 27) (ci := 5) (fs := [.int 0, .int 0, .null, .null, .null, .int 0, .int 0, .null, .null, .null, .int 0, .int 0, .null, .null, .null, .null, .null, .null, .null, .null, .null, .null, .null, .int 0, .null, .null, .null]) C inX6 tyX6 tyX6_ok zx377 zx373 zx375 rfl (fun j hj => by rcases (show j = 0 ∨ j = 1 ∨ j = 2 ∨ j = 3 ∨ j = 4 ∨ j = 5 ∨ j = 6 ∨ j = 7 ∨ j = 8 ∨ j = 9 ∨ j = 10 ∨ j = 11 ∨ j = 12 ∨ j = 13 ∨ j = 14 ∨ j = 15 ∨ j = 16 ∨ j = 17 ∨ j = 18 ∨ j = 19 ∨ j = 20 ∨ j = 21 ∨ j = 22 ∨ j = 23 ∨ j = 24 ∨ j = 25 ∨ j = 26 by omega) with rfl | rfl | rfl | rfl | rfl | rfl | rfl | rfl | rfl | rfl | rfl | rfl | rfl | rfl | rfl | rfl | rfl | rfl | rfl | rfl | rfl | rfl | rfl | rfl | rfl | rfl | rfl <;> rfl) (Nat.le_of_ble_eq_true rfl) (Nat.le_of_ble_eq_true rfl) dL_law_8 (fun q1 => ?_)
    refine uu_dup C dL_law_11 rfl ?_
    refine uu_initI (X := fun _ => True) (rm := rm_X6_init) (wc := [(q1, .inr (5, [.int 0, .int 0, .null, .null, .null, .int 0, .int 0, .null, .null, .null, .int 0, .int 0, .null, .null, .null, .null, .null, .null, .null, .null, .null, .null, .null, .int 0, .null, .null, .null]))]) (wr := zwd 51 a (fX a cI cO cA) zσ0) (w1 := zc6 cI) C zx382 zx383 rfl ⟨zx384, zx385, by decide +kernel⟩ (by decide) (fun sz => c_X6_init l D cI cO cA _ sz) (fun _ _ _ _ => trivial) (fun _ _ => trivial) [51] (List.range 51) (by rw [List.map_cons, List.map_nil, List.map_cons, List.map_nil]; exact congrArg (fun x => [x]) (zwd_right (N := 51) 0)) rfl zwd_range (by decide) (by decide) (Nat.le_of_ble_eq_true rfl) dL_law_12 (Nat.le_of_ble_eq_true rfl) (Nat.le_of_ble_eq_true rfl) (fun v e9 => ?_)
    subst e9
    rw [zc6_is]
    refine uu_astore_n C dL_law_15 (by decide) rfl (lv2 := [some (.ref b), some (.ref (a 0)), some (.ref (v 0)), none]) rfl ?_
    refine uu_iconst (v := nI 0) C dL_law_16 (by decide) ?_
    refine uu_istore_n C dL_law_17 (by decide) rfl (lv2 := [some (.ref b), some (.ref (a 0)), some (.ref (v 0)), some (.int (nI 0))]) rfl ?_
    refine uu_wide (k := 600000) (n := 7302250) (Nat.le_of_ble_eq_true rfl) (Nat.le_of_ble_eq_true rfl) ?_
    intro H locs ls hP hD hS hl
    have hR : ∀ j, j < 21 → (zwd 51 a (fX a cI cO cA) zσ0 ++ zwd 21 v (fM v cI) zτ0)[51 + j]? = some (v j, fM v cI j (zτ0 j)) := fun j hj => by rw [zwd_right, zwd_get hj]
    have C9 : zCL p s m meth c D cI cO cA a v b L xs := ⟨C0, hK, hN, fun i j hi hj h => hD.1 i j _ _ (zwd_left hi) (zwd_left hj) h, fun i j hi hj h => Nat.add_left_cancel (hD.1 (51 + i) (51 + j) _ _ (hR i hi) (hR j hj) h), fun i hi => hD.2 i _ (zwd_left hi), fun i hi => hD.2 (51 + i) _ (hR i hi), fun i j hi hj h => absurd (hD.1 i (51 + j) _ _ (zwd_left hi) (hR j hj) h) (by omega), hL⟩
    refine law_loop C9 (L + 1) 0 (Nat.zero_le L) (by omega) zRel_0 H locs ls (fun k q hk => ?_) (fun k q hk => ?_) hS hl
    · obtain ⟨hk2, rfl⟩ := zwd_some hk
      exact hP k _ (zwd_left hk2)
    · obtain ⟨hk2, rfl⟩ := zwd_some hk
      exact hP (51 + k) _ (hR k hk2)
  exact key s.heap [] ls (fun k q h => by simp at h) ⟨fun i j p q h => by simp at h, fun k q h => by simp at h⟩ va_S.rf hl
