/-! the law's loop -/
theorem zsub6 {L n : Nat} (hL : L ≤ 3072) (hn : n ≤ L) (h : ¬ Int32.ofNat L - 6 < nI n) : n + 6 ≤ L := by
  rw [Int32.lt_iff_toInt_lt, Int32.toInt_sub, nI_toInt (by omega), show (Int32.ofNat L).toInt = (L : Int) from nI_toInt (n := L) (by omega), show (6 : Int32).toInt = 6 from by decide, Int.bmod_eq_of_le (by omega) (by omega)] at h
  omega
set_option maxRecDepth 20000 in
theorem law_loop {p : Program} {l : Launch} {e : Env} {s : State} {m : MethodId} {below : List Frame} {meth : Method} {c : Code} {D : va_G} {cI cO cA : ClassId} {a b : Nat → Nat} {bb L : Nat} {xs : Nat → Int32} (C : zCL p s m meth c D cI cO cA a b bb L xs) : ∀ (f n : Nat), n ≤ L → L + 1 ≤ n + f → ∀ {σ τ : zSt}, zRel σ τ → zLJ p l e s m below meth c D cI cO cA a b bb σ τ 18 (nI n) []
  | 0, n, h1, h2, _, _, _ => absurd h2 (by omega)
  | f + 1, n, h1, h2, σ, τ, hR => by
    have hL := C.2.2.2.2.2.2.2.2
    refine j_iload C dL_law_18 ?_
    refine j_aload C dL_law_19 rfl ?_
    refine j_len C dL_law_20 ?_
    refine j_bipush (v := 6) C dL_law_21 (by decide) ?_
    refine j_isub C dL_law_23 ?_
    refine j_gt (tgt := 1096) C dL_law_24 (by decide) (fun h => ?_) (fun h => ?_)
    · intro H locs ls hX hM hS hl
      refine lv_iconst (v := 1) C.1.1 C.1.2.1 dL_law_1096 (by decide) ?_
      refine va_forget (fun q hq => hS.2.2 q hq) ?_
      exact lw_ret C.1.1 C.1.2.1 C.1.2.2.1 C.1.2.2.2.2.2.2.2.2.1 dL_law_1097
    · have h6 : n + 6 ≤ L := zsub6 hL h1 h
      refine j_aload C dL_law_27 rfl ?_
      refine j_iload C dL_law_28 ?_
      refine j_sld C (vp_in_nI (by omega) (by omega)) dL_law_29 ?_
      refine j_bipush (v := 31) C dL_law_30 (by decide) ?_
      refine j_iand C dL_law_32 ?_
      have back : ∀ {σ2 τ2 : zSt}, zRel σ2 τ2 → zLJ p l e s m below meth c D cI cO cA a b bb σ2 τ2 1090 (nI n) [] := by
        intro σ2 τ2 h9
        refine j_iinc (v := nI (n + 6)) C dL_law_1090 (nI_add n 6) ?_
        refine j_goto (tgt := 18) C dL_law_1093 (by decide) ?_
        exact law_loop C f (n + 6) h6 (by omega) h9
      obtain ⟨j, hj, ej⟩ := z31 (xs (nI n).toNatClampNeg)
      rw [ej]
      match j, hj with
      | 0, _ => exact j_tabI (off := 135) (tgt := 168) C dL_law_33 (by decide) (by decide) (by decide) (by decide) (law_0 C h6 hR back)
      | 1, _ => exact j_tabI (off := 188) (tgt := 221) C dL_law_33 (by decide) (by decide) (by decide) (by decide) (law_1 C h6 hR back)
      | 2, _ => exact j_tabI (off := 221) (tgt := 254) C dL_law_33 (by decide) (by decide) (by decide) (by decide) (law_2 C h6 hR back)
      | 3, _ => exact j_tabI (off := 254) (tgt := 287) C dL_law_33 (by decide) (by decide) (by decide) (by decide) (law_3 C h6 hR back)
      | 4, _ => exact j_tabI (off := 277) (tgt := 310) C dL_law_33 (by decide) (by decide) (by decide) (by decide) (law_4 C h6 hR back)
      | 5, _ => exact j_tabI (off := 310) (tgt := 343) C dL_law_33 (by decide) (by decide) (by decide) (by decide) (law_5 C h6 hR back)
      | 6, _ => exact j_tabI (off := 373) (tgt := 406) C dL_law_33 (by decide) (by decide) (by decide) (by decide) (law_6 C h6 hR back)
      | 7, _ => exact j_tabI (off := 406) (tgt := 439) C dL_law_33 (by decide) (by decide) (by decide) (by decide) (law_7 C h6 hR back)
      | 8, _ => exact j_tabI (off := 449) (tgt := 482) C dL_law_33 (by decide) (by decide) (by decide) (by decide) (law_8 C h6 hR back)
      | 9, _ => exact j_tabI (off := 472) (tgt := 505) C dL_law_33 (by decide) (by decide) (by decide) (by decide) (law_9 C h6 hR back)
      | 10, _ => exact j_tabI (off := 485) (tgt := 518) C dL_law_33 (by decide) (by decide) (by decide) (by decide) (law_10 C h6 hR back)
      | 11, _ => exact j_tabI (off := 498) (tgt := 531) C dL_law_33 (by decide) (by decide) (by decide) (by decide) (law_11 C h6 hR back)
      | 12, _ => exact j_tabI (off := 511) (tgt := 544) C dL_law_33 (by decide) (by decide) (by decide) (by decide) (law_12 C h6 hR back)
      | 13, _ => exact j_tabI (off := 534) (tgt := 567) C dL_law_33 (by decide) (by decide) (by decide) (by decide) (law_13 C h6 hR back)
      | 14, _ => exact j_tabI (off := 567) (tgt := 600) C dL_law_33 (by decide) (by decide) (by decide) (by decide) (law_14 C h6 hR back)
      | 15, _ => exact j_tabI (off := 610) (tgt := 643) C dL_law_33 (by decide) (by decide) (by decide) (by decide) (law_15 C h6 hR back)
      | 16, _ => exact j_tabI (off := 633) (tgt := 666) C dL_law_33 (by decide) (by decide) (by decide) (by decide) (law_16 C h6 hR back)
      | 17, _ => exact j_tabI (off := 656) (tgt := 689) C dL_law_33 (by decide) (by decide) (by decide) (by decide) (law_17 C h6 hR back)
      | 18, _ => exact j_tabI (off := 679) (tgt := 712) C dL_law_33 (by decide) (by decide) (by decide) (by decide) (law_18 C h6 hR back)
      | 19, _ => exact j_tabI (off := 713) (tgt := 746) C dL_law_33 (by decide) (by decide) (by decide) (by decide) (law_19 C h6 hR back)
      | 20, _ => exact j_tabI (off := 756) (tgt := 789) C dL_law_33 (by decide) (by decide) (by decide) (by decide) (law_20 C h6 hR back)
      | 21, _ => exact j_tabI (off := 779) (tgt := 812) C dL_law_33 (by decide) (by decide) (by decide) (by decide) (law_21 C h6 hR back)
      | 22, _ => exact j_tabI (off := 822) (tgt := 855) C dL_law_33 (by decide) (by decide) (by decide) (by decide) (law_22 C h6 hR back)
      | 23, _ => exact j_tabI (off := 866) (tgt := 899) C dL_law_33 (by decide) (by decide) (by decide) (by decide) (law_23 C h6 hR back)
      | 24, _ => exact j_tabI (off := 929) (tgt := 962) C dL_law_33 (by decide) (by decide) (by decide) (by decide) (law_24 C h6 hR back)
      | 25, _ => exact j_tabI (off := 952) (tgt := 985) C dL_law_33 (by decide) (by decide) (by decide) (by decide) (law_25 C h6 hR back)
      | 26, _ => exact j_tabI (off := 975) (tgt := 1008) C dL_law_33 (by decide) (by decide) (by decide) (by decide) (law_26 C h6 hR back)
      | 27, _ => exact j_tabI (off := 1008) (tgt := 1041) C dL_law_33 (by decide) (by decide) (by decide) (by decide) (law_27 C h6 hR back)
      | 28, _ => exact j_tabI (off := 1021) (tgt := 1054) C dL_law_33 (by decide) (by decide) (by decide) (by decide) (law_28 C h6 hR back)
      | 29, _ => exact j_tabI (off := 1034) (tgt := 1067) C dL_law_33 (by decide) (by decide) (by decide) (by decide) (law_29 C h6 hR back)
      | 30, _ => exact j_tabO (tgt := 1090) C dL_law_33 (by decide) (by decide) (back hR)
      | 31, _ => exact j_tabO (tgt := 1090) C dL_law_33 (by decide) (by decide) (back hR)
      | k + 32, h => omega
