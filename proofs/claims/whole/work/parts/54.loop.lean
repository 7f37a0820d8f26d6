theorem lw_le {i L : Nat} (hL : L ≤ 256) (hi : i ≤ 260) (h : ¬ (Int32.ofNat L - 4) < nI i) : i + 4 ≤ L := by
  have h1 : ¬ (Int32.ofNat L - 4).toInt < (nI i).toInt := fun q => h (Int32.lt_iff_toInt_lt.mpr q)
  have e1 : (Int32.ofNat L - 4).toInt = (L : Int) - 4 := pk_sub_toInt (a := L) (b := 4) (by omega) (by omega)
  rw [e1, nI_toInt (by omega)] at h1
  omega
set_option maxHeartbeats 8000000 in
set_option maxRecDepth 100000 in
theorem law_head {p : Program} {l : Launch} {e : Env} {s : State} {m : MethodId} {below : List Frame} {meth : Method} {c : Code} {g : GG} {b L : Nat} {xs : Nat → Int32} {a : Nat → Nat} (C0 : LwC p s m c g b L xs) (hr : meth.sig.returnType = ret) (hlocks : meth.locks = false) (x : CX) (y : MX) (i : Nat) (hi : i ≤ 260) (hR : RR i x y)
    (ih : i + 4 ≤ L → ∀ (x : CX) (y : MX), RR (i + 4) x y → ∀ H locs ls, CC g (fun q : Nat => s.heap.size ≤ q) s.heap 4 (wL g a x y) [(0, .ref b), (1, .ref (a 0)), (2, .ref (a 33)), (3, .int (nI (i + 4)))] H locs ls → W p l e room_1 s m #[Value.ref b] below meth c H locs 45 918 (lw_Z below #[Value.ref b] s) (F0 m 18 ls [])) :
    ∀ H locs ls, CC g (fun q : Nat => s.heap.size ≤ q) s.heap 4 (wL g a x y) [(0, .ref b), (1, .ref (a 0)), (2, .ref (a 33)), (3, .int (nI i))] H locs ls → W p l e room_1 s m #[Value.ref b] below meth c H locs 45 918 (lw_Z below #[Value.ref b] s) (F0 m 18 ls []) := by
  have C1 := C0
  obtain ⟨hX, hB, hM, hT, hO, hE, hXs, hbl, hL⟩ := C0
  have hA : ∀ q : Nat, s.heap.size ≤ q → (fun q : Nat => s.heap.size ≤ q) q := fun _ h => h
  have hbA : ¬ (fun q : Nat => s.heap.size ≤ q) b := Nat.not_le.mpr hbl
  intro H locs ls hC
  obtain ⟨hP, hD, hS, hl⟩ := hC
  refine lv_iload_n (pc := 18) hX hB dL_law_18 rfl (lv_at hl 3 rfl) ?_
  refine lv_aload_n (pc := 19) hX hB dL_law_19 rfl (lv_at hl 0 rfl) ?_
  refine va_slen (pc := 20) hX hB hXs hbl hbA hS dL_law_20 ?_
  refine lv_iconst (pc := 21) (v := 4) hX hB dL_law_21 (by decide) ?_
  refine lv_isub (pc := 22) hX hB dL_law_22 ?_
  refine lv_icmp_gt (pc := 23) (tgt := 990) hX hB dL_law_23 (by decide) (fun hq => ?_) (fun hq => ?_)
  · refine lv_iconst (pc := 990) (v := 1) hX hB dL_law_990 (by decide) ?_
    refine va_forget (fun q hq => hS.2.2 q hq) ?_
    exact lw_ret hX hB hr hlocks dL_law_991
  · have hi4 : i + 4 ≤ L := lw_le hL hi hq
    have J : ∀ (x : CX) (y : MX), RR (i + 4) x y → ∀ H locs ls, CC g (fun q : Nat => s.heap.size ≤ q) s.heap 4 (wL g a x y) [(0, .ref b), (1, .ref (a 0)), (2, .ref (a 33)), (3, .int (nI i))] H locs ls → W p l e room_1 s m #[Value.ref b] below meth c H locs 45 918 (lw_Z below #[Value.ref b] s) (F0 m 984 ls []) := by
      intro x y hR H locs ls hC
      obtain ⟨hP, hD, hS, hl⟩ := hC
      refine lv_iinc (pc := 984) (v := nI (i + 4)) (lv' := [(3, .int (nI (i + 4))), (0, .ref b), (1, .ref (a 0)), (2, .ref (a 33))]) hX hB dL_law_984 hl (k := 3) rfl (by rw [show Int32.ofInt 4 = nI 4 from rfl, nI_add]) (by decide) rfl (fun ls hl => ?_)
      refine lv_goto (pc := 987) (tgt := 18) hX hB dL_law_987 (by decide) ?_
      exact ih hi4 x y hR _ _ _ ⟨hP, hD, hS, lv_sub hl [1, 2, 3, 0] rfl⟩
    refine lv_aload_n (pc := 26) hX hB dL_law_26 rfl (lv_at hl 0 rfl) ?_
    refine lv_iload_n (pc := 27) hX hB dL_law_27 rfl (lv_at hl 3 rfl) ?_
    refine va_sld (pc := 28) hX hB hXs hbl hbA hS (vp_in_nI (by omega) (by omega)) dL_law_28 ?_
    refine lv_bipush (pc := 29) (v := 31) hX hB dL_law_29 (by decide) ?_
    refine lv_iand (pc := 31) hX hB dL_law_31 ?_
    refine lv_topi (fun v _ => ?_)
    by_cases hq0 : v = 0
    · refine zs_tab (pc := 32) (tgt := 176) (k := 0) (off := 144) hX hB dL_law_32 hq0 (by decide) (by decide) (by decide) (by decide) ?_
      exact lc_0 C1 x y i hi4 (by omega) hR J _ _ _ ⟨hP, hD, hS, hl⟩
    by_cases hq1 : v = 1
    · refine zs_tab (pc := 32) (tgt := 209) (k := 1) (off := 177) hX hB dL_law_32 hq1 (by decide) (by decide) (by decide) (by decide) ?_
      exact lc_1 C1 x y i hi4 (by omega) hR J _ _ _ ⟨hP, hD, hS, hl⟩
    by_cases hq2 : v = 2
    · refine zs_tab (pc := 32) (tgt := 242) (k := 2) (off := 210) hX hB dL_law_32 hq2 (by decide) (by decide) (by decide) (by decide) ?_
      exact lc_2 C1 x y i hi4 (by omega) hR J _ _ _ ⟨hP, hD, hS, hl⟩
    by_cases hq3 : v = 3
    · refine zs_tab (pc := 32) (tgt := 275) (k := 3) (off := 243) hX hB dL_law_32 hq3 (by decide) (by decide) (by decide) (by decide) ?_
      exact lc_3 C1 x y i hi4 (by omega) hR J _ _ _ ⟨hP, hD, hS, hl⟩
    by_cases hq4 : v = 4
    · refine zs_tab (pc := 32) (tgt := 298) (k := 4) (off := 266) hX hB dL_law_32 hq4 (by decide) (by decide) (by decide) (by decide) ?_
      exact lc_4 C1 x y i hi4 (by omega) hR J _ _ _ ⟨hP, hD, hS, hl⟩
    by_cases hq5 : v = 5
    · refine zs_tab (pc := 32) (tgt := 311) (k := 5) (off := 279) hX hB dL_law_32 hq5 (by decide) (by decide) (by decide) (by decide) ?_
      exact lc_5 C1 x y i hi4 (by omega) hR J _ _ _ ⟨hP, hD, hS, hl⟩
    by_cases hq6 : v = 6
    · refine zs_tab (pc := 32) (tgt := 324) (k := 6) (off := 292) hX hB dL_law_32 hq6 (by decide) (by decide) (by decide) (by decide) ?_
      exact lc_6 C1 x y i hi4 (by omega) hR J _ _ _ ⟨hP, hD, hS, hl⟩
    by_cases hq7 : v = 7
    · refine zs_tab (pc := 32) (tgt := 347) (k := 7) (off := 315) hX hB dL_law_32 hq7 (by decide) (by decide) (by decide) (by decide) ?_
      exact lc_7 C1 x y i hi4 (by omega) hR J _ _ _ ⟨hP, hD, hS, hl⟩
    by_cases hq8 : v = 8
    · refine zs_tab (pc := 32) (tgt := 370) (k := 8) (off := 338) hX hB dL_law_32 hq8 (by decide) (by decide) (by decide) (by decide) ?_
      exact lc_8 C1 x y i hi4 (by omega) hR J _ _ _ ⟨hP, hD, hS, hl⟩
    by_cases hq9 : v = 9
    · refine zs_tab (pc := 32) (tgt := 383) (k := 9) (off := 351) hX hB dL_law_32 hq9 (by decide) (by decide) (by decide) (by decide) ?_
      exact lc_9 C1 x y i hi4 (by omega) hR J _ _ _ ⟨hP, hD, hS, hl⟩
    by_cases hq10 : v = 10
    · refine zs_tab (pc := 32) (tgt := 416) (k := 10) (off := 384) hX hB dL_law_32 hq10 (by decide) (by decide) (by decide) (by decide) ?_
      exact lc_10 C1 x y i hi4 (by omega) hR J _ _ _ ⟨hP, hD, hS, hl⟩
    by_cases hq11 : v = 11
    · refine zs_tab (pc := 32) (tgt := 459) (k := 11) (off := 427) hX hB dL_law_32 hq11 (by decide) (by decide) (by decide) (by decide) ?_
      exact lc_11 C1 x y i hi4 (by omega) hR J _ _ _ ⟨hP, hD, hS, hl⟩
    by_cases hq12 : v = 12
    · refine zs_tab (pc := 32) (tgt := 482) (k := 12) (off := 450) hX hB dL_law_32 hq12 (by decide) (by decide) (by decide) (by decide) ?_
      exact lc_12 C1 x y i hi4 (by omega) hR J _ _ _ ⟨hP, hD, hS, hl⟩
    by_cases hq13 : v = 13
    · refine zs_tab (pc := 32) (tgt := 505) (k := 13) (off := 473) hX hB dL_law_32 hq13 (by decide) (by decide) (by decide) (by decide) ?_
      exact lc_13 C1 x y i hi4 (by omega) hR J _ _ _ ⟨hP, hD, hS, hl⟩
    by_cases hq14 : v = 14
    · refine zs_tab (pc := 32) (tgt := 538) (k := 14) (off := 506) hX hB dL_law_32 hq14 (by decide) (by decide) (by decide) (by decide) ?_
      exact lc_14 C1 x y i hi4 (by omega) hR J _ _ _ ⟨hP, hD, hS, hl⟩
    by_cases hq15 : v = 15
    · refine zs_tab (pc := 32) (tgt := 571) (k := 15) (off := 539) hX hB dL_law_32 hq15 (by decide) (by decide) (by decide) (by decide) ?_
      exact lc_15 C1 x y i hi4 (by omega) hR J _ _ _ ⟨hP, hD, hS, hl⟩
    by_cases hq16 : v = 16
    · refine zs_tab (pc := 32) (tgt := 584) (k := 16) (off := 552) hX hB dL_law_32 hq16 (by decide) (by decide) (by decide) (by decide) ?_
      exact lc_16 C1 x y i hi4 (by omega) hR J _ _ _ ⟨hP, hD, hS, hl⟩
    by_cases hq17 : v = 17
    · refine zs_tab (pc := 32) (tgt := 597) (k := 17) (off := 565) hX hB dL_law_32 hq17 (by decide) (by decide) (by decide) (by decide) ?_
      exact lc_17 C1 x y i hi4 (by omega) hR J _ _ _ ⟨hP, hD, hS, hl⟩
    by_cases hq18 : v = 18
    · refine zs_tab (pc := 32) (tgt := 610) (k := 18) (off := 578) hX hB dL_law_32 hq18 (by decide) (by decide) (by decide) (by decide) ?_
      exact lc_18 C1 x y i hi4 (by omega) hR J _ _ _ ⟨hP, hD, hS, hl⟩
    by_cases hq19 : v = 19
    · refine zs_tab (pc := 32) (tgt := 623) (k := 19) (off := 591) hX hB dL_law_32 hq19 (by decide) (by decide) (by decide) (by decide) ?_
      exact lc_19 C1 x y i hi4 (by omega) hR J _ _ _ ⟨hP, hD, hS, hl⟩
    by_cases hq20 : v = 20
    · refine zs_tab (pc := 32) (tgt := 666) (k := 20) (off := 634) hX hB dL_law_32 hq20 (by decide) (by decide) (by decide) (by decide) ?_
      exact lc_20 C1 x y i hi4 (by omega) hR J _ _ _ ⟨hP, hD, hS, hl⟩
    by_cases hq21 : v = 21
    · refine zs_tab (pc := 32) (tgt := 689) (k := 21) (off := 657) hX hB dL_law_32 hq21 (by decide) (by decide) (by decide) (by decide) ?_
      exact lc_21 C1 x y i hi4 (by omega) hR J _ _ _ ⟨hP, hD, hS, hl⟩
    by_cases hq22 : v = 22
    · refine zs_tab (pc := 32) (tgt := 722) (k := 22) (off := 690) hX hB dL_law_32 hq22 (by decide) (by decide) (by decide) (by decide) ?_
      exact lc_22 C1 x y i hi4 (by omega) hR J _ _ _ ⟨hP, hD, hS, hl⟩
    by_cases hq23 : v = 23
    · refine zs_tab (pc := 32) (tgt := 745) (k := 23) (off := 713) hX hB dL_law_32 hq23 (by decide) (by decide) (by decide) (by decide) ?_
      exact lc_23 C1 x y i hi4 (by omega) hR J _ _ _ ⟨hP, hD, hS, hl⟩
    by_cases hq24 : v = 24
    · refine zs_tab (pc := 32) (tgt := 778) (k := 24) (off := 746) hX hB dL_law_32 hq24 (by decide) (by decide) (by decide) (by decide) ?_
      exact lc_24 C1 x y i hi4 (by omega) hR J _ _ _ ⟨hP, hD, hS, hl⟩
    by_cases hq25 : v = 25
    · refine zs_tab (pc := 32) (tgt := 811) (k := 25) (off := 779) hX hB dL_law_32 hq25 (by decide) (by decide) (by decide) (by decide) ?_
      exact lc_25 C1 x y i hi4 (by omega) hR J _ _ _ ⟨hP, hD, hS, hl⟩
    by_cases hq26 : v = 26
    · refine zs_tab (pc := 32) (tgt := 854) (k := 26) (off := 822) hX hB dL_law_32 hq26 (by decide) (by decide) (by decide) (by decide) ?_
      exact lc_26 C1 x y i hi4 (by omega) hR J _ _ _ ⟨hP, hD, hS, hl⟩
    by_cases hq27 : v = 27
    · refine zs_tab (pc := 32) (tgt := 878) (k := 27) (off := 846) hX hB dL_law_32 hq27 (by decide) (by decide) (by decide) (by decide) ?_
      exact lc_27 C1 x y i hi4 (by omega) hR J _ _ _ ⟨hP, hD, hS, hl⟩
    by_cases hq28 : v = 28
    · refine zs_tab (pc := 32) (tgt := 901) (k := 28) (off := 869) hX hB dL_law_32 hq28 (by decide) (by decide) (by decide) (by decide) ?_
      exact lc_28 C1 x y i hi4 (by omega) hR J _ _ _ ⟨hP, hD, hS, hl⟩
    by_cases hq29 : v = 29
    · refine zs_tab (pc := 32) (tgt := 924) (k := 29) (off := 892) hX hB dL_law_32 hq29 (by decide) (by decide) (by decide) (by decide) ?_
      exact lc_29 C1 x y i hi4 (by omega) hR J _ _ _ ⟨hP, hD, hS, hl⟩
    by_cases hq30 : v = 30
    · refine zs_tab (pc := 32) (tgt := 947) (k := 30) (off := 915) hX hB dL_law_32 hq30 (by decide) (by decide) (by decide) (by decide) ?_
      exact lc_30 C1 x y i hi4 (by omega) hR J _ _ _ ⟨hP, hD, hS, hl⟩
    by_cases hq31 : v = 31
    · refine zs_tab (pc := 32) (tgt := 970) (k := 31) (off := 938) hX hB dL_law_32 hq31 (by decide) (by decide) (by decide) (by decide) ?_
      exact lc_31 C1 x y i hi4 (by omega) hR J _ _ _ ⟨hP, hD, hS, hl⟩
    refine lv_tableOut (pc := 32) (tgt := 984) hX hB dL_law_32 (by have z0 := lv_neT hq0 (a := 0) (by decide); have z1 := lv_neT hq1 (a := 1) (by decide); have z2 := lv_neT hq2 (a := 2) (by decide); have z3 := lv_neT hq3 (a := 3) (by decide); have z4 := lv_neT hq4 (a := 4) (by decide); have z5 := lv_neT hq5 (a := 5) (by decide); have z6 := lv_neT hq6 (a := 6) (by decide); have z7 := lv_neT hq7 (a := 7) (by decide); have z8 := lv_neT hq8 (a := 8) (by decide); have z9 := lv_neT hq9 (a := 9) (by decide); have z10 := lv_neT hq10 (a := 10) (by decide); have z11 := lv_neT hq11 (a := 11) (by decide); have z12 := lv_neT hq12 (a := 12) (by decide); have z13 := lv_neT hq13 (a := 13) (by decide); have z14 := lv_neT hq14 (a := 14) (by decide); have z15 := lv_neT hq15 (a := 15) (by decide); have z16 := lv_neT hq16 (a := 16) (by decide); have z17 := lv_neT hq17 (a := 17) (by decide); have z18 := lv_neT hq18 (a := 18) (by decide); have z19 := lv_neT hq19 (a := 19) (by decide); have z20 := lv_neT hq20 (a := 20) (by decide); have z21 := lv_neT hq21 (a := 21) (by decide); have z22 := lv_neT hq22 (a := 22) (by decide); have z23 := lv_neT hq23 (a := 23) (by decide); have z24 := lv_neT hq24 (a := 24) (by decide); have z25 := lv_neT hq25 (a := 25) (by decide); have z26 := lv_neT hq26 (a := 26) (by decide); have z27 := lv_neT hq27 (a := 27) (by decide); have z28 := lv_neT hq28 (a := 28) (by decide); have z29 := lv_neT hq29 (a := 29) (by decide); have z30 := lv_neT hq30 (a := 30) (by decide); have z31 := lv_neT hq31 (a := 31) (by decide); omega) (by decide) ?_
    exact J x y (hR.mono (by omega)) _ _ _ ⟨hP, hD, hS, hl⟩
theorem law_loop {p : Program} {l : Launch} {e : Env} {s : State} {m : MethodId} {below : List Frame} {meth : Method} {c : Code} {g : GG} {b L : Nat} {xs : Nat → Int32} {a : Nat → Nat} (C0 : LwC p s m c g b L xs) (hr : meth.sig.returnType = ret) (hlocks : meth.locks = false) : ∀ (n i : Nat), L ≤ i + n → i ≤ 260 → ∀ (x : CX) (y : MX), RR i x y → ∀ H locs ls, CC g (fun q : Nat => s.heap.size ≤ q) s.heap 4 (wL g a x y) [(0, .ref b), (1, .ref (a 0)), (2, .ref (a 33)), (3, .int (nI i))] H locs ls → W p l e room_1 s m #[Value.ref b] below meth c H locs 45 918 (lw_Z below #[Value.ref b] s) (F0 m 18 ls []) := by
  intro n
  induction n with
  | zero =>
    intro i h1 h2 x y hR
    exact law_head C0 hr hlocks x y i h2 hR (fun h => absurd h (by omega))
  | succ n ih =>
    intro i h1 h2 x y hR
    have hL : L ≤ 256 := C0.2.2.2.2.2.2.2.2
    exact law_head C0 hr hlocks x y i h2 hR (fun h x y hR => ih (i + 4) (by omega) (by omega) x y hR)
