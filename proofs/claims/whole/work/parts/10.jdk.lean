def f_J6_bitCount_0f7a4 (p1 : Int32) : Option (Int32) :=
  nm (((p1 - ((jushr p1 (1 : Int32)) &&& (1431655765 : Int32))) &&& (858993459 : Int32)) + ((jushr (p1 - ((jushr p1 (1 : Int32)) &&& (1431655765 : Int32))) (2 : Int32)) &&& (858993459 : Int32))) (fun w1 => nm (((w1 + (jushr w1 (4 : Int32))) &&& (252645135 : Int32)) + (jushr ((w1 + (jushr w1 (4 : Int32))) &&& (252645135 : Int32)) (8 : Int32))) (fun w2 => some ((w2 + (jushr w2 (16 : Int32))) &&& (63 : Int32))))
set_option maxHeartbeats 4000000 in
set_option maxRecDepth 100000 in
theorem c_J6_bitCount_0f7a4 (l : Launch) (g : GG) (sz : Nat) (p1 : Int32) (o : Int32) (hf : f_J6_bitCount_0f7a4 p1 = some o) : Met l yJ6_bitCount_0f7a4 (Cond.code yJ6_bitCount_0f7a4 cJ6_bitCount_0f7a4 1 (some .int) :: TB) { frames := 0, cells := 0, slots := 0, locals := 0 } (Pst g [] [.int p1] sz) (Qst g [] (some (.int o)) (va_A [] sz)) 0 0 (va_A [] sz) := by
  unfold f_J6_bitCount_0f7a4 at hf
  refine zs_met (own := RJ6) (plainFor_of_name (by decide)) rfl (Nat.le_of_ble_eq_true rfl) ?_
  intro p e s m below meth c A ls hX hB hR hM hT hO hK hN hA hE hP hD hS hl
  have hl : lv_has ls 1 [(0, .int p1)] := hl
  refine lv_iload_n (pc := 0) hX hB dJ6_bitCount_0f7a4_0 rfl (lv_at hl 0 rfl) ?_
  refine lv_iload_n (pc := 1) hX hB dJ6_bitCount_0f7a4_1 rfl (lv_at hl 0 rfl) ?_
  refine lv_iconst (pc := 2) (v := 1) hX hB dJ6_bitCount_0f7a4_2 (by decide) ?_
  refine zs_iushr (pc := 3) hX hB dJ6_bitCount_0f7a4_3 ?_
  refine lv_ldcw (pc := 4) (v := 1431655765) hX hB hO (hT _ tw_2_133) dJ6_bitCount_0f7a4_4 ?_
  refine lv_iand (pc := 7) hX hB dJ6_bitCount_0f7a4_7 ?_
  refine lv_isub (pc := 8) hX hB dJ6_bitCount_0f7a4_8 ?_
  refine lv_istore_n (pc := 9) (lv' := [(0, .int (p1 - ((jushr p1 (1 : Int32)) &&& (1431655765 : Int32))))]) hX hB dJ6_bitCount_0f7a4_9 rfl hl (by decide) rfl (fun ls hl => ?_)
  refine lv_iload_n (pc := 10) hX hB dJ6_bitCount_0f7a4_10 rfl (lv_at hl 0 rfl) ?_
  refine lv_ldcw (pc := 11) (v := 858993459) hX hB hO (hT _ tw_2_134) dJ6_bitCount_0f7a4_11 ?_
  refine lv_iand (pc := 14) hX hB dJ6_bitCount_0f7a4_14 ?_
  refine lv_iload_n (pc := 15) hX hB dJ6_bitCount_0f7a4_15 rfl (lv_at hl 0 rfl) ?_
  refine lv_iconst (pc := 16) (v := 2) hX hB dJ6_bitCount_0f7a4_16 (by decide) ?_
  refine zs_iushr (pc := 17) hX hB dJ6_bitCount_0f7a4_17 ?_
  refine lv_ldcw (pc := 18) (v := 858993459) hX hB hO (hT _ tw_2_134) dJ6_bitCount_0f7a4_18 ?_
  refine lv_iand (pc := 21) hX hB dJ6_bitCount_0f7a4_21 ?_
  refine lv_iadd (pc := 22) hX hB dJ6_bitCount_0f7a4_22 ?_
  obtain ⟨w1, ew1, hf⟩ := zs_nm hf
  rw [← ew1]
  refine lv_istore_n (pc := 23) (lv' := [(0, .int w1)]) hX hB dJ6_bitCount_0f7a4_23 rfl hl (by decide) rfl (fun ls hl => ?_)
  refine lv_iload_n (pc := 24) hX hB dJ6_bitCount_0f7a4_24 rfl (lv_at hl 0 rfl) ?_
  refine lv_iload_n (pc := 25) hX hB dJ6_bitCount_0f7a4_25 rfl (lv_at hl 0 rfl) ?_
  refine lv_iconst (pc := 26) (v := 4) hX hB dJ6_bitCount_0f7a4_26 (by decide) ?_
  refine zs_iushr (pc := 27) hX hB dJ6_bitCount_0f7a4_27 ?_
  refine lv_iadd (pc := 28) hX hB dJ6_bitCount_0f7a4_28 ?_
  refine lv_ldcw (pc := 29) (v := 252645135) hX hB hO (hT _ tw_2_135) dJ6_bitCount_0f7a4_29 ?_
  refine lv_iand (pc := 32) hX hB dJ6_bitCount_0f7a4_32 ?_
  refine lv_istore_n (pc := 33) (lv' := [(0, .int ((w1 + (jushr w1 (4 : Int32))) &&& (252645135 : Int32)))]) hX hB dJ6_bitCount_0f7a4_33 rfl hl (by decide) rfl (fun ls hl => ?_)
  refine lv_iload_n (pc := 34) hX hB dJ6_bitCount_0f7a4_34 rfl (lv_at hl 0 rfl) ?_
  refine lv_iload_n (pc := 35) hX hB dJ6_bitCount_0f7a4_35 rfl (lv_at hl 0 rfl) ?_
  refine lv_bipush (pc := 36) (v := 8) hX hB dJ6_bitCount_0f7a4_36 (by decide) ?_
  refine zs_iushr (pc := 38) hX hB dJ6_bitCount_0f7a4_38 ?_
  refine lv_iadd (pc := 39) hX hB dJ6_bitCount_0f7a4_39 ?_
  obtain ⟨w2, ew2, hf⟩ := zs_nm hf
  rw [← ew2]
  refine lv_istore_n (pc := 40) (lv' := [(0, .int w2)]) hX hB dJ6_bitCount_0f7a4_40 rfl hl (by decide) rfl (fun ls hl => ?_)
  refine lv_iload_n (pc := 41) hX hB dJ6_bitCount_0f7a4_41 rfl (lv_at hl 0 rfl) ?_
  refine lv_iload_n (pc := 42) hX hB dJ6_bitCount_0f7a4_42 rfl (lv_at hl 0 rfl) ?_
  refine lv_bipush (pc := 43) (v := 16) hX hB dJ6_bitCount_0f7a4_43 (by decide) ?_
  refine zs_iushr (pc := 45) hX hB dJ6_bitCount_0f7a4_45 ?_
  refine lv_iadd (pc := 46) hX hB dJ6_bitCount_0f7a4_46 ?_
  refine lv_istore_n (pc := 47) (lv' := [(0, .int (w2 + (jushr w2 (16 : Int32))))]) hX hB dJ6_bitCount_0f7a4_47 rfl hl (by decide) rfl (fun ls hl => ?_)
  refine lv_iload_n (pc := 48) hX hB dJ6_bitCount_0f7a4_48 rfl (lv_at hl 0 rfl) ?_
  refine lv_bipush (pc := 49) (v := 63) hX hB dJ6_bitCount_0f7a4_49 (by decide) ?_
  refine lv_iand (pc := 51) hX hB dJ6_bitCount_0f7a4_51 ?_
  obtain rfl := Option.some.inj hf
  exact zs_iret (pc := 52) hX hB hR hK hP hD hS dJ6_bitCount_0f7a4_52

def b_J7_fill_53178_5 (p2 : Int32) (n1 : Nat) (x1 : Int32 × (Nat → Int32)) : Option ((Int32 × (Nat → Int32)) ⊕ ((Nat → Int32))) :=
  if (Int32.ofNat n1) ≤ x1.1 then (some (Sum.inr x1.2)) else (gd (inb x1.1 n1) (some (Sum.inl (x1.1 + (1 : Int32), upd x1.2 x1.1.toNatClampNeg p2))))
def f_J7_fill_53178 (n1 : Nat) (v_P1 : Nat → Int32) (p2 : Int32) : Option ((Nat → Int32)) :=
  (lp (b_J7_fill_53178_5 p2 n1) 200 ((0 : Int32), v_P1)).bind (fun y2 => some y2)
set_option maxHeartbeats 4000000 in
set_option maxRecDepth 100000 in
theorem c_J7_fill_53178 (l : Launch) (g : GG) (sz : Nat) (a_P1 : Nat) (n1 : Nat) (v_P1 : Nat → Int32) (p2 : Int32) (o : (Nat → Int32)) (hf : f_J7_fill_53178 n1 v_P1 p2 = some o) : Met l yJ7_fill_53178 (Cond.code yJ7_fill_53178 cJ7_fill_53178 4 none :: TB) { frames := 0, cells := 0, slots := 0, locals := 0 } (Pst g [(a_P1, .inl (gI g, n1, .inl v_P1))] [.ref a_P1, .int p2] sz) (Qst g [(a_P1, .inl (gI g, n1, .inl o))] (none) (va_A [(a_P1, .inl (gI g, n1, .inl v_P1))] sz)) 0 0 (va_A [(a_P1, .inl (gI g, n1, .inl v_P1))] sz) := by
  unfold f_J7_fill_53178 at hf
  refine zs_met (own := RJ7) (plainFor_of_name (by decide)) rfl (Nat.le_of_ble_eq_true rfl) ?_
  intro p e s m below meth c A ls hX hB hR hM hT hO hK hN hA hE hP hD hS hl
  have hl : lv_has ls 4 [(0, .ref a_P1), (1, .int p2)] := hl
  refine lv_iconst (pc := 0) (v := 0) hX hB dJ7_fill_53178_0 (by decide) ?_
  refine lv_istore_n (pc := 1) (lv' := [(2, .int (0 : Int32)), (0, .ref a_P1), (1, .int p2)]) hX hB dJ7_fill_53178_1 rfl hl (by decide) rfl (fun ls hl => ?_)
  refine lv_aload_n (pc := 2) hX hB dJ7_fill_53178_2 rfl (lv_at hl 1 rfl) ?_
  refine va_alen (pc := 3) hX hB hE.1 hP 0 0 rfl rfl (v := Int32.ofNat n1) rfl dJ7_fill_53178_3 ?_
  refine lv_istore_n (pc := 4) (lv' := [(3, .int (Int32.ofNat n1)), (2, .int (0 : Int32)), (0, .ref a_P1), (1, .int p2)]) hX hB dJ7_fill_53178_4 rfl hl (by decide) rfl (fun ls hl => ?_)
  obtain ⟨y2, hj, hf⟩ := zs_bind hf
  refine zs_then (α := Unit) (fun _ H locs ls => CC g A s.heap 4 [(a_P1, .inl (gI g, n1, .inl y2))] [] H locs ls) (fun _ ls => F0 m 20 ls []) (fun _ H locs ls hC => ?_) (fun X => ?_)
  · obtain ⟨hP, hD, hS, hl⟩ := hC
    obtain rfl := Option.some.inj hf
    exact zs_vret (pc := 20) hX hB hR hK hP hD hS dJ7_fill_53178_20
  · refine zs_loop (fun x1 H locs ls => CC g A s.heap 4 [(a_P1, .inl (gI g, n1, .inl x1.2))] [(0, .ref a_P1), (1, .int p2), (2, .int x1.1), (3, .int (Int32.ofNat n1))] H locs ls) hj (fun n x1 q hf hr ih H locs ls hC => ?_) ⟨hP, hD, hS, lv_sub hl [2, 3, 1, 0] rfl⟩
    obtain ⟨hP, hD, hS, hl⟩ := hC
    unfold b_J7_fill_53178_5 at hf
    refine lv_iload_n (pc := 5) hX hB dJ7_fill_53178_5 rfl (lv_at hl 2 rfl) ?_
    refine lv_iload_n (pc := 6) hX hB dJ7_fill_53178_6 rfl (lv_at hl 3 rfl) ?_
    refine lv_icmp_ge (pc := 7) (tgt := 20) hX hB dJ7_fill_53178_7 (by decide) (fun hq => ?_) (fun hq => ?_)
    · have hf := zs_ip hf hq
      obtain rfl := Option.some.inj hf
      obtain rfl := hr
      exact X () _ _ _ ⟨hP, hD, hS, lv_sub hl [] rfl⟩
    · have hf := zs_in hf hq
      refine lv_aload_n (pc := 10) hX hB dJ7_fill_53178_10 rfl (lv_at hl 0 rfl) ?_
      refine lv_iload_n (pc := 11) hX hB dJ7_fill_53178_11 rfl (lv_at hl 2 rfl) ?_
      refine lv_iload_n (pc := 12) hX hB dJ7_fill_53178_12 rfl (lv_at hl 1 rfl) ?_
      obtain ⟨hg, hf⟩ := zs_gd hf
      refine zs_iast (pc := 13) (w2 := [(a_P1, .inl (gI g, n1, .inl (upd x1.2 x1.1.toNatClampNeg p2)))]) hX hB hE hP hD hS 0 rfl (zs_inb hg) rfl dJ7_fill_53178_13 (fun H locs hP hD hS => ?_)
      refine lv_iinc (pc := 14) (v := x1.1 + (1 : Int32)) (lv' := [(2, .int (x1.1 + (1 : Int32))), (0, .ref a_P1), (1, .int p2), (3, .int (Int32.ofNat n1))]) hX hB dJ7_fill_53178_14 hl (k := 2) rfl rfl (by decide) rfl (fun ls hl => ?_)
      refine lv_goto (pc := 17) (tgt := 5) hX hB dJ7_fill_53178_17 (by decide) ?_
      obtain rfl := Option.some.inj hf
      exact ih _ hr _ _ _ ⟨hP, hD, hS, lv_sub hl [1, 2, 0, 3] rfl⟩

def f_J9_floorMod_7cf53 (p1 : Int32) (p2 : Int32) : Option (Int32) :=
  gd (decide (¬ p2 = 0)) (if (0 : Int32) ≤ (p1 ^^^ p2) then (some (jrem p1 p2)) else (if (jrem p1 p2) = (0 : Int32) then (some (jrem p1 p2)) else (some ((jrem p1 p2) + p2))))
set_option maxHeartbeats 4000000 in
set_option maxRecDepth 100000 in
theorem c_J9_floorMod_7cf53 (l : Launch) (g : GG) (sz : Nat) (p1 : Int32) (p2 : Int32) (o : Int32) (hf : f_J9_floorMod_7cf53 p1 p2 = some o) : Met l yJ9_floorMod_7cf53 (Cond.code yJ9_floorMod_7cf53 cJ9_floorMod_7cf53 3 (some .int) :: TB) { frames := 0, cells := 0, slots := 0, locals := 0 } (Pst g [] [.int p1, .int p2] sz) (Qst g [] (some (.int o)) (va_A [] sz)) 0 0 (va_A [] sz) := by
  unfold f_J9_floorMod_7cf53 at hf
  refine zs_met (own := RJ9) pn_J9_floorMod_7cf53 rfl (Nat.le_of_ble_eq_true rfl) ?_
  intro p e s m below meth c A ls hX hB hR hM hT hO hK hN hA hE hP hD hS hl
  have hl : lv_has ls 3 [(0, .int p1), (1, .int p2)] := hl
  refine lv_iload_n (pc := 0) hX hB dJ9_floorMod_7cf53_0 rfl (lv_at hl 0 rfl) ?_
  refine lv_iload_n (pc := 1) hX hB dJ9_floorMod_7cf53_1 rfl (lv_at hl 1 rfl) ?_
  obtain ⟨hg, hf⟩ := zs_gd hf
  refine zs_irem (pc := 2) hX hB dJ9_floorMod_7cf53_2 (of_decide_eq_true hg) ?_
  refine lv_istore_n (pc := 3) (lv' := [(2, .int (jrem p1 p2)), (0, .int p1), (1, .int p2)]) hX hB dJ9_floorMod_7cf53_3 rfl hl (by decide) rfl (fun ls hl => ?_)
  refine lv_iload_n (pc := 4) hX hB dJ9_floorMod_7cf53_4 rfl (lv_at hl 1 rfl) ?_
  refine lv_iload_n (pc := 5) hX hB dJ9_floorMod_7cf53_5 rfl (lv_at hl 2 rfl) ?_
  refine lv_ixor (pc := 6) hX hB dJ9_floorMod_7cf53_6 ?_
  refine lv_if_ge (pc := 7) (tgt := 18) hX hB dJ9_floorMod_7cf53_7 (by decide) (fun hq => ?_) (fun hq => ?_)
  · have hf := zs_ip hf hq
    refine lv_iload_n (pc := 18) hX hB dJ9_floorMod_7cf53_18 rfl (lv_at hl 0 rfl) ?_
    obtain rfl := Option.some.inj hf
    exact zs_iret (pc := 19) hX hB hR hK hP hD hS dJ9_floorMod_7cf53_19
  · have hf := zs_in hf hq
    refine lv_iload_n (pc := 10) hX hB dJ9_floorMod_7cf53_10 rfl (lv_at hl 0 rfl) ?_
    refine lv_if_eq (pc := 11) (tgt := 18) hX hB dJ9_floorMod_7cf53_11 (by decide) (fun hq => ?_) (fun hq => ?_)
    · have hf := zs_ip hf hq
      refine lv_iload_n (pc := 18) hX hB dJ9_floorMod_7cf53_18 rfl (lv_at hl 0 rfl) ?_
      obtain rfl := Option.some.inj hf
      exact zs_iret (pc := 19) hX hB hR hK hP hD hS dJ9_floorMod_7cf53_19
    · have hf := zs_in hf hq
      refine lv_iload_n (pc := 14) hX hB dJ9_floorMod_7cf53_14 rfl (lv_at hl 0 rfl) ?_
      refine lv_iload_n (pc := 15) hX hB dJ9_floorMod_7cf53_15 rfl (lv_at hl 2 rfl) ?_
      refine lv_iadd (pc := 16) hX hB dJ9_floorMod_7cf53_16 ?_
      obtain rfl := Option.some.inj hf
      exact zs_iret (pc := 17) hX hB hR hK hP hD hS dJ9_floorMod_7cf53_17
