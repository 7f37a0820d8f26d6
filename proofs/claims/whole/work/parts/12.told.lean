def f_X2_empty (v_T_numbers : Nat → Int32) : Option ((Nat → Int32)) :=
  (f_J7_fill_53178 6 v_T_numbers (-1 : Int32)).bind (fun o1 => some o1)
set_option maxHeartbeats 4000000 in
set_option maxRecDepth 100000 in
theorem c_X2_empty (l : Launch) (g : GG) (sz : Nat) (a_T a_T_numbers : Nat) (v_T_numbers : Nat → Int32) (o : (Nat → Int32)) (hf : f_X2_empty v_T_numbers = some o) : Met l yX2_empty (Cond.code yX2_empty cX2_empty 1 none :: TB) { frames := 1, cells := 0, slots := 0, locals := 23 } (Pst g [(a_T, .inr (2, [.ref a_T_numbers])), (a_T_numbers, .inl (gI g, 6, .inl v_T_numbers))] [.ref a_T] sz) (Qst g [(a_T, .inr (2, [.ref a_T_numbers])), (a_T_numbers, .inl (gI g, 6, .inl o))] (none) (va_A [(a_T, .inr (2, [.ref a_T_numbers])), (a_T_numbers, .inl (gI g, 6, .inl v_T_numbers))] sz)) 0 0 (va_A [(a_T, .inr (2, [.ref a_T_numbers])), (a_T_numbers, .inl (gI g, 6, .inl v_T_numbers))] sz) := by
  unfold f_X2_empty at hf
  refine zs_met (own := RX2) (plainFor_of_name (by decide)) rfl (Nat.le_of_ble_eq_true rfl) ?_
  intro p e s m below meth c A ls hX hB hR hM hT hO hK hN hA hE hP hD hS hl
  have hl : lv_has ls 1 [(0, .ref a_T)] := hl
  refine lv_aload_n (pc := 0) hX hB dX2_empty_0 rfl (lv_at hl 0 rfl) ?_
  refine gf_X2_9 (pc := 1) (v := .ref a_T_numbers) hX hB hT hO hE hP 0 rfl rfl dX2_empty_1 ?_
  refine lv_iconst (pc := 4) (v := -1) hX hB dX2_empty_4 (by decide) ?_
  obtain ⟨o1, hc, hf⟩ := zs_bind hf
  refine zs_S (pc := 5) (As := [.ref a_T_numbers, .int (-1 : Int32)]) (rest := []) (st1 := []) (wc := [(a_T_numbers, .inl (gI g, 6, .inl v_T_numbers))]) (wr := [(a_T, .inr (2, [.ref a_T_numbers]))]) (w1 := [(a_T_numbers, .inl (gI g, 6, .inl o1))]) (w2 := [(a_T, .inr (2, [.ref a_T_numbers])), (a_T_numbers, .inl (gI g, 6, .inl o1))]) (ov := none) lb_J7_fill_53178 lk_X2_15 hX hB hM hO hT hE hP hD hS hA (c_J7_fill_53178 l g _ a_T_numbers 6 v_T_numbers (-1 : Int32) o1 hc) ⟨rfl, rfl⟩ ⟨Nat.le_of_ble_eq_true rfl, Nat.le_of_ble_eq_true rfl⟩ [1] [0] [0, 1] rfl rfl rfl rfl (by decide) rfl rfl rfl rfl hl.1 (Nat.le_of_ble_eq_true rfl) ⟨Nat.zero_le _, Nat.zero_le _⟩ rfl dX2_empty_5 (fun H locs hP hD hS => ?_)
  obtain rfl := Option.some.inj hf
  exact zs_vret (pc := 8) hX hB hR hK hP hD hS dX2_empty_8

def f_X2_put (v_T_numbers : Nat → Int32) (p1 : Int32) (p2 : Int32) : Option ((Nat → Int32)) :=
  if p1 < (0 : Int32) then (some v_T_numbers) else (if (6 : Int32) ≤ p1 then (some v_T_numbers) else (gd (inb p1 6) (some (upd v_T_numbers p1.toNatClampNeg p2))))
set_option maxHeartbeats 4000000 in
set_option maxRecDepth 100000 in
theorem c_X2_put (l : Launch) (g : GG) (sz : Nat) (a_T a_T_numbers : Nat) (v_T_numbers : Nat → Int32) (p1 : Int32) (p2 : Int32) (o : (Nat → Int32)) (hf : f_X2_put v_T_numbers p1 p2 = some o) : Met l yX2_put (Cond.code yX2_put cX2_put 3 none :: TB) { frames := 0, cells := 0, slots := 0, locals := 0 } (Pst g [(a_T, .inr (2, [.ref a_T_numbers])), (a_T_numbers, .inl (gI g, 6, .inl v_T_numbers))] [.ref a_T, .int p1, .int p2] sz) (Qst g [(a_T, .inr (2, [.ref a_T_numbers])), (a_T_numbers, .inl (gI g, 6, .inl o))] (none) (va_A [(a_T, .inr (2, [.ref a_T_numbers])), (a_T_numbers, .inl (gI g, 6, .inl v_T_numbers))] sz)) 0 0 (va_A [(a_T, .inr (2, [.ref a_T_numbers])), (a_T_numbers, .inl (gI g, 6, .inl v_T_numbers))] sz) := by
  unfold f_X2_put at hf
  refine zs_met (own := RX2) (plainFor_of_name (by decide)) rfl (Nat.le_of_ble_eq_true rfl) ?_
  intro p e s m below meth c A ls hX hB hR hM hT hO hK hN hA hE hP hD hS hl
  have hl : lv_has ls 3 [(0, .ref a_T), (1, .int p1), (2, .int p2)] := hl
  refine lv_iload_n (pc := 0) hX hB dX2_put_0 rfl (lv_at hl 1 rfl) ?_
  refine lv_if_lt (pc := 1) (tgt := 20) hX hB dX2_put_1 (by decide) (fun hq => ?_) (fun hq => ?_)
  · have hf := zs_ip hf hq
    obtain rfl := Option.some.inj hf
    exact zs_vret (pc := 20) hX hB hR hK hP hD hS dX2_put_20
  · have hf := zs_in hf hq
    refine lv_iload_n (pc := 4) hX hB dX2_put_4 rfl (lv_at hl 1 rfl) ?_
    refine lv_aload_n (pc := 5) hX hB dX2_put_5 rfl (lv_at hl 0 rfl) ?_
    refine gf_X2_9 (pc := 6) (v := .ref a_T_numbers) hX hB hT hO hE hP 0 rfl rfl dX2_put_6 ?_
    refine va_alen (pc := 9) hX hB hE.1 hP 1 0 rfl rfl (v := (6 : Int32)) rfl dX2_put_9 ?_
    refine lv_icmp_ge (pc := 10) (tgt := 20) hX hB dX2_put_10 (by decide) (fun hq => ?_) (fun hq => ?_)
    · have hf := zs_ip hf hq
      obtain rfl := Option.some.inj hf
      exact zs_vret (pc := 20) hX hB hR hK hP hD hS dX2_put_20
    · have hf := zs_in hf hq
      refine lv_aload_n (pc := 13) hX hB dX2_put_13 rfl (lv_at hl 0 rfl) ?_
      refine gf_X2_9 (pc := 14) (v := .ref a_T_numbers) hX hB hT hO hE hP 0 rfl rfl dX2_put_14 ?_
      refine lv_iload_n (pc := 17) hX hB dX2_put_17 rfl (lv_at hl 1 rfl) ?_
      refine lv_iload_n (pc := 18) hX hB dX2_put_18 rfl (lv_at hl 2 rfl) ?_
      obtain ⟨hg, hf⟩ := zs_gd hf
      refine zs_iast (pc := 19) (w2 := [(a_T, .inr (2, [.ref a_T_numbers])), (a_T_numbers, .inl (gI g, 6, .inl (upd v_T_numbers p1.toNatClampNeg p2)))]) hX hB hE hP hD hS 1 rfl (zs_inb hg) rfl dX2_put_19 (fun H locs hP hD hS => ?_)
      obtain rfl := Option.some.inj hf
      exact zs_vret (pc := 20) hX hB hR hK hP hD hS dX2_put_20

def f_X2_numberAt (v_T_numbers : Nat → Int32) (p1 : Int32) : Option (Int32) :=
  if p1 < (0 : Int32) then (some (-1 : Int32)) else (if (6 : Int32) ≤ p1 then (some (-1 : Int32)) else (gd (inb p1 6) (some (v_T_numbers p1.toNatClampNeg))))
set_option maxHeartbeats 4000000 in
set_option maxRecDepth 100000 in
theorem c_X2_numberAt (l : Launch) (g : GG) (sz : Nat) (a_T a_T_numbers : Nat) (v_T_numbers : Nat → Int32) (p1 : Int32) (o : Int32) (hf : f_X2_numberAt v_T_numbers p1 = some o) : Met l yX2_numberAt (Cond.code yX2_numberAt cX2_numberAt 2 (some .int) :: TB) { frames := 0, cells := 0, slots := 0, locals := 0 } (Pst g [(a_T, .inr (2, [.ref a_T_numbers])), (a_T_numbers, .inl (gI g, 6, .inl v_T_numbers))] [.ref a_T, .int p1] sz) (Qst g [(a_T, .inr (2, [.ref a_T_numbers])), (a_T_numbers, .inl (gI g, 6, .inl v_T_numbers))] (some (.int o)) (va_A [(a_T, .inr (2, [.ref a_T_numbers])), (a_T_numbers, .inl (gI g, 6, .inl v_T_numbers))] sz)) 0 0 (va_A [(a_T, .inr (2, [.ref a_T_numbers])), (a_T_numbers, .inl (gI g, 6, .inl v_T_numbers))] sz) := by
  unfold f_X2_numberAt at hf
  refine zs_met (own := RX2) (plainFor_of_name (by decide)) rfl (Nat.le_of_ble_eq_true rfl) ?_
  intro p e s m below meth c A ls hX hB hR hM hT hO hK hN hA hE hP hD hS hl
  have hl : lv_has ls 2 [(0, .ref a_T), (1, .int p1)] := hl
  refine lv_iload_n (pc := 0) hX hB dX2_numberAt_0 rfl (lv_at hl 1 rfl) ?_
  refine lv_if_lt (pc := 1) (tgt := 22) hX hB dX2_numberAt_1 (by decide) (fun hq => ?_) (fun hq => ?_)
  · have hf := zs_ip hf hq
    refine lv_iconst (pc := 22) (v := -1) hX hB dX2_numberAt_22 (by decide) ?_
    obtain rfl := Option.some.inj hf
    exact zs_iret (pc := 23) hX hB hR hK hP hD hS dX2_numberAt_23
  · have hf := zs_in hf hq
    refine lv_iload_n (pc := 4) hX hB dX2_numberAt_4 rfl (lv_at hl 1 rfl) ?_
    refine lv_aload_n (pc := 5) hX hB dX2_numberAt_5 rfl (lv_at hl 0 rfl) ?_
    refine gf_X2_9 (pc := 6) (v := .ref a_T_numbers) hX hB hT hO hE hP 0 rfl rfl dX2_numberAt_6 ?_
    refine va_alen (pc := 9) hX hB hE.1 hP 1 0 rfl rfl (v := (6 : Int32)) rfl dX2_numberAt_9 ?_
    refine lv_icmp_ge (pc := 10) (tgt := 22) hX hB dX2_numberAt_10 (by decide) (fun hq => ?_) (fun hq => ?_)
    · have hf := zs_ip hf hq
      refine lv_iconst (pc := 22) (v := -1) hX hB dX2_numberAt_22 (by decide) ?_
      obtain rfl := Option.some.inj hf
      exact zs_iret (pc := 23) hX hB hR hK hP hD hS dX2_numberAt_23
    · have hf := zs_in hf hq
      refine lv_aload_n (pc := 13) hX hB dX2_numberAt_13 rfl (lv_at hl 0 rfl) ?_
      refine gf_X2_9 (pc := 14) (v := .ref a_T_numbers) hX hB hT hO hE hP 0 rfl rfl dX2_numberAt_14 ?_
      refine lv_iload_n (pc := 17) hX hB dX2_numberAt_17 rfl (lv_at hl 1 rfl) ?_
      obtain ⟨hg, hf⟩ := zs_gd hf
      refine va_iald (pc := 18) hX hB hE.1 hP 1 0 rfl rfl (zs_inb hg) dX2_numberAt_18 ?_
      refine lv_goto (pc := 19) (tgt := 23) hX hB dX2_numberAt_19 (by decide) ?_
      obtain rfl := Option.some.inj hf
      exact zs_iret (pc := 23) hX hB hR hK hP hD hS dX2_numberAt_23

def b_X2_copyWithout_2 (v_P1_numbers : Nat → Int32) (p2 : Int32) (x1 : Int32 × (Nat → Int32)) : Option ((Int32 × (Nat → Int32)) ⊕ ((Nat → Int32))) :=
  if (6 : Int32) ≤ x1.1 then (some (Sum.inr x1.2)) else ((f_X3_isIn p2 x1.1).bind (fun o3 => (if o3 = (0 : Int32) then ((f_X2_numberAt v_P1_numbers x1.1).bind (fun o5 => some o5)) else (some (-1 : Int32))).bind (fun y4 => gd (inb x1.1 6) (some (Sum.inl (x1.1 + (1 : Int32), upd x1.2 x1.1.toNatClampNeg y4))))))
def f_X2_copyWithout (v_T_numbers : Nat → Int32) (v_P1_numbers : Nat → Int32) (p2 : Int32) : Option ((Nat → Int32)) :=
  (lp (b_X2_copyWithout_2 v_P1_numbers p2) 200 ((0 : Int32), v_T_numbers)).bind (fun y2 => some y2)
set_option maxHeartbeats 4000000 in
set_option maxRecDepth 100000 in
theorem c_X2_copyWithout (l : Launch) (g : GG) (sz : Nat) (a_T a_T_numbers a_P1 a_P1_numbers : Nat) (v_T_numbers : Nat → Int32) (v_P1_numbers : Nat → Int32) (p2 : Int32) (o : (Nat → Int32)) (hf : f_X2_copyWithout v_T_numbers v_P1_numbers p2 = some o) : Met l yX2_copyWithout (Cond.code yX2_copyWithout cX2_copyWithout 4 none :: TB) { frames := 1, cells := 0, slots := 0, locals := 21 } (Pst g [(a_T, .inr (2, [.ref a_T_numbers])), (a_T_numbers, .inl (gI g, 6, .inl v_T_numbers)), (a_P1, .inr (2, [.ref a_P1_numbers])), (a_P1_numbers, .inl (gI g, 6, .inl v_P1_numbers))] [.ref a_T, .ref a_P1, .int p2] sz) (Qst g [(a_T, .inr (2, [.ref a_T_numbers])), (a_T_numbers, .inl (gI g, 6, .inl o)), (a_P1, .inr (2, [.ref a_P1_numbers])), (a_P1_numbers, .inl (gI g, 6, .inl v_P1_numbers))] (none) (va_A [(a_T, .inr (2, [.ref a_T_numbers])), (a_T_numbers, .inl (gI g, 6, .inl v_T_numbers)), (a_P1, .inr (2, [.ref a_P1_numbers])), (a_P1_numbers, .inl (gI g, 6, .inl v_P1_numbers))] sz)) 0 0 (va_A [(a_T, .inr (2, [.ref a_T_numbers])), (a_T_numbers, .inl (gI g, 6, .inl v_T_numbers)), (a_P1, .inr (2, [.ref a_P1_numbers])), (a_P1_numbers, .inl (gI g, 6, .inl v_P1_numbers))] sz) := by
  unfold f_X2_copyWithout at hf
  refine zs_met (own := RX2) (plainFor_of_name (by decide)) rfl (Nat.le_of_ble_eq_true rfl) ?_
  intro p e s m below meth c A ls hX hB hR hM hT hO hK hN hA hE hP hD hS hl
  have hl : lv_has ls 4 [(0, .ref a_T), (1, .ref a_P1), (2, .int p2)] := hl
  refine lv_iconst (pc := 0) (v := 0) hX hB dX2_copyWithout_0 (by decide) ?_
  refine lv_istore_n (pc := 1) (lv' := [(3, .int (0 : Int32)), (0, .ref a_T), (1, .ref a_P1), (2, .int p2)]) hX hB dX2_copyWithout_1 rfl hl (by decide) rfl (fun ls hl => ?_)
  obtain ⟨y2, hj, hf⟩ := zs_bind hf
  refine zs_then (α := Unit) (fun _ H locs ls => CC g A s.heap 4 [(a_T, .inr (2, [.ref a_T_numbers])), (a_T_numbers, .inl (gI g, 6, .inl y2)), (a_P1, .inr (2, [.ref a_P1_numbers])), (a_P1_numbers, .inl (gI g, 6, .inl v_P1_numbers))] [] H locs ls) (fun _ ls => F0 m 40 ls []) (fun _ H locs ls hC => ?_) (fun X => ?_)
  · obtain ⟨hP, hD, hS, hl⟩ := hC
    obtain rfl := Option.some.inj hf
    exact zs_vret (pc := 40) hX hB hR hK hP hD hS dX2_copyWithout_40
  · refine zs_loop (fun x1 H locs ls => CC g A s.heap 4 [(a_T, .inr (2, [.ref a_T_numbers])), (a_T_numbers, .inl (gI g, 6, .inl x1.2)), (a_P1, .inr (2, [.ref a_P1_numbers])), (a_P1_numbers, .inl (gI g, 6, .inl v_P1_numbers))] [(0, .ref a_T), (1, .ref a_P1), (2, .int p2), (3, .int x1.1)] H locs ls) hj (fun n x1 q hf hr ih H locs ls hC => ?_) ⟨hP, hD, hS, lv_sub hl [1, 2, 3, 0] rfl⟩
    obtain ⟨hP, hD, hS, hl⟩ := hC
    unfold b_X2_copyWithout_2 at hf
    refine lv_iload_n (pc := 2) hX hB dX2_copyWithout_2 rfl (lv_at hl 3 rfl) ?_
    refine lv_aload_n (pc := 3) hX hB dX2_copyWithout_3 rfl (lv_at hl 0 rfl) ?_
    refine gf_X2_9 (pc := 4) (v := .ref a_T_numbers) hX hB hT hO hE hP 0 rfl rfl dX2_copyWithout_4 ?_
    refine va_alen (pc := 7) hX hB hE.1 hP 1 0 rfl rfl (v := (6 : Int32)) rfl dX2_copyWithout_7 ?_
    refine lv_icmp_ge (pc := 8) (tgt := 40) hX hB dX2_copyWithout_8 (by decide) (fun hq => ?_) (fun hq => ?_)
    · have hf := zs_ip hf hq
      obtain rfl := Option.some.inj hf
      obtain rfl := hr
      exact X () _ _ _ ⟨hP, hD, hS, lv_sub hl [] rfl⟩
    · have hf := zs_in hf hq
      refine lv_aload_n (pc := 11) hX hB dX2_copyWithout_11 rfl (lv_at hl 0 rfl) ?_
      refine gf_X2_9 (pc := 12) (v := .ref a_T_numbers) hX hB hT hO hE hP 0 rfl rfl dX2_copyWithout_12 ?_
      refine lv_iload_n (pc := 15) hX hB dX2_copyWithout_15 rfl (lv_at hl 3 rfl) ?_
      refine lv_iload_n (pc := 16) hX hB dX2_copyWithout_16 rfl (lv_at hl 2 rfl) ?_
      refine lv_iload_n (pc := 17) hX hB dX2_copyWithout_17 rfl (lv_at hl 3 rfl) ?_
      obtain ⟨o3, hc, hf⟩ := zs_bind hf
      refine zs_SN (pc := 18) (As := [.int p2, .int x1.1]) (rest := [.int x1.1, .ref a_T_numbers]) (st1 := [.int o3, .int x1.1, .ref a_T_numbers]) (wc := []) (wr := [(a_T, .inr (2, [.ref a_T_numbers])), (a_T_numbers, .inl (gI g, 6, .inl x1.2)), (a_P1, .inr (2, [.ref a_P1_numbers])), (a_P1_numbers, .inl (gI g, 6, .inl v_P1_numbers))]) (w1 := []) (w2 := [(a_T, .inr (2, [.ref a_T_numbers])), (a_T_numbers, .inl (gI g, 6, .inl x1.2)), (a_P1, .inr (2, [.ref a_P1_numbers])), (a_P1_numbers, .inl (gI g, 6, .inl v_P1_numbers))]) (ov := some (.int o3)) lb_X3_isIn lk_X2_31 hX hB hM hO hT hE hP hD hS hA (c_X3_isIn l g _ p2 x1.1 o3 hc) ⟨rfl, rfl⟩ ⟨Nat.le_of_ble_eq_true rfl, Nat.le_of_ble_eq_true rfl⟩ [] [0, 1, 2, 3] [0, 1, 2, 3] rfl rfl rfl rfl (by decide) rfl rfl rfl rfl hl.1 (Nat.le_of_ble_eq_true rfl) ⟨Nat.zero_le _, Nat.zero_le _⟩ rfl dX2_copyWithout_18 (fun H locs hP hD hS => ?_)
      obtain ⟨y4, hj, hf⟩ := zs_bind hf
      refine zs_then (α := Unit) (fun _ H locs ls => CC g A s.heap 4 [(a_T, .inr (2, [.ref a_T_numbers])), (a_T_numbers, .inl (gI g, 6, .inl x1.2)), (a_P1, .inr (2, [.ref a_P1_numbers])), (a_P1_numbers, .inl (gI g, 6, .inl v_P1_numbers))] [(0, .ref a_T), (1, .ref a_P1), (2, .int p2), (3, .int x1.1)] H locs ls) (fun _ ls => F0 m 33 ls [.int y4, .int x1.1, .ref a_T_numbers]) (fun _ H locs ls hC => ?_) (fun X => ?_)
      · obtain ⟨hP, hD, hS, hl⟩ := hC
        obtain ⟨hg, hf⟩ := zs_gd hf
        refine zs_iast (pc := 33) (w2 := [(a_T, .inr (2, [.ref a_T_numbers])), (a_T_numbers, .inl (gI g, 6, .inl (upd x1.2 x1.1.toNatClampNeg y4))), (a_P1, .inr (2, [.ref a_P1_numbers])), (a_P1_numbers, .inl (gI g, 6, .inl v_P1_numbers))]) hX hB hE hP hD hS 1 rfl (zs_inb hg) rfl dX2_copyWithout_33 (fun H locs hP hD hS => ?_)
        refine lv_iinc (pc := 34) (v := x1.1 + (1 : Int32)) (lv' := [(3, .int (x1.1 + (1 : Int32))), (0, .ref a_T), (1, .ref a_P1), (2, .int p2)]) hX hB dX2_copyWithout_34 hl (k := 3) rfl rfl (by decide) rfl (fun ls hl => ?_)
        refine lv_goto (pc := 37) (tgt := 2) hX hB dX2_copyWithout_37 (by decide) ?_
        obtain rfl := Option.some.inj hf
        exact ih _ hr _ _ _ ⟨hP, hD, hS, lv_sub hl [1, 2, 3, 0] rfl⟩
      · have hf := hj
        refine lv_if_eq (pc := 21) (tgt := 28) hX hB dX2_copyWithout_21 (by decide) (fun hq => ?_) (fun hq => ?_)
        · have hf := zs_ip hf hq
          refine lv_aload_n (pc := 28) hX hB dX2_copyWithout_28 rfl (lv_at hl 1 rfl) ?_
          refine lv_iload_n (pc := 29) hX hB dX2_copyWithout_29 rfl (lv_at hl 3 rfl) ?_
          obtain ⟨o5, hc, hf⟩ := zs_bind hf
          refine zs_V (q := (RX2, TX2, 1)) (ci := 2) (q0 := 2) (b := a_P1) (pc := 30) (As := [.int x1.1]) (rest := [.int x1.1, .ref a_T_numbers]) (st1 := [.int o5, .int x1.1, .ref a_T_numbers]) (wc := [(a_P1, .inr (2, [.ref a_P1_numbers])), (a_P1_numbers, .inl (gI g, 6, .inl v_P1_numbers))]) (wr := [(a_T, .inr (2, [.ref a_T_numbers])), (a_T_numbers, .inl (gI g, 6, .inl x1.2))]) (w1 := [(a_P1, .inr (2, [.ref a_P1_numbers])), (a_P1_numbers, .inl (gI g, 6, .inl v_P1_numbers))]) (w2 := [(a_T, .inr (2, [.ref a_T_numbers])), (a_T_numbers, .inl (gI g, 6, .inl x1.2)), (a_P1, .inr (2, [.ref a_P1_numbers])), (a_P1_numbers, .inl (gI g, 6, .inl v_P1_numbers))]) (ov := some (.int o5)) lb_X2_numberAt lk_X2_35 hX hB hM hO hT hE hP hD hS hA (c_X2_numberAt l g _ a_P1 a_P1_numbers v_P1_numbers x1.1 o5 hc) ⟨rfl, rfl⟩ ⟨Nat.le_of_ble_eq_true rfl, Nat.le_of_ble_eq_true rfl⟩ rfl rfl [2, 3] [0, 1] [0, 1, 2, 3] rfl rfl rfl rfl (by decide) rfl rfl rfl rfl hl.1 (Nat.le_of_ble_eq_true rfl) ⟨Nat.zero_le _, Nat.zero_le _⟩ rfl dX2_copyWithout_30 (fun H locs hP hD hS => ?_)
          obtain rfl := Option.some.inj hf
          exact X () _ _ _ ⟨hP, hD, hS, lv_sub hl [0, 1, 2, 3] rfl⟩
        · have hf := zs_in hf hq
          refine lv_iconst (pc := 24) (v := -1) hX hB dX2_copyWithout_24 (by decide) ?_
          refine lv_goto (pc := 25) (tgt := 33) hX hB dX2_copyWithout_25 (by decide) ?_
          obtain rfl := Option.some.inj hf
          exact X () _ _ _ ⟨hP, hD, hS, lv_sub hl [0, 1, 2, 3] rfl⟩

def b_X2_firstBits_7 (v_T_numbers : Nat → Int32) (p1 : Int32) (x1 : Int32 × Int32 × Int32) : Option ((Int32 × Int32 × Int32) ⊕ (Int32 × Int32)) :=
  if (6 : Int32) ≤ x1.2.2 then (some (Sum.inr (x1.1, x1.2.1))) else (if p1 ≤ x1.2.1 then (some (Sum.inr (x1.1, x1.2.1))) else (gd (inb x1.2.2 6) (if (v_T_numbers x1.2.2.toNatClampNeg) = (-1 : Int32) then (some (Sum.inl (x1.1, x1.2.1, x1.2.2 + (1 : Int32)))) else (some (Sum.inl (x1.1 ||| (jshl (1 : Int32) x1.2.2), x1.2.1 + (1 : Int32), x1.2.2 + (1 : Int32)))))))
def f_X2_firstBits (v_T_numbers : Nat → Int32) (p1 : Int32) : Option (Int32) :=
  (lp (b_X2_firstBits_7 v_T_numbers p1) 200 ((0 : Int32), (0 : Int32), (0 : Int32))).bind (fun y2 => if p1 ≤ y2.2 then (some y2.1) else (some (-1 : Int32)))
set_option maxHeartbeats 4000000 in
set_option maxRecDepth 100000 in
theorem c_X2_firstBits (l : Launch) (g : GG) (sz : Nat) (a_T a_T_numbers : Nat) (v_T_numbers : Nat → Int32) (p1 : Int32) (o : Int32) (hf : f_X2_firstBits v_T_numbers p1 = some o) : Met l yX2_firstBits (Cond.code yX2_firstBits cX2_firstBits 5 (some .int) :: TB) { frames := 0, cells := 0, slots := 0, locals := 0 } (Pst g [(a_T, .inr (2, [.ref a_T_numbers])), (a_T_numbers, .inl (gI g, 6, .inl v_T_numbers))] [.ref a_T, .int p1] sz) (Qst g [(a_T, .inr (2, [.ref a_T_numbers])), (a_T_numbers, .inl (gI g, 6, .inl v_T_numbers))] (some (.int o)) (va_A [(a_T, .inr (2, [.ref a_T_numbers])), (a_T_numbers, .inl (gI g, 6, .inl v_T_numbers))] sz)) 0 0 (va_A [(a_T, .inr (2, [.ref a_T_numbers])), (a_T_numbers, .inl (gI g, 6, .inl v_T_numbers))] sz) := by
  unfold f_X2_firstBits at hf
  refine zs_met (own := RX2) (plainFor_of_name (by decide)) rfl (Nat.le_of_ble_eq_true rfl) ?_
  intro p e s m below meth c A ls hX hB hR hM hT hO hK hN hA hE hP hD hS hl
  have hl : lv_has ls 5 [(0, .ref a_T), (1, .int p1)] := hl
  refine lv_iconst (pc := 0) (v := 0) hX hB dX2_firstBits_0 (by decide) ?_
  refine lv_istore_n (pc := 1) (lv' := [(2, .int (0 : Int32)), (0, .ref a_T), (1, .int p1)]) hX hB dX2_firstBits_1 rfl hl (by decide) rfl (fun ls hl => ?_)
  refine lv_iconst (pc := 2) (v := 0) hX hB dX2_firstBits_2 (by decide) ?_
  refine lv_istore_n (pc := 3) (lv' := [(3, .int (0 : Int32)), (2, .int (0 : Int32)), (0, .ref a_T), (1, .int p1)]) hX hB dX2_firstBits_3 rfl hl (by decide) rfl (fun ls hl => ?_)
  refine lv_iconst (pc := 4) (v := 0) hX hB dX2_firstBits_4 (by decide) ?_
  refine lv_istore (pc := 5) (lv' := [(4, .int (0 : Int32)), (3, .int (0 : Int32)), (2, .int (0 : Int32)), (0, .ref a_T), (1, .int p1)]) hX hB dX2_firstBits_5 hl (by decide) rfl (fun ls hl => ?_)
  obtain ⟨y2, hj, hf⟩ := zs_bind hf
  refine zs_then (α := Unit) (fun _ H locs ls => CC g A s.heap 5 [(a_T, .inr (2, [.ref a_T_numbers])), (a_T_numbers, .inl (gI g, 6, .inl v_T_numbers))] [(1, .int p1), (2, .int y2.1), (3, .int y2.2)] H locs ls) (fun _ ls => F0 m 49 ls []) (fun _ H locs ls hC => ?_) (fun X => ?_)
  · obtain ⟨hP, hD, hS, hl⟩ := hC
    refine lv_iload_n (pc := 49) hX hB dX2_firstBits_49 rfl (lv_at hl 2 rfl) ?_
    refine lv_iload_n (pc := 50) hX hB dX2_firstBits_50 rfl (lv_at hl 0 rfl) ?_
    refine lv_icmp_ge (pc := 51) (tgt := 58) hX hB dX2_firstBits_51 (by decide) (fun hq => ?_) (fun hq => ?_)
    · have hf := zs_ip hf hq
      refine lv_iload_n (pc := 58) hX hB dX2_firstBits_58 rfl (lv_at hl 1 rfl) ?_
      obtain rfl := Option.some.inj hf
      exact zs_iret (pc := 59) hX hB hR hK hP hD hS dX2_firstBits_59
    · have hf := zs_in hf hq
      refine lv_iconst (pc := 54) (v := -1) hX hB dX2_firstBits_54 (by decide) ?_
      refine lv_goto (pc := 55) (tgt := 59) hX hB dX2_firstBits_55 (by decide) ?_
      obtain rfl := Option.some.inj hf
      exact zs_iret (pc := 59) hX hB hR hK hP hD hS dX2_firstBits_59
  · refine zs_loop (fun x1 H locs ls => CC g A s.heap 5 [(a_T, .inr (2, [.ref a_T_numbers])), (a_T_numbers, .inl (gI g, 6, .inl v_T_numbers))] [(0, .ref a_T), (1, .int p1), (2, .int x1.1), (3, .int x1.2.1), (4, .int x1.2.2)] H locs ls) hj (fun n x1 q hf hr ih H locs ls hC => ?_) ⟨hP, hD, hS, lv_sub hl [3, 4, 2, 1, 0] rfl⟩
    obtain ⟨hP, hD, hS, hl⟩ := hC
    unfold b_X2_firstBits_7 at hf
    refine lv_iload (pc := 7) hX hB dX2_firstBits_7 (lv_at hl 4 rfl) ?_
    refine lv_aload_n (pc := 9) hX hB dX2_firstBits_9 rfl (lv_at hl 0 rfl) ?_
    refine gf_X2_9 (pc := 10) (v := .ref a_T_numbers) hX hB hT hO hE hP 0 rfl rfl dX2_firstBits_10 ?_
    refine va_alen (pc := 13) hX hB hE.1 hP 1 0 rfl rfl (v := (6 : Int32)) rfl dX2_firstBits_13 ?_
    refine lv_icmp_ge (pc := 14) (tgt := 49) hX hB dX2_firstBits_14 (by decide) (fun hq => ?_) (fun hq => ?_)
    · have hf := zs_ip hf hq
      obtain rfl := Option.some.inj hf
      obtain rfl := hr
      exact X () _ _ _ ⟨hP, hD, hS, lv_sub hl [1, 2, 3] rfl⟩
    · have hf := zs_in hf hq
      refine lv_iload_n (pc := 17) hX hB dX2_firstBits_17 rfl (lv_at hl 3 rfl) ?_
      refine lv_iload_n (pc := 18) hX hB dX2_firstBits_18 rfl (lv_at hl 1 rfl) ?_
      refine lv_icmp_ge (pc := 19) (tgt := 49) hX hB dX2_firstBits_19 (by decide) (fun hq => ?_) (fun hq => ?_)
      · have hf := zs_ip hf hq
        obtain rfl := Option.some.inj hf
        obtain rfl := hr
        exact X () _ _ _ ⟨hP, hD, hS, lv_sub hl [1, 2, 3] rfl⟩
      · have hf := zs_in hf hq
        refine lv_aload_n (pc := 22) hX hB dX2_firstBits_22 rfl (lv_at hl 0 rfl) ?_
        refine gf_X2_9 (pc := 23) (v := .ref a_T_numbers) hX hB hT hO hE hP 0 rfl rfl dX2_firstBits_23 ?_
        refine lv_iload (pc := 26) hX hB dX2_firstBits_26 (lv_at hl 4 rfl) ?_
        obtain ⟨hg, hf⟩ := zs_gd hf
        refine va_iald (pc := 28) hX hB hE.1 hP 1 0 rfl rfl (zs_inb hg) dX2_firstBits_28 ?_
        refine lv_iconst (pc := 29) (v := -1) hX hB dX2_firstBits_29 (by decide) ?_
        refine lv_icmp_eq (pc := 30) (tgt := 43) hX hB dX2_firstBits_30 (by decide) (fun hq => ?_) (fun hq => ?_)
        · have hf := zs_ip hf hq
          refine lv_iinc (pc := 43) (v := x1.2.2 + (1 : Int32)) (lv' := [(4, .int (x1.2.2 + (1 : Int32))), (0, .ref a_T), (1, .int p1), (2, .int x1.1), (3, .int x1.2.1)]) hX hB dX2_firstBits_43 hl (k := 4) rfl rfl (by decide) rfl (fun ls hl => ?_)
          refine lv_goto (pc := 46) (tgt := 7) hX hB dX2_firstBits_46 (by decide) ?_
          obtain rfl := Option.some.inj hf
          exact ih _ hr _ _ _ ⟨hP, hD, hS, lv_sub hl [1, 2, 3, 4, 0] rfl⟩
        · have hf := zs_in hf hq
          refine lv_iload_n (pc := 33) hX hB dX2_firstBits_33 rfl (lv_at hl 2 rfl) ?_
          refine lv_iconst (pc := 34) (v := 1) hX hB dX2_firstBits_34 (by decide) ?_
          refine lv_iload (pc := 35) hX hB dX2_firstBits_35 (lv_at hl 4 rfl) ?_
          refine zs_ishl (pc := 37) hX hB dX2_firstBits_37 ?_
          refine lv_ior (pc := 38) hX hB dX2_firstBits_38 ?_
          refine lv_istore_n (pc := 39) (lv' := [(2, .int (x1.1 ||| (jshl (1 : Int32) x1.2.2))), (0, .ref a_T), (1, .int p1), (3, .int x1.2.1), (4, .int x1.2.2)]) hX hB dX2_firstBits_39 rfl hl (by decide) rfl (fun ls hl => ?_)
          refine lv_iinc (pc := 40) (v := x1.2.1 + (1 : Int32)) (lv' := [(3, .int (x1.2.1 + (1 : Int32))), (2, .int (x1.1 ||| (jshl (1 : Int32) x1.2.2))), (0, .ref a_T), (1, .int p1), (4, .int x1.2.2)]) hX hB dX2_firstBits_40 hl (k := 3) rfl rfl (by decide) rfl (fun ls hl => ?_)
          refine lv_iinc (pc := 43) (v := x1.2.2 + (1 : Int32)) (lv' := [(4, .int (x1.2.2 + (1 : Int32))), (3, .int (x1.2.1 + (1 : Int32))), (2, .int (x1.1 ||| (jshl (1 : Int32) x1.2.2))), (0, .ref a_T), (1, .int p1)]) hX hB dX2_firstBits_43 hl (k := 4) rfl rfl (by decide) rfl (fun ls hl => ?_)
          refine lv_goto (pc := 46) (tgt := 7) hX hB dX2_firstBits_46 (by decide) ?_
          obtain rfl := Option.some.inj hf
          exact ih _ hr _ _ _ ⟨hP, hD, hS, lv_sub hl [3, 4, 2, 1, 0] rfl⟩

def f_X2_inverse (p1 : Int32) : Option (Int32) :=
  (if (0 : Int32) ≤ p1 then (some p1) else (some (-p1))).bind (fun y1 => if y1 < (0 : Int32) then (some (0 : Int32)) else (if y1 < (6 : Int32) then (if (0 : Int32) ≤ p1 then (gd (inb y1 6) (some (invF y1.toNatClampNeg))) else (gd (inb y1 6) (some (-(invF y1.toNatClampNeg))))) else (some (0 : Int32))))
set_option maxHeartbeats 4000000 in
set_option maxRecDepth 100000 in
theorem c_X2_inverse (l : Launch) (g : GG) (sz : Nat) (p1 : Int32) (o : Int32) (hf : f_X2_inverse p1 = some o) : Met l yX2_inverse (Cond.code yX2_inverse cX2_inverse 2 (some .int) :: TB) { frames := 0, cells := 0, slots := 0, locals := 0 } (Pst g [] [.int p1] sz) (Qst g [] (some (.int o)) (va_A [] sz)) 0 0 (va_A [] sz) := by
  unfold f_X2_inverse at hf
  refine zs_met (own := RX2) (plainFor_of_name (by decide)) rfl (Nat.le_of_ble_eq_true rfl) ?_
  intro p e s m below meth c A ls hX hB hR hM hT hO hK hN hA hE hP hD hS hl
  have hl : lv_has ls 2 [(0, .int p1)] := hl
  refine lv_iload_n (pc := 0) hX hB dX2_inverse_0 rfl (lv_at hl 0 rfl) ?_
  obtain ⟨y1, hj, hf⟩ := zs_bind hf
  refine zs_then (α := Unit) (fun _ H locs ls => CC g A s.heap 2 [] [(0, .int p1)] H locs ls) (fun _ ls => F0 m 10 ls [.int y1]) (fun _ H locs ls hC => ?_) (fun X => ?_)
  · obtain ⟨hP, hD, hS, hl⟩ := hC
    refine lv_istore_n (pc := 10) (lv' := [(1, .int y1), (0, .int p1)]) hX hB dX2_inverse_10 rfl hl (by decide) rfl (fun ls hl => ?_)
    refine lv_iload_n (pc := 11) hX hB dX2_inverse_11 rfl (lv_at hl 0 rfl) ?_
    refine lv_if_lt (pc := 12) (tgt := 23) hX hB dX2_inverse_12 (by decide) (fun hq => ?_) (fun hq => ?_)
    · have hf := zs_ip hf hq
      refine lv_iconst (pc := 23) (v := 0) hX hB dX2_inverse_23 (by decide) ?_
      obtain rfl := Option.some.inj hf
      exact zs_iret (pc := 24) hX hB hR hK hP hD hS dX2_inverse_24
    · have hf := zs_in hf hq
      refine lv_iload_n (pc := 15) hX hB dX2_inverse_15 rfl (lv_at hl 0 rfl) ?_
      refine va_gets (pc := 16) hX hB hE.2.2.1 hS hO (hT _ tw_2_187) (fun _ h => h) dX2_inverse_16 ?_
      refine va_tlen (pc := 19) hX hB hE.2.2.2.1 hS (v := 6) rfl dX2_inverse_19 ?_
      refine lv_icmp_lt (pc := 20) (tgt := 25) hX hB dX2_inverse_20 (by decide) (fun hq => ?_) (fun hq => ?_)
      · have hf := zs_ip hf hq
        refine lv_iload_n (pc := 25) hX hB dX2_inverse_25 rfl (lv_at hl 1 rfl) ?_
        refine lv_if_ge (pc := 26) (tgt := 38) hX hB dX2_inverse_26 (by decide) (fun hq => ?_) (fun hq => ?_)
        · have hf := zs_ip hf hq
          refine va_gets (pc := 38) hX hB hE.2.2.1 hS hO (hT _ tw_2_187) (fun _ h => h) dX2_inverse_38 ?_
          refine lv_iload_n (pc := 41) hX hB dX2_inverse_41 rfl (lv_at hl 0 rfl) ?_
          obtain ⟨hg, hf⟩ := zs_gd hf
          refine va_ti (pc := 42) hX hB hE.2.2.2.1 hS (zs_inb hg) (v := .int (invF y1.toNatClampNeg)) rfl dX2_inverse_42 ?_
          obtain rfl := Option.some.inj hf
          exact zs_iret (pc := 43) hX hB hR hK hP hD hS dX2_inverse_43
        · have hf := zs_in hf hq
          refine va_gets (pc := 29) hX hB hE.2.2.1 hS hO (hT _ tw_2_187) (fun _ h => h) dX2_inverse_29 ?_
          refine lv_iload_n (pc := 32) hX hB dX2_inverse_32 rfl (lv_at hl 0 rfl) ?_
          obtain ⟨hg, hf⟩ := zs_gd hf
          refine va_ti (pc := 33) hX hB hE.2.2.2.1 hS (zs_inb hg) (v := .int (invF y1.toNatClampNeg)) rfl dX2_inverse_33 ?_
          refine lv_ineg (pc := 34) hX hB dX2_inverse_34 ?_
          refine lv_goto (pc := 35) (tgt := 43) hX hB dX2_inverse_35 (by decide) ?_
          obtain rfl := Option.some.inj hf
          exact zs_iret (pc := 43) hX hB hR hK hP hD hS dX2_inverse_43
      · have hf := zs_in hf hq
        refine lv_iconst (pc := 23) (v := 0) hX hB dX2_inverse_23 (by decide) ?_
        obtain rfl := Option.some.inj hf
        exact zs_iret (pc := 24) hX hB hR hK hP hD hS dX2_inverse_24
  · have hf := hj
    refine lv_if_ge (pc := 1) (tgt := 9) hX hB dX2_inverse_1 (by decide) (fun hq => ?_) (fun hq => ?_)
    · have hf := zs_ip hf hq
      refine lv_iload_n (pc := 9) hX hB dX2_inverse_9 rfl (lv_at hl 0 rfl) ?_
      obtain rfl := Option.some.inj hf
      exact X () _ _ _ ⟨hP, hD, hS, lv_sub hl [0] rfl⟩
    · have hf := zs_in hf hq
      refine lv_iload_n (pc := 4) hX hB dX2_inverse_4 rfl (lv_at hl 0 rfl) ?_
      refine lv_ineg (pc := 5) hX hB dX2_inverse_5 ?_
      refine lv_goto (pc := 6) (tgt := 10) hX hB dX2_inverse_6 (by decide) ?_
      obtain rfl := Option.some.inj hf
      exact X () _ _ _ ⟨hP, hD, hS, lv_sub hl [0] rfl⟩

def b_X2_weight_6 (p1 : Int32) (p2 : Int32) (p3 : Int32) (x1 : Int32 × Int32) : Option ((Int32 × Int32) ⊕ (Int32)) :=
  if (6 : Int32) ≤ x1.2 then (some (Sum.inr x1.1)) else (if x1.2 = p2 then (some (Sum.inl (x1.1, x1.2 + (1 : Int32)))) else ((f_X3_isIn p1 x1.2).bind (fun o3 => if o3 = (0 : Int32) then (some (Sum.inl (x1.1, x1.2 + (1 : Int32)))) else ((f_X3_leftOver (x1.1 * ((p3 - x1.2) - (1 : Int32)))).bind (fun o4 => (f_X2_inverse (p2 - x1.2)).bind (fun o5 => (f_X3_leftOver (o4 * o5)).bind (fun o6 => some (Sum.inl (o6, x1.2 + (1 : Int32))))))))))
def f_X2_weight (p1 : Int32) (p2 : Int32) (p3 : Int32) : Option (Int32) :=
  (lp (b_X2_weight_6 p1 p2 p3) 200 ((1 : Int32), (0 : Int32))).bind (fun y2 => some y2)
set_option maxHeartbeats 4000000 in
set_option maxRecDepth 100000 in
theorem c_X2_weight (l : Launch) (g : GG) (sz : Nat) (a_T a_T_numbers : Nat) (v_T_numbers : Nat → Int32) (p1 : Int32) (p2 : Int32) (p3 : Int32) (o : Int32) (hf : f_X2_weight p1 p2 p3 = some o) : Met l yX2_weight (Cond.code yX2_weight cX2_weight 6 (some .int) :: TB) { frames := 1, cells := 0, slots := 0, locals := 21 } (Pst g [(a_T, .inr (2, [.ref a_T_numbers])), (a_T_numbers, .inl (gI g, 6, .inl v_T_numbers))] [.ref a_T, .int p1, .int p2, .int p3] sz) (Qst g [(a_T, .inr (2, [.ref a_T_numbers])), (a_T_numbers, .inl (gI g, 6, .inl v_T_numbers))] (some (.int o)) (va_A [(a_T, .inr (2, [.ref a_T_numbers])), (a_T_numbers, .inl (gI g, 6, .inl v_T_numbers))] sz)) 0 0 (va_A [(a_T, .inr (2, [.ref a_T_numbers])), (a_T_numbers, .inl (gI g, 6, .inl v_T_numbers))] sz) := by
  unfold f_X2_weight at hf
  refine zs_met (own := RX2) (plainFor_of_name (by decide)) rfl (Nat.le_of_ble_eq_true rfl) ?_
  intro p e s m below meth c A ls hX hB hR hM hT hO hK hN hA hE hP hD hS hl
  have hl : lv_has ls 6 [(0, .ref a_T), (1, .int p1), (2, .int p2), (3, .int p3)] := hl
  refine lv_iconst (pc := 0) (v := 1) hX hB dX2_weight_0 (by decide) ?_
  refine lv_istore (pc := 1) (lv' := [(4, .int (1 : Int32)), (0, .ref a_T), (1, .int p1), (2, .int p2), (3, .int p3)]) hX hB dX2_weight_1 hl (by decide) rfl (fun ls hl => ?_)
  refine lv_iconst (pc := 3) (v := 0) hX hB dX2_weight_3 (by decide) ?_
  refine lv_istore (pc := 4) (lv' := [(5, .int (0 : Int32)), (4, .int (1 : Int32)), (0, .ref a_T), (1, .int p1), (2, .int p2), (3, .int p3)]) hX hB dX2_weight_4 hl (by decide) rfl (fun ls hl => ?_)
  obtain ⟨y2, hj, hf⟩ := zs_bind hf
  refine zs_then (α := Unit) (fun _ H locs ls => CC g A s.heap 6 [(a_T, .inr (2, [.ref a_T_numbers])), (a_T_numbers, .inl (gI g, 6, .inl v_T_numbers))] [(4, .int y2)] H locs ls) (fun _ ls => F0 m 66 ls []) (fun _ H locs ls hC => ?_) (fun X => ?_)
  · obtain ⟨hP, hD, hS, hl⟩ := hC
    refine lv_iload (pc := 66) hX hB dX2_weight_66 (lv_at hl 0 rfl) ?_
    obtain rfl := Option.some.inj hf
    exact zs_iret (pc := 68) hX hB hR hK hP hD hS dX2_weight_68
  · refine zs_loop (fun x1 H locs ls => CC g A s.heap 6 [(a_T, .inr (2, [.ref a_T_numbers])), (a_T_numbers, .inl (gI g, 6, .inl v_T_numbers))] [(0, .ref a_T), (1, .int p1), (2, .int p2), (3, .int p3), (4, .int x1.1), (5, .int x1.2)] H locs ls) hj (fun n x1 q hf hr ih H locs ls hC => ?_) ⟨hP, hD, hS, lv_sub hl [2, 3, 4, 5, 1, 0] rfl⟩
    obtain ⟨hP, hD, hS, hl⟩ := hC
    unfold b_X2_weight_6 at hf
    refine lv_iload (pc := 6) hX hB dX2_weight_6 (lv_at hl 5 rfl) ?_
    refine lv_aload_n (pc := 8) hX hB dX2_weight_8 rfl (lv_at hl 0 rfl) ?_
    refine gf_X2_9 (pc := 9) (v := .ref a_T_numbers) hX hB hT hO hE hP 0 rfl rfl dX2_weight_9 ?_
    refine va_alen (pc := 12) hX hB hE.1 hP 1 0 rfl rfl (v := (6 : Int32)) rfl dX2_weight_12 ?_
    refine lv_icmp_ge (pc := 13) (tgt := 66) hX hB dX2_weight_13 (by decide) (fun hq => ?_) (fun hq => ?_)
    · have hf := zs_ip hf hq
      obtain rfl := Option.some.inj hf
      obtain rfl := hr
      exact X () _ _ _ ⟨hP, hD, hS, lv_sub hl [4] rfl⟩
    · have hf := zs_in hf hq
      refine lv_iload (pc := 16) hX hB dX2_weight_16 (lv_at hl 5 rfl) ?_
      refine lv_iload_n (pc := 18) hX hB dX2_weight_18 rfl (lv_at hl 2 rfl) ?_
      refine lv_icmp_eq (pc := 19) (tgt := 60) hX hB dX2_weight_19 (by decide) (fun hq => ?_) (fun hq => ?_)
      · have hf := zs_ip hf hq
        refine lv_iinc (pc := 60) (v := x1.2 + (1 : Int32)) (lv' := [(5, .int (x1.2 + (1 : Int32))), (0, .ref a_T), (1, .int p1), (2, .int p2), (3, .int p3), (4, .int x1.1)]) hX hB dX2_weight_60 hl (k := 5) rfl rfl (by decide) rfl (fun ls hl => ?_)
        refine lv_goto (pc := 63) (tgt := 6) hX hB dX2_weight_63 (by decide) ?_
        obtain rfl := Option.some.inj hf
        exact ih _ hr _ _ _ ⟨hP, hD, hS, lv_sub hl [1, 2, 3, 4, 5, 0] rfl⟩
      · have hf := zs_in hf hq
        refine lv_iload_n (pc := 22) hX hB dX2_weight_22 rfl (lv_at hl 1 rfl) ?_
        refine lv_iload (pc := 23) hX hB dX2_weight_23 (lv_at hl 5 rfl) ?_
        obtain ⟨o3, hc, hf⟩ := zs_bind hf
        refine zs_SN (pc := 25) (As := [.int p1, .int x1.2]) (rest := []) (st1 := [.int o3]) (wc := []) (wr := [(a_T, .inr (2, [.ref a_T_numbers])), (a_T_numbers, .inl (gI g, 6, .inl v_T_numbers))]) (w1 := []) (w2 := [(a_T, .inr (2, [.ref a_T_numbers])), (a_T_numbers, .inl (gI g, 6, .inl v_T_numbers))]) (ov := some (.int o3)) lb_X3_isIn lk_X2_31 hX hB hM hO hT hE hP hD hS hA (c_X3_isIn l g _ p1 x1.2 o3 hc) ⟨rfl, rfl⟩ ⟨Nat.le_of_ble_eq_true rfl, Nat.le_of_ble_eq_true rfl⟩ [] [0, 1] [0, 1] rfl rfl rfl rfl (by decide) rfl rfl rfl rfl hl.1 (Nat.le_of_ble_eq_true rfl) ⟨Nat.zero_le _, Nat.zero_le _⟩ rfl dX2_weight_25 (fun H locs hP hD hS => ?_)
        refine lv_if_eq (pc := 28) (tgt := 60) hX hB dX2_weight_28 (by decide) (fun hq => ?_) (fun hq => ?_)
        · have hf := zs_ip hf hq
          refine lv_iinc (pc := 60) (v := x1.2 + (1 : Int32)) (lv' := [(5, .int (x1.2 + (1 : Int32))), (0, .ref a_T), (1, .int p1), (2, .int p2), (3, .int p3), (4, .int x1.1)]) hX hB dX2_weight_60 hl (k := 5) rfl rfl (by decide) rfl (fun ls hl => ?_)
          refine lv_goto (pc := 63) (tgt := 6) hX hB dX2_weight_63 (by decide) ?_
          obtain rfl := Option.some.inj hf
          exact ih _ hr _ _ _ ⟨hP, hD, hS, lv_sub hl [1, 2, 3, 4, 5, 0] rfl⟩
        · have hf := zs_in hf hq
          refine lv_iload (pc := 31) hX hB dX2_weight_31 (lv_at hl 4 rfl) ?_
          refine lv_iload_n (pc := 33) hX hB dX2_weight_33 rfl (lv_at hl 3 rfl) ?_
          refine lv_iload (pc := 34) hX hB dX2_weight_34 (lv_at hl 5 rfl) ?_
          refine lv_isub (pc := 36) hX hB dX2_weight_36 ?_
          refine lv_iconst (pc := 37) (v := 1) hX hB dX2_weight_37 (by decide) ?_
          refine lv_isub (pc := 38) hX hB dX2_weight_38 ?_
          refine lv_imul (pc := 39) hX hB dX2_weight_39 ?_
          obtain ⟨o4, hc, hf⟩ := zs_bind hf
          refine zs_SN (pc := 40) (As := [.int (x1.1 * ((p3 - x1.2) - (1 : Int32)))]) (rest := []) (st1 := [.int o4]) (wc := []) (wr := [(a_T, .inr (2, [.ref a_T_numbers])), (a_T_numbers, .inl (gI g, 6, .inl v_T_numbers))]) (w1 := []) (w2 := [(a_T, .inr (2, [.ref a_T_numbers])), (a_T_numbers, .inl (gI g, 6, .inl v_T_numbers))]) (ov := some (.int o4)) lb_X3_leftOver lk_X2_57 hX hB hM hO hT hE hP hD hS hA (c_X3_leftOver l g _ (x1.1 * ((p3 - x1.2) - (1 : Int32))) o4 hc) ⟨rfl, rfl⟩ ⟨Nat.le_of_ble_eq_true rfl, Nat.le_of_ble_eq_true rfl⟩ [] [0, 1] [0, 1] rfl rfl rfl rfl (by decide) rfl rfl rfl rfl hl.1 (Nat.le_of_ble_eq_true rfl) ⟨Nat.zero_le _, Nat.zero_le _⟩ rfl dX2_weight_40 (fun H locs hP hD hS => ?_)
          refine lv_istore (pc := 43) (lv' := [(4, .int o4), (0, .ref a_T), (1, .int p1), (2, .int p2), (3, .int p3), (5, .int x1.2)]) hX hB dX2_weight_43 hl (by decide) rfl (fun ls hl => ?_)
          refine lv_iload (pc := 45) hX hB dX2_weight_45 (lv_at hl 0 rfl) ?_
          refine lv_iload_n (pc := 47) hX hB dX2_weight_47 rfl (lv_at hl 3 rfl) ?_
          refine lv_iload (pc := 48) hX hB dX2_weight_48 (lv_at hl 5 rfl) ?_
          refine lv_isub (pc := 50) hX hB dX2_weight_50 ?_
          obtain ⟨o5, hc, hf⟩ := zs_bind hf
          refine zs_S (pc := 51) (As := [.int (p2 - x1.2)]) (rest := [.int o4]) (st1 := [.int o5, .int o4]) (wc := []) (wr := [(a_T, .inr (2, [.ref a_T_numbers])), (a_T_numbers, .inl (gI g, 6, .inl v_T_numbers))]) (w1 := []) (w2 := [(a_T, .inr (2, [.ref a_T_numbers])), (a_T_numbers, .inl (gI g, 6, .inl v_T_numbers))]) (ov := some (.int o5)) lb_X2_inverse lk_X2_60 hX hB hM hO hT hE hP hD hS hA (c_X2_inverse l g _ (p2 - x1.2) o5 hc) ⟨rfl, rfl⟩ ⟨Nat.le_of_ble_eq_true rfl, Nat.le_of_ble_eq_true rfl⟩ [] [0, 1] [0, 1] rfl rfl rfl rfl (by decide) rfl rfl rfl rfl hl.1 (Nat.le_of_ble_eq_true rfl) ⟨Nat.zero_le _, Nat.zero_le _⟩ rfl dX2_weight_51 (fun H locs hP hD hS => ?_)
          refine lv_imul (pc := 54) hX hB dX2_weight_54 ?_
          obtain ⟨o6, hc, hf⟩ := zs_bind hf
          refine zs_SN (pc := 55) (As := [.int (o4 * o5)]) (rest := []) (st1 := [.int o6]) (wc := []) (wr := [(a_T, .inr (2, [.ref a_T_numbers])), (a_T_numbers, .inl (gI g, 6, .inl v_T_numbers))]) (w1 := []) (w2 := [(a_T, .inr (2, [.ref a_T_numbers])), (a_T_numbers, .inl (gI g, 6, .inl v_T_numbers))]) (ov := some (.int o6)) lb_X3_leftOver lk_X2_57 hX hB hM hO hT hE hP hD hS hA (c_X3_leftOver l g _ (o4 * o5) o6 hc) ⟨rfl, rfl⟩ ⟨Nat.le_of_ble_eq_true rfl, Nat.le_of_ble_eq_true rfl⟩ [] [0, 1] [0, 1] rfl rfl rfl rfl (by decide) rfl rfl rfl rfl hl.1 (Nat.le_of_ble_eq_true rfl) ⟨Nat.zero_le _, Nat.zero_le _⟩ rfl dX2_weight_55 (fun H locs hP hD hS => ?_)
          refine lv_istore (pc := 58) (lv' := [(4, .int o6), (0, .ref a_T), (1, .int p1), (2, .int p2), (3, .int p3), (5, .int x1.2)]) hX hB dX2_weight_58 hl (by decide) rfl (fun ls hl => ?_)
          refine lv_iinc (pc := 60) (v := x1.2 + (1 : Int32)) (lv' := [(5, .int (x1.2 + (1 : Int32))), (4, .int o6), (0, .ref a_T), (1, .int p1), (2, .int p2), (3, .int p3)]) hX hB dX2_weight_60 hl (k := 5) rfl rfl (by decide) rfl (fun ls hl => ?_)
          refine lv_goto (pc := 63) (tgt := 6) hX hB dX2_weight_63 (by decide) ?_
          obtain rfl := Option.some.inj hf
          exact ih _ hr _ _ _ ⟨hP, hD, hS, lv_sub hl [2, 3, 4, 5, 1, 0] rfl⟩

def b_X2_valueAt_5 (v_T_numbers : Nat → Int32) (p1 : Int32) (p2 : Int32) (x1 : Int32 × Int32) : Option ((Int32 × Int32) ⊕ (Int32)) :=
  if (6 : Int32) ≤ x1.2 then (some (Sum.inr x1.1)) else ((f_X3_isIn p1 x1.2).bind (fun o4 => if o4 = (0 : Int32) then (some (Sum.inl (x1.1, x1.2 + (1 : Int32)))) else (gd (inb x1.2 6) ((f_X2_weight p1 x1.2 p2).bind (fun o5 => some (Sum.inl (x1.1 + ((v_T_numbers x1.2.toNatClampNeg) * o5), x1.2 + (1 : Int32))))))))
def f_X2_valueAt (v_T_numbers : Nat → Int32) (p1 : Int32) (p2 : Int32) : Option (Int32) :=
  (lp (b_X2_valueAt_5 v_T_numbers p1 p2) 200 ((0 : Int32), (0 : Int32))).bind (fun y2 => (f_X3_leftOver y2).bind (fun o3 => some o3))
set_option maxHeartbeats 4000000 in
set_option maxRecDepth 100000 in
theorem c_X2_valueAt (l : Launch) (g : GG) (sz : Nat) (a_T a_T_numbers : Nat) (v_T_numbers : Nat → Int32) (p1 : Int32) (p2 : Int32) (o : Int32) (hf : f_X2_valueAt v_T_numbers p1 p2 = some o) : Met l yX2_valueAt (Cond.code yX2_valueAt cX2_valueAt 5 (some .int) :: TB) { frames := 2, cells := 0, slots := 0, locals := 46 } (Pst g [(a_T, .inr (2, [.ref a_T_numbers])), (a_T_numbers, .inl (gI g, 6, .inl v_T_numbers))] [.ref a_T, .int p1, .int p2] sz) (Qst g [(a_T, .inr (2, [.ref a_T_numbers])), (a_T_numbers, .inl (gI g, 6, .inl v_T_numbers))] (some (.int o)) (va_A [(a_T, .inr (2, [.ref a_T_numbers])), (a_T_numbers, .inl (gI g, 6, .inl v_T_numbers))] sz)) 0 0 (va_A [(a_T, .inr (2, [.ref a_T_numbers])), (a_T_numbers, .inl (gI g, 6, .inl v_T_numbers))] sz) := by
  unfold f_X2_valueAt at hf
  refine zs_met (own := RX2) (plainFor_of_name (by decide)) rfl (Nat.le_of_ble_eq_true rfl) ?_
  intro p e s m below meth c A ls hX hB hR hM hT hO hK hN hA hE hP hD hS hl
  have hl : lv_has ls 5 [(0, .ref a_T), (1, .int p1), (2, .int p2)] := hl
  refine lv_iconst (pc := 0) (v := 0) hX hB dX2_valueAt_0 (by decide) ?_
  refine lv_istore_n (pc := 1) (lv' := [(3, .int (0 : Int32)), (0, .ref a_T), (1, .int p1), (2, .int p2)]) hX hB dX2_valueAt_1 rfl hl (by decide) rfl (fun ls hl => ?_)
  refine lv_iconst (pc := 2) (v := 0) hX hB dX2_valueAt_2 (by decide) ?_
  refine lv_istore (pc := 3) (lv' := [(4, .int (0 : Int32)), (3, .int (0 : Int32)), (0, .ref a_T), (1, .int p1), (2, .int p2)]) hX hB dX2_valueAt_3 hl (by decide) rfl (fun ls hl => ?_)
  obtain ⟨y2, hj, hf⟩ := zs_bind hf
  refine zs_then (α := Unit) (fun _ H locs ls => CC g A s.heap 5 [(a_T, .inr (2, [.ref a_T_numbers])), (a_T_numbers, .inl (gI g, 6, .inl v_T_numbers))] [(3, .int y2)] H locs ls) (fun _ ls => F0 m 49 ls []) (fun _ H locs ls hC => ?_) (fun X => ?_)
  · obtain ⟨hP, hD, hS, hl⟩ := hC
    refine lv_iload_n (pc := 49) hX hB dX2_valueAt_49 rfl (lv_at hl 0 rfl) ?_
    obtain ⟨o3, hc, hf⟩ := zs_bind hf
    refine zs_SN (pc := 50) (As := [.int y2]) (rest := []) (st1 := [.int o3]) (wc := []) (wr := [(a_T, .inr (2, [.ref a_T_numbers])), (a_T_numbers, .inl (gI g, 6, .inl v_T_numbers))]) (w1 := []) (w2 := [(a_T, .inr (2, [.ref a_T_numbers])), (a_T_numbers, .inl (gI g, 6, .inl v_T_numbers))]) (ov := some (.int o3)) lb_X3_leftOver lk_X2_57 hX hB hM hO hT hE hP hD hS hA (c_X3_leftOver l g _ y2 o3 hc) ⟨rfl, rfl⟩ ⟨Nat.le_of_ble_eq_true rfl, Nat.le_of_ble_eq_true rfl⟩ [] [0, 1] [0, 1] rfl rfl rfl rfl (by decide) rfl rfl rfl rfl hl.1 (Nat.le_of_ble_eq_true rfl) ⟨Nat.zero_le _, Nat.zero_le _⟩ rfl dX2_valueAt_50 (fun H locs hP hD hS => ?_)
    obtain rfl := Option.some.inj hf
    exact zs_iret (pc := 53) hX hB hR hK hP hD hS dX2_valueAt_53
  · refine zs_loop (fun x1 H locs ls => CC g A s.heap 5 [(a_T, .inr (2, [.ref a_T_numbers])), (a_T_numbers, .inl (gI g, 6, .inl v_T_numbers))] [(0, .ref a_T), (1, .int p1), (2, .int p2), (3, .int x1.1), (4, .int x1.2)] H locs ls) hj (fun n x1 q hf hr ih H locs ls hC => ?_) ⟨hP, hD, hS, lv_sub hl [2, 3, 4, 1, 0] rfl⟩
    obtain ⟨hP, hD, hS, hl⟩ := hC
    unfold b_X2_valueAt_5 at hf
    refine lv_iload (pc := 5) hX hB dX2_valueAt_5 (lv_at hl 4 rfl) ?_
    refine lv_aload_n (pc := 7) hX hB dX2_valueAt_7 rfl (lv_at hl 0 rfl) ?_
    refine gf_X2_9 (pc := 8) (v := .ref a_T_numbers) hX hB hT hO hE hP 0 rfl rfl dX2_valueAt_8 ?_
    refine va_alen (pc := 11) hX hB hE.1 hP 1 0 rfl rfl (v := (6 : Int32)) rfl dX2_valueAt_11 ?_
    refine lv_icmp_ge (pc := 12) (tgt := 49) hX hB dX2_valueAt_12 (by decide) (fun hq => ?_) (fun hq => ?_)
    · have hf := zs_ip hf hq
      obtain rfl := Option.some.inj hf
      obtain rfl := hr
      exact X () _ _ _ ⟨hP, hD, hS, lv_sub hl [3] rfl⟩
    · have hf := zs_in hf hq
      refine lv_iload_n (pc := 15) hX hB dX2_valueAt_15 rfl (lv_at hl 1 rfl) ?_
      refine lv_iload (pc := 16) hX hB dX2_valueAt_16 (lv_at hl 4 rfl) ?_
      obtain ⟨o4, hc, hf⟩ := zs_bind hf
      refine zs_SN (pc := 18) (As := [.int p1, .int x1.2]) (rest := []) (st1 := [.int o4]) (wc := []) (wr := [(a_T, .inr (2, [.ref a_T_numbers])), (a_T_numbers, .inl (gI g, 6, .inl v_T_numbers))]) (w1 := []) (w2 := [(a_T, .inr (2, [.ref a_T_numbers])), (a_T_numbers, .inl (gI g, 6, .inl v_T_numbers))]) (ov := some (.int o4)) lb_X3_isIn lk_X2_31 hX hB hM hO hT hE hP hD hS hA (c_X3_isIn l g _ p1 x1.2 o4 hc) ⟨rfl, rfl⟩ ⟨Nat.le_of_ble_eq_true rfl, Nat.le_of_ble_eq_true rfl⟩ [] [0, 1] [0, 1] rfl rfl rfl rfl (by decide) rfl rfl rfl rfl hl.1 (Nat.le_of_ble_eq_true rfl) ⟨Nat.zero_le _, Nat.zero_le _⟩ rfl dX2_valueAt_18 (fun H locs hP hD hS => ?_)
      refine lv_if_eq (pc := 21) (tgt := 43) hX hB dX2_valueAt_21 (by decide) (fun hq => ?_) (fun hq => ?_)
      · have hf := zs_ip hf hq
        refine lv_iinc (pc := 43) (v := x1.2 + (1 : Int32)) (lv' := [(4, .int (x1.2 + (1 : Int32))), (0, .ref a_T), (1, .int p1), (2, .int p2), (3, .int x1.1)]) hX hB dX2_valueAt_43 hl (k := 4) rfl rfl (by decide) rfl (fun ls hl => ?_)
        refine lv_goto (pc := 46) (tgt := 5) hX hB dX2_valueAt_46 (by decide) ?_
        obtain rfl := Option.some.inj hf
        exact ih _ hr _ _ _ ⟨hP, hD, hS, lv_sub hl [1, 2, 3, 4, 0] rfl⟩
      · have hf := zs_in hf hq
        refine lv_iload_n (pc := 24) hX hB dX2_valueAt_24 rfl (lv_at hl 3 rfl) ?_
        refine lv_aload_n (pc := 25) hX hB dX2_valueAt_25 rfl (lv_at hl 0 rfl) ?_
        refine gf_X2_9 (pc := 26) (v := .ref a_T_numbers) hX hB hT hO hE hP 0 rfl rfl dX2_valueAt_26 ?_
        refine lv_iload (pc := 29) hX hB dX2_valueAt_29 (lv_at hl 4 rfl) ?_
        obtain ⟨hg, hf⟩ := zs_gd hf
        refine va_iald (pc := 31) hX hB hE.1 hP 1 0 rfl rfl (zs_inb hg) dX2_valueAt_31 ?_
        refine lv_aload_n (pc := 32) hX hB dX2_valueAt_32 rfl (lv_at hl 0 rfl) ?_
        refine lv_iload_n (pc := 33) hX hB dX2_valueAt_33 rfl (lv_at hl 1 rfl) ?_
        refine lv_iload (pc := 34) hX hB dX2_valueAt_34 (lv_at hl 4 rfl) ?_
        refine lv_iload_n (pc := 36) hX hB dX2_valueAt_36 rfl (lv_at hl 2 rfl) ?_
        obtain ⟨o5, hc, hf⟩ := zs_bind hf
        refine zs_V (q := (RX2, TX2, 1)) (ci := 2) (q0 := 0) (b := a_T) (pc := 37) (As := [.int p1, .int x1.2, .int p2]) (rest := [.int (v_T_numbers x1.2.toNatClampNeg), .int x1.1]) (st1 := [.int o5, .int (v_T_numbers x1.2.toNatClampNeg), .int x1.1]) (wc := [(a_T, .inr (2, [.ref a_T_numbers])), (a_T_numbers, .inl (gI g, 6, .inl v_T_numbers))]) (wr := []) (w1 := [(a_T, .inr (2, [.ref a_T_numbers])), (a_T_numbers, .inl (gI g, 6, .inl v_T_numbers))]) (w2 := [(a_T, .inr (2, [.ref a_T_numbers])), (a_T_numbers, .inl (gI g, 6, .inl v_T_numbers))]) (ov := some (.int o5)) lb_X2_weight lk_X2_53 hX hB hM hO hT hE hP hD hS hA (c_X2_weight l g _ a_T a_T_numbers v_T_numbers p1 x1.2 p2 o5 hc) ⟨rfl, rfl⟩ ⟨Nat.le_of_ble_eq_true rfl, Nat.le_of_ble_eq_true rfl⟩ rfl rfl [0, 1] [] [0, 1] rfl rfl rfl rfl (by decide) rfl rfl rfl rfl hl.1 (Nat.le_of_ble_eq_true rfl) ⟨Nat.zero_le _, Nat.zero_le _⟩ rfl dX2_valueAt_37 (fun H locs hP hD hS => ?_)
        refine lv_imul (pc := 40) hX hB dX2_valueAt_40 ?_
        refine lv_iadd (pc := 41) hX hB dX2_valueAt_41 ?_
        refine lv_istore_n (pc := 42) (lv' := [(3, .int (x1.1 + ((v_T_numbers x1.2.toNatClampNeg) * o5))), (0, .ref a_T), (1, .int p1), (2, .int p2), (4, .int x1.2)]) hX hB dX2_valueAt_42 rfl hl (by decide) rfl (fun ls hl => ?_)
        refine lv_iinc (pc := 43) (v := x1.2 + (1 : Int32)) (lv' := [(4, .int (x1.2 + (1 : Int32))), (3, .int (x1.1 + ((v_T_numbers x1.2.toNatClampNeg) * o5))), (0, .ref a_T), (1, .int p1), (2, .int p2)]) hX hB dX2_valueAt_43 hl (k := 4) rfl rfl (by decide) rfl (fun ls hl => ?_)
        refine lv_goto (pc := 46) (tgt := 5) hX hB dX2_valueAt_46 (by decide) ?_
        obtain rfl := Option.some.inj hf
        exact ih _ hr _ _ _ ⟨hP, hD, hS, lv_sub hl [2, 3, 4, 1, 0] rfl⟩

def f_X2_foundBy (v_T_numbers : Nat → Int32) (p1 : Int32) : Option (Int32) :=
  (f_X2_firstBits v_T_numbers p1).bind (fun o1 => if o1 = (-1 : Int32) then (some (-1 : Int32)) else ((f_X2_valueAt v_T_numbers o1 (0 : Int32)).bind (fun o2 => some o2)))
set_option maxHeartbeats 4000000 in
set_option maxRecDepth 100000 in
theorem c_X2_foundBy (l : Launch) (g : GG) (sz : Nat) (a_T a_T_numbers : Nat) (v_T_numbers : Nat → Int32) (p1 : Int32) (o : Int32) (hf : f_X2_foundBy v_T_numbers p1 = some o) : Met l yX2_foundBy (Cond.code yX2_foundBy cX2_foundBy 3 (some .int) :: TB) { frames := 3, cells := 0, slots := 0, locals := 70 } (Pst g [(a_T, .inr (2, [.ref a_T_numbers])), (a_T_numbers, .inl (gI g, 6, .inl v_T_numbers))] [.ref a_T, .int p1] sz) (Qst g [(a_T, .inr (2, [.ref a_T_numbers])), (a_T_numbers, .inl (gI g, 6, .inl v_T_numbers))] (some (.int o)) (va_A [(a_T, .inr (2, [.ref a_T_numbers])), (a_T_numbers, .inl (gI g, 6, .inl v_T_numbers))] sz)) 0 0 (va_A [(a_T, .inr (2, [.ref a_T_numbers])), (a_T_numbers, .inl (gI g, 6, .inl v_T_numbers))] sz) := by
  unfold f_X2_foundBy at hf
  refine zs_met (own := RX2) (plainFor_of_name (by decide)) rfl (Nat.le_of_ble_eq_true rfl) ?_
  intro p e s m below meth c A ls hX hB hR hM hT hO hK hN hA hE hP hD hS hl
  have hl : lv_has ls 3 [(0, .ref a_T), (1, .int p1)] := hl
  refine lv_aload_n (pc := 0) hX hB dX2_foundBy_0 rfl (lv_at hl 0 rfl) ?_
  refine lv_iload_n (pc := 1) hX hB dX2_foundBy_1 rfl (lv_at hl 1 rfl) ?_
  obtain ⟨o1, hc, hf⟩ := zs_bind hf
  refine zs_V (q := (RX2, TX2, 1)) (ci := 2) (q0 := 0) (b := a_T) (pc := 2) (As := [.int p1]) (rest := []) (st1 := [.int o1]) (wc := [(a_T, .inr (2, [.ref a_T_numbers])), (a_T_numbers, .inl (gI g, 6, .inl v_T_numbers))]) (wr := []) (w1 := [(a_T, .inr (2, [.ref a_T_numbers])), (a_T_numbers, .inl (gI g, 6, .inl v_T_numbers))]) (w2 := [(a_T, .inr (2, [.ref a_T_numbers])), (a_T_numbers, .inl (gI g, 6, .inl v_T_numbers))]) (ov := some (.int o1)) lb_X2_firstBits lk_X2_38 hX hB hM hO hT hE hP hD hS hA (c_X2_firstBits l g _ a_T a_T_numbers v_T_numbers p1 o1 hc) ⟨rfl, rfl⟩ ⟨Nat.le_of_ble_eq_true rfl, Nat.le_of_ble_eq_true rfl⟩ rfl rfl [0, 1] [] [0, 1] rfl rfl rfl rfl (by decide) rfl rfl rfl rfl hl.1 (Nat.le_of_ble_eq_true rfl) ⟨Nat.zero_le _, Nat.zero_le _⟩ rfl dX2_foundBy_2 (fun H locs hP hD hS => ?_)
  refine lv_istore_n (pc := 5) (lv' := [(2, .int o1), (0, .ref a_T), (1, .int p1)]) hX hB dX2_foundBy_5 rfl hl (by decide) rfl (fun ls hl => ?_)
  refine lv_iload_n (pc := 6) hX hB dX2_foundBy_6 rfl (lv_at hl 0 rfl) ?_
  refine lv_iconst (pc := 7) (v := -1) hX hB dX2_foundBy_7 (by decide) ?_
  refine lv_icmp_ne (pc := 8) (tgt := 15) hX hB dX2_foundBy_8 (by decide) (fun hq => ?_) (fun hq => ?_)
  · have hf := zs_in hf hq
    refine lv_aload_n (pc := 15) hX hB dX2_foundBy_15 rfl (lv_at hl 1 rfl) ?_
    refine lv_iload_n (pc := 16) hX hB dX2_foundBy_16 rfl (lv_at hl 0 rfl) ?_
    refine lv_iconst (pc := 17) (v := 0) hX hB dX2_foundBy_17 (by decide) ?_
    obtain ⟨o2, hc, hf⟩ := zs_bind hf
    refine zs_V (q := (RX2, TX2, 1)) (ci := 2) (q0 := 0) (b := a_T) (pc := 18) (As := [.int o1, .int (0 : Int32)]) (rest := []) (st1 := [.int o2]) (wc := [(a_T, .inr (2, [.ref a_T_numbers])), (a_T_numbers, .inl (gI g, 6, .inl v_T_numbers))]) (wr := []) (w1 := [(a_T, .inr (2, [.ref a_T_numbers])), (a_T_numbers, .inl (gI g, 6, .inl v_T_numbers))]) (w2 := [(a_T, .inr (2, [.ref a_T_numbers])), (a_T_numbers, .inl (gI g, 6, .inl v_T_numbers))]) (ov := some (.int o2)) lb_X2_valueAt lk_X2_41 hX hB hM hO hT hE hP hD hS hA (c_X2_valueAt l g _ a_T a_T_numbers v_T_numbers o1 (0 : Int32) o2 hc) ⟨rfl, rfl⟩ ⟨Nat.le_of_ble_eq_true rfl, Nat.le_of_ble_eq_true rfl⟩ rfl rfl [0, 1] [] [0, 1] rfl rfl rfl rfl (by decide) rfl rfl rfl rfl hl.1 (Nat.le_of_ble_eq_true rfl) ⟨Nat.zero_le _, Nat.zero_le _⟩ rfl dX2_foundBy_18 (fun H locs hP hD hS => ?_)
    obtain rfl := Option.some.inj hf
    exact zs_iret (pc := 21) hX hB hR hK hP hD hS dX2_foundBy_21
  · have hf := zs_ip hf hq
    refine lv_iconst (pc := 11) (v := -1) hX hB dX2_foundBy_11 (by decide) ?_
    refine lv_goto (pc := 12) (tgt := 21) hX hB dX2_foundBy_12 (by decide) ?_
    obtain rfl := Option.some.inj hf
    exact zs_iret (pc := 21) hX hB hR hK hP hD hS dX2_foundBy_21

def b_X2_agreesBy_15 (v_T_numbers : Nat → Int32) (o1 : Int32) (x2 : Int32) : Option ((Int32) ⊕ ((Unit) ⊕ (Int32))) :=
  if (6 : Int32) ≤ x2 then (some (Sum.inr (Sum.inl ()))) else (gd (inb x2 6) (if (v_T_numbers x2.toNatClampNeg) = (-1 : Int32) then (some (Sum.inl (x2 + (1 : Int32)))) else (gd (inb x2 6) ((f_X2_valueAt v_T_numbers o1 (x2 + (1 : Int32))).bind (fun o5 => if (v_T_numbers x2.toNatClampNeg) = o5 then (some (Sum.inl (x2 + (1 : Int32)))) else (some (Sum.inr (Sum.inr (0 : Int32)))))))))
def f_X2_agreesBy (v_T_numbers : Nat → Int32) (p1 : Int32) : Option (Int32) :=
  (f_X2_firstBits v_T_numbers p1).bind (fun o1 => if o1 = (-1 : Int32) then (some (0 : Int32)) else ((lp (b_X2_agreesBy_15 v_T_numbers o1) 200 (0 : Int32)).bind (fun y3 => Sum.elim (fun z4 => some (1 : Int32)) (fun r => some r) y3)))
set_option maxHeartbeats 4000000 in
set_option maxRecDepth 100000 in
theorem c_X2_agreesBy (l : Launch) (g : GG) (sz : Nat) (a_T a_T_numbers : Nat) (v_T_numbers : Nat → Int32) (p1 : Int32) (o : Int32) (hf : f_X2_agreesBy v_T_numbers p1 = some o) : Met l yX2_agreesBy (Cond.code yX2_agreesBy cX2_agreesBy 4 (some .boolean) :: TB) { frames := 3, cells := 0, slots := 0, locals := 70 } (Pst g [(a_T, .inr (2, [.ref a_T_numbers])), (a_T_numbers, .inl (gI g, 6, .inl v_T_numbers))] [.ref a_T, .int p1] sz) (Qst g [(a_T, .inr (2, [.ref a_T_numbers])), (a_T_numbers, .inl (gI g, 6, .inl v_T_numbers))] (some (.int o)) (va_A [(a_T, .inr (2, [.ref a_T_numbers])), (a_T_numbers, .inl (gI g, 6, .inl v_T_numbers))] sz)) 0 0 (va_A [(a_T, .inr (2, [.ref a_T_numbers])), (a_T_numbers, .inl (gI g, 6, .inl v_T_numbers))] sz) := by
  unfold f_X2_agreesBy at hf
  refine zs_met (own := RX2) (plainFor_of_name (by decide)) rfl (Nat.le_of_ble_eq_true rfl) ?_
  intro p e s m below meth c A ls hX hB hR hM hT hO hK hN hA hE hP hD hS hl
  have hl : lv_has ls 4 [(0, .ref a_T), (1, .int p1)] := hl
  refine lv_aload_n (pc := 0) hX hB dX2_agreesBy_0 rfl (lv_at hl 0 rfl) ?_
  refine lv_iload_n (pc := 1) hX hB dX2_agreesBy_1 rfl (lv_at hl 1 rfl) ?_
  obtain ⟨o1, hc, hf⟩ := zs_bind hf
  refine zs_V (q := (RX2, TX2, 1)) (ci := 2) (q0 := 0) (b := a_T) (pc := 2) (As := [.int p1]) (rest := []) (st1 := [.int o1]) (wc := [(a_T, .inr (2, [.ref a_T_numbers])), (a_T_numbers, .inl (gI g, 6, .inl v_T_numbers))]) (wr := []) (w1 := [(a_T, .inr (2, [.ref a_T_numbers])), (a_T_numbers, .inl (gI g, 6, .inl v_T_numbers))]) (w2 := [(a_T, .inr (2, [.ref a_T_numbers])), (a_T_numbers, .inl (gI g, 6, .inl v_T_numbers))]) (ov := some (.int o1)) lb_X2_firstBits lk_X2_38 hX hB hM hO hT hE hP hD hS hA (c_X2_firstBits l g _ a_T a_T_numbers v_T_numbers p1 o1 hc) ⟨rfl, rfl⟩ ⟨Nat.le_of_ble_eq_true rfl, Nat.le_of_ble_eq_true rfl⟩ rfl rfl [0, 1] [] [0, 1] rfl rfl rfl rfl (by decide) rfl rfl rfl rfl hl.1 (Nat.le_of_ble_eq_true rfl) ⟨Nat.zero_le _, Nat.zero_le _⟩ rfl dX2_agreesBy_2 (fun H locs hP hD hS => ?_)
  refine lv_istore_n (pc := 5) (lv' := [(2, .int o1), (0, .ref a_T), (1, .int p1)]) hX hB dX2_agreesBy_5 rfl hl (by decide) rfl (fun ls hl => ?_)
  refine lv_iload_n (pc := 6) hX hB dX2_agreesBy_6 rfl (lv_at hl 0 rfl) ?_
  refine lv_iconst (pc := 7) (v := -1) hX hB dX2_agreesBy_7 (by decide) ?_
  refine lv_icmp_ne (pc := 8) (tgt := 13) hX hB dX2_agreesBy_8 (by decide) (fun hq => ?_) (fun hq => ?_)
  · have hf := zs_in hf hq
    refine lv_iconst (pc := 13) (v := 0) hX hB dX2_agreesBy_13 (by decide) ?_
    refine lv_istore_n (pc := 14) (lv' := [(3, .int (0 : Int32)), (2, .int o1), (0, .ref a_T), (1, .int p1)]) hX hB dX2_agreesBy_14 rfl hl (by decide) rfl (fun ls hl => ?_)
    obtain ⟨y3, hj, hf⟩ := zs_bind hf
    refine zs_then (α := Unit) (fun z4 H locs ls => y3 = Sum.inl z4 ∧ CC g A s.heap 4 [(a_T, .inr (2, [.ref a_T_numbers])), (a_T_numbers, .inl (gI g, 6, .inl v_T_numbers))] [] H locs ls) (fun _ ls => F0 m 59 ls []) (fun z4 H locs ls hC => ?_) (fun X => ?_)
    · obtain ⟨rfl, hP, hD, hS, hl⟩ := hC
      have hf := zs_el hf
      refine lv_iconst (pc := 59) (v := 1) hX hB dX2_agreesBy_59 (by decide) ?_
      obtain rfl := Option.some.inj hf
      exact zs_zret (v := (1 : Int32)) (pc := 60) hX hB hR hK rfl hP hD hS dX2_agreesBy_60
    · have hf2 := hf
      refine zs_loop (fun x2 H locs ls => CC g A s.heap 4 [(a_T, .inr (2, [.ref a_T_numbers])), (a_T_numbers, .inl (gI g, 6, .inl v_T_numbers))] [(0, .ref a_T), (2, .int o1), (3, .int x2)] H locs ls) hj (fun n x2 q hf hr ih H locs ls hC => ?_) ⟨hP, hD, hS, lv_sub hl [2, 1, 0] rfl⟩
      obtain ⟨hP, hD, hS, hl⟩ := hC
      unfold b_X2_agreesBy_15 at hf
      refine lv_iload_n (pc := 15) hX hB dX2_agreesBy_15 rfl (lv_at hl 2 rfl) ?_
      refine lv_aload_n (pc := 16) hX hB dX2_agreesBy_16 rfl (lv_at hl 0 rfl) ?_
      refine gf_X2_9 (pc := 17) (v := .ref a_T_numbers) hX hB hT hO hE hP 0 rfl rfl dX2_agreesBy_17 ?_
      refine va_alen (pc := 20) hX hB hE.1 hP 1 0 rfl rfl (v := (6 : Int32)) rfl dX2_agreesBy_20 ?_
      refine lv_icmp_ge (pc := 21) (tgt := 59) hX hB dX2_agreesBy_21 (by decide) (fun hq => ?_) (fun hq => ?_)
      · have hf := zs_ip hf hq
        obtain rfl := Option.some.inj hf
        exact X _ _ _ _ ⟨hr.symm, hP, hD, hS, lv_sub hl [] rfl⟩
      · have hf := zs_in hf hq
        refine lv_aload_n (pc := 24) hX hB dX2_agreesBy_24 rfl (lv_at hl 0 rfl) ?_
        refine gf_X2_9 (pc := 25) (v := .ref a_T_numbers) hX hB hT hO hE hP 0 rfl rfl dX2_agreesBy_25 ?_
        refine lv_iload_n (pc := 28) hX hB dX2_agreesBy_28 rfl (lv_at hl 2 rfl) ?_
        obtain ⟨hg, hf⟩ := zs_gd hf
        refine va_iald (pc := 29) hX hB hE.1 hP 1 0 rfl rfl (zs_inb hg) dX2_agreesBy_29 ?_
        refine lv_iconst (pc := 30) (v := -1) hX hB dX2_agreesBy_30 (by decide) ?_
        refine lv_icmp_eq (pc := 31) (tgt := 53) hX hB dX2_agreesBy_31 (by decide) (fun hq => ?_) (fun hq => ?_)
        · have hf := zs_ip hf hq
          refine lv_iinc (pc := 53) (v := x2 + (1 : Int32)) (lv' := [(3, .int (x2 + (1 : Int32))), (0, .ref a_T), (2, .int o1)]) hX hB dX2_agreesBy_53 hl (k := 2) rfl rfl (by decide) rfl (fun ls hl => ?_)
          refine lv_goto (pc := 56) (tgt := 15) hX hB dX2_agreesBy_56 (by decide) ?_
          obtain rfl := Option.some.inj hf
          exact ih _ hr _ _ _ ⟨hP, hD, hS, lv_sub hl [1, 2, 0] rfl⟩
        · have hf := zs_in hf hq
          refine lv_aload_n (pc := 34) hX hB dX2_agreesBy_34 rfl (lv_at hl 0 rfl) ?_
          refine gf_X2_9 (pc := 35) (v := .ref a_T_numbers) hX hB hT hO hE hP 0 rfl rfl dX2_agreesBy_35 ?_
          refine lv_iload_n (pc := 38) hX hB dX2_agreesBy_38 rfl (lv_at hl 2 rfl) ?_
          obtain ⟨hg, hf⟩ := zs_gd hf
          refine va_iald (pc := 39) hX hB hE.1 hP 1 0 rfl rfl (zs_inb hg) dX2_agreesBy_39 ?_
          refine lv_aload_n (pc := 40) hX hB dX2_agreesBy_40 rfl (lv_at hl 0 rfl) ?_
          refine lv_iload_n (pc := 41) hX hB dX2_agreesBy_41 rfl (lv_at hl 1 rfl) ?_
          refine lv_iload_n (pc := 42) hX hB dX2_agreesBy_42 rfl (lv_at hl 2 rfl) ?_
          refine lv_iconst (pc := 43) (v := 1) hX hB dX2_agreesBy_43 (by decide) ?_
          refine lv_iadd (pc := 44) hX hB dX2_agreesBy_44 ?_
          obtain ⟨o5, hc, hf⟩ := zs_bind hf
          refine zs_V (q := (RX2, TX2, 1)) (ci := 2) (q0 := 0) (b := a_T) (pc := 45) (As := [.int o1, .int (x2 + (1 : Int32))]) (rest := [.int (v_T_numbers x2.toNatClampNeg)]) (st1 := [.int o5, .int (v_T_numbers x2.toNatClampNeg)]) (wc := [(a_T, .inr (2, [.ref a_T_numbers])), (a_T_numbers, .inl (gI g, 6, .inl v_T_numbers))]) (wr := []) (w1 := [(a_T, .inr (2, [.ref a_T_numbers])), (a_T_numbers, .inl (gI g, 6, .inl v_T_numbers))]) (w2 := [(a_T, .inr (2, [.ref a_T_numbers])), (a_T_numbers, .inl (gI g, 6, .inl v_T_numbers))]) (ov := some (.int o5)) lb_X2_valueAt lk_X2_41 hX hB hM hO hT hE hP hD hS hA (c_X2_valueAt l g _ a_T a_T_numbers v_T_numbers o1 (x2 + (1 : Int32)) o5 hc) ⟨rfl, rfl⟩ ⟨Nat.le_of_ble_eq_true rfl, Nat.le_of_ble_eq_true rfl⟩ rfl rfl [0, 1] [] [0, 1] rfl rfl rfl rfl (by decide) rfl rfl rfl rfl hl.1 (Nat.le_of_ble_eq_true rfl) ⟨Nat.zero_le _, Nat.zero_le _⟩ rfl dX2_agreesBy_45 (fun H locs hP hD hS => ?_)
          refine lv_icmp_eq (pc := 48) (tgt := 53) hX hB dX2_agreesBy_48 (by decide) (fun hq => ?_) (fun hq => ?_)
          · have hf := zs_ip hf hq
            refine lv_iinc (pc := 53) (v := x2 + (1 : Int32)) (lv' := [(3, .int (x2 + (1 : Int32))), (0, .ref a_T), (2, .int o1)]) hX hB dX2_agreesBy_53 hl (k := 2) rfl rfl (by decide) rfl (fun ls hl => ?_)
            refine lv_goto (pc := 56) (tgt := 15) hX hB dX2_agreesBy_56 (by decide) ?_
            obtain rfl := Option.some.inj hf
            exact ih _ hr _ _ _ ⟨hP, hD, hS, lv_sub hl [1, 2, 0] rfl⟩
          · have hf := zs_in hf hq
            refine lv_iconst (pc := 51) (v := 0) hX hB dX2_agreesBy_51 (by decide) ?_
            obtain rfl := Option.some.inj hf
            obtain rfl := hr
            have hf := zs_er hf2
            obtain rfl := Option.some.inj hf
            exact zs_zret (v := (0 : Int32)) (pc := 52) hX hB hR hK rfl hP hD hS dX2_agreesBy_52
  · have hf := zs_ip hf hq
    refine lv_iconst (pc := 11) (v := 0) hX hB dX2_agreesBy_11 (by decide) ?_
    obtain rfl := Option.some.inj hf
    exact zs_zret (v := (0 : Int32)) (pc := 12) hX hB hR hK rfl hP hD hS dX2_agreesBy_12

def b_X2_bits_4 (v_T_numbers : Nat → Int32) (x1 : Int32 × Int32) : Option ((Int32 × Int32) ⊕ (Int32)) :=
  if (6 : Int32) ≤ x1.2 then (some (Sum.inr x1.1)) else (gd (inb x1.2 6) (if (v_T_numbers x1.2.toNatClampNeg) = (-1 : Int32) then (some (Sum.inl (x1.1, x1.2 + (1 : Int32)))) else (some (Sum.inl (x1.1 ||| (jshl (1 : Int32) x1.2), x1.2 + (1 : Int32))))))
def f_X2_bits (v_T_numbers : Nat → Int32) : Option (Int32) :=
  (lp (b_X2_bits_4 v_T_numbers) 200 ((0 : Int32), (0 : Int32))).bind (fun y2 => some y2)
set_option maxHeartbeats 4000000 in
set_option maxRecDepth 100000 in
theorem c_X2_bits (l : Launch) (g : GG) (sz : Nat) (a_T a_T_numbers : Nat) (v_T_numbers : Nat → Int32) (o : Int32) (hf : f_X2_bits v_T_numbers = some o) : Met l yX2_bits (Cond.code yX2_bits cX2_bits 3 (some .int) :: TB) { frames := 0, cells := 0, slots := 0, locals := 0 } (Pst g [(a_T, .inr (2, [.ref a_T_numbers])), (a_T_numbers, .inl (gI g, 6, .inl v_T_numbers))] [.ref a_T] sz) (Qst g [(a_T, .inr (2, [.ref a_T_numbers])), (a_T_numbers, .inl (gI g, 6, .inl v_T_numbers))] (some (.int o)) (va_A [(a_T, .inr (2, [.ref a_T_numbers])), (a_T_numbers, .inl (gI g, 6, .inl v_T_numbers))] sz)) 0 0 (va_A [(a_T, .inr (2, [.ref a_T_numbers])), (a_T_numbers, .inl (gI g, 6, .inl v_T_numbers))] sz) := by
  unfold f_X2_bits at hf
  refine zs_met (own := RX2) (plainFor_of_name (by decide)) rfl (Nat.le_of_ble_eq_true rfl) ?_
  intro p e s m below meth c A ls hX hB hR hM hT hO hK hN hA hE hP hD hS hl
  have hl : lv_has ls 3 [(0, .ref a_T)] := hl
  refine lv_iconst (pc := 0) (v := 0) hX hB dX2_bits_0 (by decide) ?_
  refine lv_istore_n (pc := 1) (lv' := [(1, .int (0 : Int32)), (0, .ref a_T)]) hX hB dX2_bits_1 rfl hl (by decide) rfl (fun ls hl => ?_)
  refine lv_iconst (pc := 2) (v := 0) hX hB dX2_bits_2 (by decide) ?_
  refine lv_istore_n (pc := 3) (lv' := [(2, .int (0 : Int32)), (1, .int (0 : Int32)), (0, .ref a_T)]) hX hB dX2_bits_3 rfl hl (by decide) rfl (fun ls hl => ?_)
  obtain ⟨y2, hj, hf⟩ := zs_bind hf
  refine zs_then (α := Unit) (fun _ H locs ls => CC g A s.heap 3 [(a_T, .inr (2, [.ref a_T_numbers])), (a_T_numbers, .inl (gI g, 6, .inl v_T_numbers))] [(1, .int y2)] H locs ls) (fun _ ls => F0 m 35 ls []) (fun _ H locs ls hC => ?_) (fun X => ?_)
  · obtain ⟨hP, hD, hS, hl⟩ := hC
    refine lv_iload_n (pc := 35) hX hB dX2_bits_35 rfl (lv_at hl 0 rfl) ?_
    obtain rfl := Option.some.inj hf
    exact zs_iret (pc := 36) hX hB hR hK hP hD hS dX2_bits_36
  · refine zs_loop (fun x1 H locs ls => CC g A s.heap 3 [(a_T, .inr (2, [.ref a_T_numbers])), (a_T_numbers, .inl (gI g, 6, .inl v_T_numbers))] [(0, .ref a_T), (1, .int x1.1), (2, .int x1.2)] H locs ls) hj (fun n x1 q hf hr ih H locs ls hC => ?_) ⟨hP, hD, hS, lv_sub hl [2, 1, 0] rfl⟩
    obtain ⟨hP, hD, hS, hl⟩ := hC
    unfold b_X2_bits_4 at hf
    refine lv_iload_n (pc := 4) hX hB dX2_bits_4 rfl (lv_at hl 2 rfl) ?_
    refine lv_aload_n (pc := 5) hX hB dX2_bits_5 rfl (lv_at hl 0 rfl) ?_
    refine gf_X2_9 (pc := 6) (v := .ref a_T_numbers) hX hB hT hO hE hP 0 rfl rfl dX2_bits_6 ?_
    refine va_alen (pc := 9) hX hB hE.1 hP 1 0 rfl rfl (v := (6 : Int32)) rfl dX2_bits_9 ?_
    refine lv_icmp_ge (pc := 10) (tgt := 35) hX hB dX2_bits_10 (by decide) (fun hq => ?_) (fun hq => ?_)
    · have hf := zs_ip hf hq
      obtain rfl := Option.some.inj hf
      obtain rfl := hr
      exact X () _ _ _ ⟨hP, hD, hS, lv_sub hl [1] rfl⟩
    · have hf := zs_in hf hq
      refine lv_aload_n (pc := 13) hX hB dX2_bits_13 rfl (lv_at hl 0 rfl) ?_
      refine gf_X2_9 (pc := 14) (v := .ref a_T_numbers) hX hB hT hO hE hP 0 rfl rfl dX2_bits_14 ?_
      refine lv_iload_n (pc := 17) hX hB dX2_bits_17 rfl (lv_at hl 2 rfl) ?_
      obtain ⟨hg, hf⟩ := zs_gd hf
      refine va_iald (pc := 18) hX hB hE.1 hP 1 0 rfl rfl (zs_inb hg) dX2_bits_18 ?_
      refine lv_iconst (pc := 19) (v := -1) hX hB dX2_bits_19 (by decide) ?_
      refine lv_icmp_eq (pc := 20) (tgt := 29) hX hB dX2_bits_20 (by decide) (fun hq => ?_) (fun hq => ?_)
      · have hf := zs_ip hf hq
        refine lv_iinc (pc := 29) (v := x1.2 + (1 : Int32)) (lv' := [(2, .int (x1.2 + (1 : Int32))), (0, .ref a_T), (1, .int x1.1)]) hX hB dX2_bits_29 hl (k := 2) rfl rfl (by decide) rfl (fun ls hl => ?_)
        refine lv_goto (pc := 32) (tgt := 4) hX hB dX2_bits_32 (by decide) ?_
        obtain rfl := Option.some.inj hf
        exact ih _ hr _ _ _ ⟨hP, hD, hS, lv_sub hl [1, 2, 0] rfl⟩
      · have hf := zs_in hf hq
        refine lv_iload_n (pc := 23) hX hB dX2_bits_23 rfl (lv_at hl 1 rfl) ?_
        refine lv_iconst (pc := 24) (v := 1) hX hB dX2_bits_24 (by decide) ?_
        refine lv_iload_n (pc := 25) hX hB dX2_bits_25 rfl (lv_at hl 2 rfl) ?_
        refine zs_ishl (pc := 26) hX hB dX2_bits_26 ?_
        refine lv_ior (pc := 27) hX hB dX2_bits_27 ?_
        refine lv_istore_n (pc := 28) (lv' := [(1, .int (x1.1 ||| (jshl (1 : Int32) x1.2))), (0, .ref a_T), (2, .int x1.2)]) hX hB dX2_bits_28 rfl hl (by decide) rfl (fun ls hl => ?_)
        refine lv_iinc (pc := 29) (v := x1.2 + (1 : Int32)) (lv' := [(2, .int (x1.2 + (1 : Int32))), (1, .int (x1.1 ||| (jshl (1 : Int32) x1.2))), (0, .ref a_T)]) hX hB dX2_bits_29 hl (k := 2) rfl rfl (by decide) rfl (fun ls hl => ?_)
        refine lv_goto (pc := 32) (tgt := 4) hX hB dX2_bits_32 (by decide) ?_
        obtain rfl := Option.some.inj hf
        exact ih _ hr _ _ _ ⟨hP, hD, hS, lv_sub hl [2, 1, 0] rfl⟩

def b_X2_liarBits_11 (v_T_numbers : Nat → Int32) (p1 : Int32) (o1 : Int32) (x2 : Int32 × Int32 × (Nat → Int32)) : Option ((Int32 × Int32 × (Nat → Int32)) ⊕ (Int32 × (Nat → Int32))) :=
  if o1 < x2.2.1 then (some (Sum.inr (x2.1, x2.2.2))) else ((if x2.1 = (-1 : Int32) then (some (1 : Int32)) else ((f_J6_bitCount_0f7a4 x2.2.1).bind (fun o8 => (f_J6_bitCount_0f7a4 x2.1).bind (fun o9 => if o9 ≤ o8 then (some (0 : Int32)) else (some (1 : Int32)))))).bind (fun y4 => if y4 = (0 : Int32) then (some (Sum.inl (x2.1, x2.2.1 + (1 : Int32), x2.2.2))) else (if (x2.2.1 &&& (o1 ^^^ (-1 : Int32))) = (0 : Int32) then ((f_J6_bitCount_0f7a4 (o1 &&& (x2.2.1 ^^^ (-1 : Int32)))).bind (fun o5 => if o5 ≤ p1 then (some (Sum.inl (x2.1, x2.2.1 + (1 : Int32), x2.2.2))) else ((f_X2_copyWithout x2.2.2 v_T_numbers x2.2.1).bind (fun o6 => (f_X2_agreesBy o6 p1).bind (fun o7 => if o7 = (0 : Int32) then (some (Sum.inl (x2.1, x2.2.1 + (1 : Int32), o6))) else (some (Sum.inl (x2.2.1, x2.2.1 + (1 : Int32), o6)))))))) else (some (Sum.inl (x2.1, x2.2.1 + (1 : Int32), x2.2.2))))))
def f_X2_liarBits (v_T_numbers : Nat → Int32) (v_P2_numbers : Nat → Int32) (p1 : Int32) : Option (Int32 × (Nat → Int32)) :=
  (f_X2_bits v_T_numbers).bind (fun o1 => (lp (b_X2_liarBits_11 v_T_numbers p1 o1) 200 ((-1 : Int32), (0 : Int32), v_P2_numbers)).bind (fun y3 => some (y3.1, y3.2)))
set_option maxHeartbeats 4000000 in
set_option maxRecDepth 100000 in
theorem c_X2_liarBits (l : Launch) (g : GG) (sz : Nat) (a_T a_T_numbers a_P2 a_P2_numbers : Nat) (v_T_numbers : Nat → Int32) (v_P2_numbers : Nat → Int32) (p1 : Int32) (o : Int32 × (Nat → Int32)) (hf : f_X2_liarBits v_T_numbers v_P2_numbers p1 = some o) : Met l yX2_liarBits (Cond.code yX2_liarBits cX2_liarBits 7 (some .int) :: TB) { frames := 4, cells := 0, slots := 0, locals := 93 } (Pst g [(a_T, .inr (2, [.ref a_T_numbers])), (a_T_numbers, .inl (gI g, 6, .inl v_T_numbers)), (a_P2, .inr (2, [.ref a_P2_numbers])), (a_P2_numbers, .inl (gI g, 6, .inl v_P2_numbers))] [.ref a_T, .int p1, .ref a_P2] sz) (Qst g [(a_T, .inr (2, [.ref a_T_numbers])), (a_T_numbers, .inl (gI g, 6, .inl v_T_numbers)), (a_P2, .inr (2, [.ref a_P2_numbers])), (a_P2_numbers, .inl (gI g, 6, .inl o.2))] (some (.int o.1)) (va_A [(a_T, .inr (2, [.ref a_T_numbers])), (a_T_numbers, .inl (gI g, 6, .inl v_T_numbers)), (a_P2, .inr (2, [.ref a_P2_numbers])), (a_P2_numbers, .inl (gI g, 6, .inl v_P2_numbers))] sz)) 0 0 (va_A [(a_T, .inr (2, [.ref a_T_numbers])), (a_T_numbers, .inl (gI g, 6, .inl v_T_numbers)), (a_P2, .inr (2, [.ref a_P2_numbers])), (a_P2_numbers, .inl (gI g, 6, .inl v_P2_numbers))] sz) := by
  unfold f_X2_liarBits at hf
  refine zs_met (own := RX2) (plainFor_of_name (by decide)) rfl (Nat.le_of_ble_eq_true rfl) ?_
  intro p e s m below meth c A ls hX hB hR hM hT hO hK hN hA hE hP hD hS hl
  have hl : lv_has ls 7 [(0, .ref a_T), (1, .int p1), (2, .ref a_P2)] := hl
  refine lv_aload_n (pc := 0) hX hB dX2_liarBits_0 rfl (lv_at hl 0 rfl) ?_
  obtain ⟨o1, hc, hf⟩ := zs_bind hf
  refine zs_V (q := (RX2, TX2, 1)) (ci := 2) (q0 := 0) (b := a_T) (pc := 1) (As := []) (rest := []) (st1 := [.int o1]) (wc := [(a_T, .inr (2, [.ref a_T_numbers])), (a_T_numbers, .inl (gI g, 6, .inl v_T_numbers))]) (wr := [(a_P2, .inr (2, [.ref a_P2_numbers])), (a_P2_numbers, .inl (gI g, 6, .inl v_P2_numbers))]) (w1 := [(a_T, .inr (2, [.ref a_T_numbers])), (a_T_numbers, .inl (gI g, 6, .inl v_T_numbers))]) (w2 := [(a_T, .inr (2, [.ref a_T_numbers])), (a_T_numbers, .inl (gI g, 6, .inl v_T_numbers)), (a_P2, .inr (2, [.ref a_P2_numbers])), (a_P2_numbers, .inl (gI g, 6, .inl v_P2_numbers))]) (ov := some (.int o1)) lb_X2_bits lk_X2_21 hX hB hM hO hT hE hP hD hS hA (c_X2_bits l g _ a_T a_T_numbers v_T_numbers o1 hc) ⟨rfl, rfl⟩ ⟨Nat.le_of_ble_eq_true rfl, Nat.le_of_ble_eq_true rfl⟩ rfl rfl [0, 1] [2, 3] [2, 3, 0, 1] rfl rfl rfl rfl (by decide) rfl rfl rfl rfl hl.1 (Nat.le_of_ble_eq_true rfl) ⟨Nat.zero_le _, Nat.zero_le _⟩ rfl dX2_liarBits_1 (fun H locs hP hD hS => ?_)
  refine lv_istore_n (pc := 4) (lv' := [(3, .int o1), (0, .ref a_T), (1, .int p1), (2, .ref a_P2)]) hX hB dX2_liarBits_4 rfl hl (by decide) rfl (fun ls hl => ?_)
  refine lv_iconst (pc := 5) (v := -1) hX hB dX2_liarBits_5 (by decide) ?_
  refine lv_istore (pc := 6) (lv' := [(4, .int (-1 : Int32)), (3, .int o1), (0, .ref a_T), (1, .int p1), (2, .ref a_P2)]) hX hB dX2_liarBits_6 hl (by decide) rfl (fun ls hl => ?_)
  refine lv_iconst (pc := 8) (v := 0) hX hB dX2_liarBits_8 (by decide) ?_
  refine lv_istore (pc := 9) (lv' := [(5, .int (0 : Int32)), (4, .int (-1 : Int32)), (3, .int o1), (0, .ref a_T), (1, .int p1), (2, .ref a_P2)]) hX hB dX2_liarBits_9 hl (by decide) rfl (fun ls hl => ?_)
  obtain ⟨y3, hj, hf⟩ := zs_bind hf
  refine zs_then (α := Unit) (fun _ H locs ls => CC g A s.heap 7 [(a_T, .inr (2, [.ref a_T_numbers])), (a_T_numbers, .inl (gI g, 6, .inl v_T_numbers)), (a_P2, .inr (2, [.ref a_P2_numbers])), (a_P2_numbers, .inl (gI g, 6, .inl y3.2))] [(4, .int y3.1)] H locs ls) (fun _ ls => F0 m 95 ls []) (fun _ H locs ls hC => ?_) (fun X => ?_)
  · obtain ⟨hP, hD, hS, hl⟩ := hC
    refine lv_iload (pc := 95) hX hB dX2_liarBits_95 (lv_at hl 0 rfl) ?_
    obtain rfl := Option.some.inj hf
    exact zs_iret (pc := 97) hX hB hR hK hP hD hS dX2_liarBits_97
  · refine zs_loop (fun x2 H locs ls => CC g A s.heap 7 [(a_T, .inr (2, [.ref a_T_numbers])), (a_T_numbers, .inl (gI g, 6, .inl v_T_numbers)), (a_P2, .inr (2, [.ref a_P2_numbers])), (a_P2_numbers, .inl (gI g, 6, .inl x2.2.2))] [(0, .ref a_T), (1, .int p1), (2, .ref a_P2), (3, .int o1), (4, .int x2.1), (5, .int x2.2.1)] H locs ls) hj (fun n x2 q hf hr ih H locs ls hC => ?_) ⟨hP, hD, hS, lv_sub hl [3, 4, 5, 2, 1, 0] rfl⟩
    obtain ⟨hP, hD, hS, hl⟩ := hC
    unfold b_X2_liarBits_11 at hf
    refine lv_iload (pc := 11) hX hB dX2_liarBits_11 (lv_at hl 5 rfl) ?_
    refine lv_iload_n (pc := 13) hX hB dX2_liarBits_13 rfl (lv_at hl 3 rfl) ?_
    refine lv_icmp_gt (pc := 14) (tgt := 95) hX hB dX2_liarBits_14 (by decide) (fun hq => ?_) (fun hq => ?_)
    · have hf := zs_ip hf hq
      obtain rfl := Option.some.inj hf
      obtain rfl := hr
      exact X () _ _ _ ⟨hP, hD, hS, lv_sub hl [4] rfl⟩
    · have hf := zs_in hf hq
      refine lv_iload (pc := 17) hX hB dX2_liarBits_17 (lv_at hl 4 rfl) ?_
      refine lv_iconst (pc := 19) (v := -1) hX hB dX2_liarBits_19 (by decide) ?_
      obtain ⟨y4, hj, hf⟩ := zs_bind hf
      refine zs_then (α := Unit) (fun _ H locs ls => CC g A s.heap 7 [(a_T, .inr (2, [.ref a_T_numbers])), (a_T_numbers, .inl (gI g, 6, .inl v_T_numbers)), (a_P2, .inr (2, [.ref a_P2_numbers])), (a_P2_numbers, .inl (gI g, 6, .inl x2.2.2))] [(0, .ref a_T), (1, .int p1), (2, .ref a_P2), (3, .int o1), (4, .int x2.1), (5, .int x2.2.1)] H locs ls) (fun _ ls => F0 m 41 ls [.int y4]) (fun _ H locs ls hC => ?_) (fun X => ?_)
      · obtain ⟨hP, hD, hS, hl⟩ := hC
        refine lv_istore (pc := 41) (lv' := [(6, .int y4), (0, .ref a_T), (1, .int p1), (2, .ref a_P2), (3, .int o1), (4, .int x2.1), (5, .int x2.2.1)]) hX hB dX2_liarBits_41 hl (by decide) rfl (fun ls hl => ?_)
        refine lv_iload (pc := 43) hX hB dX2_liarBits_43 (lv_at hl 0 rfl) ?_
        refine lv_if_eq (pc := 45) (tgt := 89) hX hB dX2_liarBits_45 (by decide) (fun hq => ?_) (fun hq => ?_)
        · have hf := zs_ip hf hq
          refine lv_iinc (pc := 89) (v := x2.2.1 + (1 : Int32)) (lv' := [(5, .int (x2.2.1 + (1 : Int32))), (6, .int y4), (0, .ref a_T), (1, .int p1), (2, .ref a_P2), (3, .int o1), (4, .int x2.1)]) hX hB dX2_liarBits_89 hl (k := 6) rfl rfl (by decide) rfl (fun ls hl => ?_)
          refine lv_goto (pc := 92) (tgt := 11) hX hB dX2_liarBits_92 (by decide) ?_
          obtain rfl := Option.some.inj hf
          exact ih _ hr _ _ _ ⟨hP, hD, hS, lv_sub hl [2, 3, 4, 5, 6, 0] rfl⟩
        · have hf := zs_in hf hq
          refine lv_iload (pc := 48) hX hB dX2_liarBits_48 (lv_at hl 6 rfl) ?_
          refine lv_iload_n (pc := 50) hX hB dX2_liarBits_50 rfl (lv_at hl 4 rfl) ?_
          refine lv_iconst (pc := 51) (v := -1) hX hB dX2_liarBits_51 (by decide) ?_
          refine lv_ixor (pc := 52) hX hB dX2_liarBits_52 ?_
          refine lv_iand (pc := 53) hX hB dX2_liarBits_53 ?_
          refine lv_if_ne (pc := 54) (tgt := 89) hX hB dX2_liarBits_54 (by decide) (fun hq => ?_) (fun hq => ?_)
          · have hf := zs_in hf hq
            refine lv_iinc (pc := 89) (v := x2.2.1 + (1 : Int32)) (lv' := [(5, .int (x2.2.1 + (1 : Int32))), (6, .int y4), (0, .ref a_T), (1, .int p1), (2, .ref a_P2), (3, .int o1), (4, .int x2.1)]) hX hB dX2_liarBits_89 hl (k := 6) rfl rfl (by decide) rfl (fun ls hl => ?_)
            refine lv_goto (pc := 92) (tgt := 11) hX hB dX2_liarBits_92 (by decide) ?_
            obtain rfl := Option.some.inj hf
            exact ih _ hr _ _ _ ⟨hP, hD, hS, lv_sub hl [2, 3, 4, 5, 6, 0] rfl⟩
          · have hf := zs_ip hf hq
            refine lv_iload_n (pc := 57) hX hB dX2_liarBits_57 rfl (lv_at hl 4 rfl) ?_
            refine lv_iload (pc := 58) hX hB dX2_liarBits_58 (lv_at hl 6 rfl) ?_
            refine lv_iconst (pc := 60) (v := -1) hX hB dX2_liarBits_60 (by decide) ?_
            refine lv_ixor (pc := 61) hX hB dX2_liarBits_61 ?_
            refine lv_iand (pc := 62) hX hB dX2_liarBits_62 ?_
            obtain ⟨o5, hc, hf⟩ := zs_bind hf
            refine zs_S (pc := 63) (As := [.int (o1 &&& (x2.2.1 ^^^ (-1 : Int32)))]) (rest := []) (st1 := [.int o5]) (wc := []) (wr := [(a_T, .inr (2, [.ref a_T_numbers])), (a_T_numbers, .inl (gI g, 6, .inl v_T_numbers)), (a_P2, .inr (2, [.ref a_P2_numbers])), (a_P2_numbers, .inl (gI g, 6, .inl x2.2.2))]) (w1 := []) (w2 := [(a_T, .inr (2, [.ref a_T_numbers])), (a_T_numbers, .inl (gI g, 6, .inl v_T_numbers)), (a_P2, .inr (2, [.ref a_P2_numbers])), (a_P2_numbers, .inl (gI g, 6, .inl x2.2.2))]) (ov := some (.int o5)) lb_J6_bitCount_0f7a4 lk_X2_25 hX hB hM hO hT hE hP hD hS hA (c_J6_bitCount_0f7a4 l g _ (o1 &&& (x2.2.1 ^^^ (-1 : Int32))) o5 hc) ⟨rfl, rfl⟩ ⟨Nat.le_of_ble_eq_true rfl, Nat.le_of_ble_eq_true rfl⟩ [] [0, 1, 2, 3] [0, 1, 2, 3] rfl rfl rfl rfl (by decide) rfl rfl rfl rfl hl.1 (Nat.le_of_ble_eq_true rfl) ⟨Nat.zero_le _, Nat.zero_le _⟩ rfl dX2_liarBits_63 (fun H locs hP hD hS => ?_)
            refine lv_iload_n (pc := 66) hX hB dX2_liarBits_66 rfl (lv_at hl 2 rfl) ?_
            refine lv_icmp_le (pc := 67) (tgt := 89) hX hB dX2_liarBits_67 (by decide) (fun hq => ?_) (fun hq => ?_)
            · have hf := zs_ip hf hq
              refine lv_iinc (pc := 89) (v := x2.2.1 + (1 : Int32)) (lv' := [(5, .int (x2.2.1 + (1 : Int32))), (6, .int y4), (0, .ref a_T), (1, .int p1), (2, .ref a_P2), (3, .int o1), (4, .int x2.1)]) hX hB dX2_liarBits_89 hl (k := 6) rfl rfl (by decide) rfl (fun ls hl => ?_)
              refine lv_goto (pc := 92) (tgt := 11) hX hB dX2_liarBits_92 (by decide) ?_
              obtain rfl := Option.some.inj hf
              exact ih _ hr _ _ _ ⟨hP, hD, hS, lv_sub hl [2, 3, 4, 5, 6, 0] rfl⟩
            · have hf := zs_in hf hq
              refine lv_aload_n (pc := 70) hX hB dX2_liarBits_70 rfl (lv_at hl 3 rfl) ?_
              refine lv_aload_n (pc := 71) hX hB dX2_liarBits_71 rfl (lv_at hl 1 rfl) ?_
              refine lv_iload (pc := 72) hX hB dX2_liarBits_72 (lv_at hl 6 rfl) ?_
              obtain ⟨o6, hc, hf⟩ := zs_bind hf
              refine zs_V (q := (RX2, TX2, 1)) (ci := 2) (q0 := 2) (b := a_P2) (pc := 74) (As := [.ref a_T, .int x2.2.1]) (rest := []) (st1 := []) (wc := [(a_P2, .inr (2, [.ref a_P2_numbers])), (a_P2_numbers, .inl (gI g, 6, .inl x2.2.2)), (a_T, .inr (2, [.ref a_T_numbers])), (a_T_numbers, .inl (gI g, 6, .inl v_T_numbers))]) (wr := []) (w1 := [(a_P2, .inr (2, [.ref a_P2_numbers])), (a_P2_numbers, .inl (gI g, 6, .inl o6)), (a_T, .inr (2, [.ref a_T_numbers])), (a_T_numbers, .inl (gI g, 6, .inl v_T_numbers))]) (w2 := [(a_T, .inr (2, [.ref a_T_numbers])), (a_T_numbers, .inl (gI g, 6, .inl v_T_numbers)), (a_P2, .inr (2, [.ref a_P2_numbers])), (a_P2_numbers, .inl (gI g, 6, .inl o6))]) (ov := none) lb_X2_copyWithout lk_X2_45 hX hB hM hO hT hE hP hD hS hA (c_X2_copyWithout l g _ a_P2 a_P2_numbers a_T a_T_numbers x2.2.2 v_T_numbers x2.2.1 o6 hc) ⟨rfl, rfl⟩ ⟨Nat.le_of_ble_eq_true rfl, Nat.le_of_ble_eq_true rfl⟩ rfl rfl [2, 3, 0, 1] [] [2, 3, 0, 1] rfl rfl rfl rfl (by decide) rfl rfl rfl rfl hl.1 (Nat.le_of_ble_eq_true rfl) ⟨Nat.zero_le _, Nat.zero_le _⟩ rfl dX2_liarBits_74 (fun H locs hP hD hS => ?_)
              refine lv_aload_n (pc := 77) hX hB dX2_liarBits_77 rfl (lv_at hl 3 rfl) ?_
              refine lv_iload_n (pc := 78) hX hB dX2_liarBits_78 rfl (lv_at hl 2 rfl) ?_
              obtain ⟨o7, hc, hf⟩ := zs_bind hf
              refine zs_V (q := (RX2, TX2, 1)) (ci := 2) (q0 := 2) (b := a_P2) (pc := 79) (As := [.int p1]) (rest := []) (st1 := [.int o7]) (wc := [(a_P2, .inr (2, [.ref a_P2_numbers])), (a_P2_numbers, .inl (gI g, 6, .inl o6))]) (wr := [(a_T, .inr (2, [.ref a_T_numbers])), (a_T_numbers, .inl (gI g, 6, .inl v_T_numbers))]) (w1 := [(a_P2, .inr (2, [.ref a_P2_numbers])), (a_P2_numbers, .inl (gI g, 6, .inl o6))]) (w2 := [(a_T, .inr (2, [.ref a_T_numbers])), (a_T_numbers, .inl (gI g, 6, .inl v_T_numbers)), (a_P2, .inr (2, [.ref a_P2_numbers])), (a_P2_numbers, .inl (gI g, 6, .inl o6))]) (ov := some (.int o7)) lb_X2_agreesBy lk_X2_49 hX hB hM hO hT hE hP hD hS hA (c_X2_agreesBy l g _ a_P2 a_P2_numbers o6 p1 o7 hc) ⟨rfl, rfl⟩ ⟨Nat.le_of_ble_eq_true rfl, Nat.le_of_ble_eq_true rfl⟩ rfl rfl [2, 3] [0, 1] [0, 1, 2, 3] rfl rfl rfl rfl (by decide) rfl rfl rfl rfl hl.1 (Nat.le_of_ble_eq_true rfl) ⟨Nat.zero_le _, Nat.zero_le _⟩ rfl dX2_liarBits_79 (fun H locs hP hD hS => ?_)
              refine lv_if_eq (pc := 82) (tgt := 89) hX hB dX2_liarBits_82 (by decide) (fun hq => ?_) (fun hq => ?_)
              · have hf := zs_ip hf hq
                refine lv_iinc (pc := 89) (v := x2.2.1 + (1 : Int32)) (lv' := [(5, .int (x2.2.1 + (1 : Int32))), (6, .int y4), (0, .ref a_T), (1, .int p1), (2, .ref a_P2), (3, .int o1), (4, .int x2.1)]) hX hB dX2_liarBits_89 hl (k := 6) rfl rfl (by decide) rfl (fun ls hl => ?_)
                refine lv_goto (pc := 92) (tgt := 11) hX hB dX2_liarBits_92 (by decide) ?_
                obtain rfl := Option.some.inj hf
                exact ih _ hr _ _ _ ⟨hP, hD, hS, lv_sub hl [2, 3, 4, 5, 6, 0] rfl⟩
              · have hf := zs_in hf hq
                refine lv_iload (pc := 85) hX hB dX2_liarBits_85 (lv_at hl 6 rfl) ?_
                refine lv_istore (pc := 87) (lv' := [(4, .int x2.2.1), (6, .int y4), (0, .ref a_T), (1, .int p1), (2, .ref a_P2), (3, .int o1), (5, .int x2.2.1)]) hX hB dX2_liarBits_87 hl (by decide) rfl (fun ls hl => ?_)
                refine lv_iinc (pc := 89) (v := x2.2.1 + (1 : Int32)) (lv' := [(5, .int (x2.2.1 + (1 : Int32))), (4, .int x2.2.1), (6, .int y4), (0, .ref a_T), (1, .int p1), (2, .ref a_P2), (3, .int o1)]) hX hB dX2_liarBits_89 hl (k := 6) rfl rfl (by decide) rfl (fun ls hl => ?_)
                refine lv_goto (pc := 92) (tgt := 11) hX hB dX2_liarBits_92 (by decide) ?_
                obtain rfl := Option.some.inj hf
                exact ih _ hr _ _ _ ⟨hP, hD, hS, lv_sub hl [3, 4, 5, 6, 1, 0] rfl⟩
      · have hf := hj
        refine lv_icmp_eq (pc := 20) (tgt := 36) hX hB dX2_liarBits_20 (by decide) (fun hq => ?_) (fun hq => ?_)
        · have hf := zs_ip hf hq
          refine lv_iconst (pc := 36) (v := 1) hX hB dX2_liarBits_36 (by decide) ?_
          refine lv_goto (pc := 37) (tgt := 41) hX hB dX2_liarBits_37 (by decide) ?_
          obtain rfl := Option.some.inj hf
          exact X () _ _ _ ⟨hP, hD, hS, lv_sub hl [0, 1, 2, 3, 4, 5] rfl⟩
        · have hf := zs_in hf hq
          refine lv_iload (pc := 23) hX hB dX2_liarBits_23 (lv_at hl 5 rfl) ?_
          obtain ⟨o8, hc, hf⟩ := zs_bind hf
          refine zs_S (pc := 25) (As := [.int x2.2.1]) (rest := []) (st1 := [.int o8]) (wc := []) (wr := [(a_T, .inr (2, [.ref a_T_numbers])), (a_T_numbers, .inl (gI g, 6, .inl v_T_numbers)), (a_P2, .inr (2, [.ref a_P2_numbers])), (a_P2_numbers, .inl (gI g, 6, .inl x2.2.2))]) (w1 := []) (w2 := [(a_T, .inr (2, [.ref a_T_numbers])), (a_T_numbers, .inl (gI g, 6, .inl v_T_numbers)), (a_P2, .inr (2, [.ref a_P2_numbers])), (a_P2_numbers, .inl (gI g, 6, .inl x2.2.2))]) (ov := some (.int o8)) lb_J6_bitCount_0f7a4 lk_X2_25 hX hB hM hO hT hE hP hD hS hA (c_J6_bitCount_0f7a4 l g _ x2.2.1 o8 hc) ⟨rfl, rfl⟩ ⟨Nat.le_of_ble_eq_true rfl, Nat.le_of_ble_eq_true rfl⟩ [] [0, 1, 2, 3] [0, 1, 2, 3] rfl rfl rfl rfl (by decide) rfl rfl rfl rfl hl.1 (Nat.le_of_ble_eq_true rfl) ⟨Nat.zero_le _, Nat.zero_le _⟩ rfl dX2_liarBits_25 (fun H locs hP hD hS => ?_)
          refine lv_iload (pc := 28) hX hB dX2_liarBits_28 (lv_at hl 4 rfl) ?_
          obtain ⟨o9, hc, hf⟩ := zs_bind hf
          refine zs_S (pc := 30) (As := [.int x2.1]) (rest := [.int o8]) (st1 := [.int o9, .int o8]) (wc := []) (wr := [(a_T, .inr (2, [.ref a_T_numbers])), (a_T_numbers, .inl (gI g, 6, .inl v_T_numbers)), (a_P2, .inr (2, [.ref a_P2_numbers])), (a_P2_numbers, .inl (gI g, 6, .inl x2.2.2))]) (w1 := []) (w2 := [(a_T, .inr (2, [.ref a_T_numbers])), (a_T_numbers, .inl (gI g, 6, .inl v_T_numbers)), (a_P2, .inr (2, [.ref a_P2_numbers])), (a_P2_numbers, .inl (gI g, 6, .inl x2.2.2))]) (ov := some (.int o9)) lb_J6_bitCount_0f7a4 lk_X2_25 hX hB hM hO hT hE hP hD hS hA (c_J6_bitCount_0f7a4 l g _ x2.1 o9 hc) ⟨rfl, rfl⟩ ⟨Nat.le_of_ble_eq_true rfl, Nat.le_of_ble_eq_true rfl⟩ [] [0, 1, 2, 3] [0, 1, 2, 3] rfl rfl rfl rfl (by decide) rfl rfl rfl rfl hl.1 (Nat.le_of_ble_eq_true rfl) ⟨Nat.zero_le _, Nat.zero_le _⟩ rfl dX2_liarBits_30 (fun H locs hP hD hS => ?_)
          refine lv_icmp_ge (pc := 33) (tgt := 40) hX hB dX2_liarBits_33 (by decide) (fun hq => ?_) (fun hq => ?_)
          · have hf := zs_ip hf hq
            refine lv_iconst (pc := 40) (v := 0) hX hB dX2_liarBits_40 (by decide) ?_
            obtain rfl := Option.some.inj hf
            exact X () _ _ _ ⟨hP, hD, hS, lv_sub hl [0, 1, 2, 3, 4, 5] rfl⟩
          · have hf := zs_in hf hq
            refine lv_iconst (pc := 36) (v := 1) hX hB dX2_liarBits_36 (by decide) ?_
            refine lv_goto (pc := 37) (tgt := 41) hX hB dX2_liarBits_37 (by decide) ?_
            obtain rfl := Option.some.inj hf
            exact X () _ _ _ ⟨hP, hD, hS, lv_sub hl [0, 1, 2, 3, 4, 5] rfl⟩

def f_X2_size (v_T_numbers : Nat → Int32) : Option (Int32) :=
  (f_X2_bits v_T_numbers).bind (fun o1 => (f_J6_bitCount_0f7a4 o1).bind (fun o2 => some o2))
set_option maxHeartbeats 4000000 in
set_option maxRecDepth 100000 in
theorem c_X2_size (l : Launch) (g : GG) (sz : Nat) (a_T a_T_numbers : Nat) (v_T_numbers : Nat → Int32) (o : Int32) (hf : f_X2_size v_T_numbers = some o) : Met l yX2_size (Cond.code yX2_size cX2_size 1 (some .int) :: TB) { frames := 1, cells := 0, slots := 0, locals := 22 } (Pst g [(a_T, .inr (2, [.ref a_T_numbers])), (a_T_numbers, .inl (gI g, 6, .inl v_T_numbers))] [.ref a_T] sz) (Qst g [(a_T, .inr (2, [.ref a_T_numbers])), (a_T_numbers, .inl (gI g, 6, .inl v_T_numbers))] (some (.int o)) (va_A [(a_T, .inr (2, [.ref a_T_numbers])), (a_T_numbers, .inl (gI g, 6, .inl v_T_numbers))] sz)) 0 0 (va_A [(a_T, .inr (2, [.ref a_T_numbers])), (a_T_numbers, .inl (gI g, 6, .inl v_T_numbers))] sz) := by
  unfold f_X2_size at hf
  refine zs_met (own := RX2) (plainFor_of_name (by decide)) rfl (Nat.le_of_ble_eq_true rfl) ?_
  intro p e s m below meth c A ls hX hB hR hM hT hO hK hN hA hE hP hD hS hl
  have hl : lv_has ls 1 [(0, .ref a_T)] := hl
  refine lv_aload_n (pc := 0) hX hB dX2_size_0 rfl (lv_at hl 0 rfl) ?_
  obtain ⟨o1, hc, hf⟩ := zs_bind hf
  refine zs_V (q := (RX2, TX2, 1)) (ci := 2) (q0 := 0) (b := a_T) (pc := 1) (As := []) (rest := []) (st1 := [.int o1]) (wc := [(a_T, .inr (2, [.ref a_T_numbers])), (a_T_numbers, .inl (gI g, 6, .inl v_T_numbers))]) (wr := []) (w1 := [(a_T, .inr (2, [.ref a_T_numbers])), (a_T_numbers, .inl (gI g, 6, .inl v_T_numbers))]) (w2 := [(a_T, .inr (2, [.ref a_T_numbers])), (a_T_numbers, .inl (gI g, 6, .inl v_T_numbers))]) (ov := some (.int o1)) lb_X2_bits lk_X2_21 hX hB hM hO hT hE hP hD hS hA (c_X2_bits l g _ a_T a_T_numbers v_T_numbers o1 hc) ⟨rfl, rfl⟩ ⟨Nat.le_of_ble_eq_true rfl, Nat.le_of_ble_eq_true rfl⟩ rfl rfl [0, 1] [] [0, 1] rfl rfl rfl rfl (by decide) rfl rfl rfl rfl hl.1 (Nat.le_of_ble_eq_true rfl) ⟨Nat.zero_le _, Nat.zero_le _⟩ rfl dX2_size_1 (fun H locs hP hD hS => ?_)
  obtain ⟨o2, hc, hf⟩ := zs_bind hf
  refine zs_S (pc := 4) (As := [.int o1]) (rest := []) (st1 := [.int o2]) (wc := []) (wr := [(a_T, .inr (2, [.ref a_T_numbers])), (a_T_numbers, .inl (gI g, 6, .inl v_T_numbers))]) (w1 := []) (w2 := [(a_T, .inr (2, [.ref a_T_numbers])), (a_T_numbers, .inl (gI g, 6, .inl v_T_numbers))]) (ov := some (.int o2)) lb_J6_bitCount_0f7a4 lk_X2_25 hX hB hM hO hT hE hP hD hS hA (c_J6_bitCount_0f7a4 l g _ o1 o2 hc) ⟨rfl, rfl⟩ ⟨Nat.le_of_ble_eq_true rfl, Nat.le_of_ble_eq_true rfl⟩ [] [0, 1] [0, 1] rfl rfl rfl rfl (by decide) rfl rfl rfl rfl hl.1 (Nat.le_of_ble_eq_true rfl) ⟨Nat.zero_le _, Nat.zero_le _⟩ rfl dX2_size_4 (fun H locs hP hD hS => ?_)
  obtain rfl := Option.some.inj hf
  exact zs_iret (pc := 7) hX hB hR hK hP hD hS dX2_size_7
