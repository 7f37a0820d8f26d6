def f_X0_addHolder (v_T_holders : Int32) (v_T_kinds : Nat → Int32) (v_T_extras : Nat → Int32) (p1 : Int32) (p2 : Int32) : Option (Int32 × (Nat → Int32) × (Nat → Int32)) :=
  if v_T_holders < (0 : Int32) then (some (v_T_holders, v_T_kinds, v_T_extras)) else (if (6 : Int32) ≤ v_T_holders then (some (v_T_holders, v_T_kinds, v_T_extras)) else (gd (inb v_T_holders 6) (gd (inb v_T_holders 6) (some (v_T_holders + (1 : Int32), upd v_T_kinds v_T_holders.toNatClampNeg p1, upd v_T_extras v_T_holders.toNatClampNeg p2)))))
set_option maxHeartbeats 4000000 in
set_option maxRecDepth 100000 in
theorem c_X0_addHolder (l : Launch) (g : GG) (sz : Nat) (a_T a_T_factors a_T_told a_T_past a_T_kinds a_T_extras : Nat) (v_T_number : Int32) (v_T_enough : Int32) (v_T_holders : Int32) (v_T_day : Int32) (v_T_tries : Int32) (v_T_shut : Int32) (v_T_pastCount : Int32) (v_T_kinds : Nat → Int32) (v_T_extras : Nat → Int32) (p1 : Int32) (p2 : Int32) (o : Int32 × (Nat → Int32) × (Nat → Int32)) (hf : f_X0_addHolder v_T_holders v_T_kinds v_T_extras p1 p2 = some o) : Met l yX0_addHolder (Cond.code yX0_addHolder cX0_addHolder 3 none :: TB) { frames := 0, cells := 0, slots := 0, locals := 0 } (Pst g [(a_T, .inr (0, [.int v_T_number, .int v_T_enough, .int v_T_holders, .ref a_T_kinds, .ref a_T_extras, .ref a_T_factors, .int v_T_day, .int v_T_tries, .int v_T_shut, .ref a_T_told, .ref a_T_past, .int v_T_pastCount])), (a_T_kinds, .inl (gI g, 6, .inl v_T_kinds)), (a_T_extras, .inl (gI g, 6, .inl v_T_extras))] [.ref a_T, .int p1, .int p2] sz) (Qst g [(a_T, .inr (0, [.int v_T_number, .int v_T_enough, .int o.1, .ref a_T_kinds, .ref a_T_extras, .ref a_T_factors, .int v_T_day, .int v_T_tries, .int v_T_shut, .ref a_T_told, .ref a_T_past, .int v_T_pastCount])), (a_T_kinds, .inl (gI g, 6, .inl o.2.1)), (a_T_extras, .inl (gI g, 6, .inl o.2.2))] (none) (va_A [(a_T, .inr (0, [.int v_T_number, .int v_T_enough, .int v_T_holders, .ref a_T_kinds, .ref a_T_extras, .ref a_T_factors, .int v_T_day, .int v_T_tries, .int v_T_shut, .ref a_T_told, .ref a_T_past, .int v_T_pastCount])), (a_T_kinds, .inl (gI g, 6, .inl v_T_kinds)), (a_T_extras, .inl (gI g, 6, .inl v_T_extras))] sz)) 0 0 (va_A [(a_T, .inr (0, [.int v_T_number, .int v_T_enough, .int v_T_holders, .ref a_T_kinds, .ref a_T_extras, .ref a_T_factors, .int v_T_day, .int v_T_tries, .int v_T_shut, .ref a_T_told, .ref a_T_past, .int v_T_pastCount])), (a_T_kinds, .inl (gI g, 6, .inl v_T_kinds)), (a_T_extras, .inl (gI g, 6, .inl v_T_extras))] sz) := by
  unfold f_X0_addHolder at hf
  refine zs_met (own := RX0) (plainFor_of_name (by decide)) rfl (Nat.le_of_ble_eq_true rfl) ?_
  intro p e s m below meth c A ls hX hB hR hM hT hO hK hN hA hE hP hD hS hl
  have hl : lv_has ls 3 [(0, .ref a_T), (1, .int p1), (2, .int p2)] := hl
  refine lv_aload_n (pc := 0) hX hB dX0_addHolder_0 rfl (lv_at hl 0 rfl) ?_
  refine gf_X0_18 (pc := 1) (v := .int v_T_holders) hX hB hT hO hE hP 0 rfl rfl dX0_addHolder_1 ?_
  refine lv_if_lt (pc := 4) (tgt := 46) hX hB dX0_addHolder_4 (by decide) (fun hq => ?_) (fun hq => ?_)
  · have hf := zs_ip hf hq
    obtain rfl := Option.some.inj hf
    exact zs_vret (pc := 46) hX hB hR hK hP hD hS dX0_addHolder_46
  · have hf := zs_in hf hq
    refine lv_aload_n (pc := 7) hX hB dX0_addHolder_7 rfl (lv_at hl 0 rfl) ?_
    refine gf_X0_18 (pc := 8) (v := .int v_T_holders) hX hB hT hO hE hP 0 rfl rfl dX0_addHolder_8 ?_
    refine lv_bipush (pc := 11) (v := 6) hX hB dX0_addHolder_11 (by decide) ?_
    refine lv_icmp_ge (pc := 13) (tgt := 46) hX hB dX0_addHolder_13 (by decide) (fun hq => ?_) (fun hq => ?_)
    · have hf := zs_ip hf hq
      obtain rfl := Option.some.inj hf
      exact zs_vret (pc := 46) hX hB hR hK hP hD hS dX0_addHolder_46
    · have hf := zs_in hf hq
      refine lv_aload_n (pc := 16) hX hB dX0_addHolder_16 rfl (lv_at hl 0 rfl) ?_
      refine gf_X0_21 (pc := 17) (v := .ref a_T_kinds) hX hB hT hO hE hP 0 rfl rfl dX0_addHolder_17 ?_
      refine lv_aload_n (pc := 20) hX hB dX0_addHolder_20 rfl (lv_at hl 0 rfl) ?_
      refine gf_X0_18 (pc := 21) (v := .int v_T_holders) hX hB hT hO hE hP 0 rfl rfl dX0_addHolder_21 ?_
      refine lv_iload_n (pc := 24) hX hB dX0_addHolder_24 rfl (lv_at hl 1 rfl) ?_
      obtain ⟨hg, hf⟩ := zs_gd hf
      refine zs_iast (pc := 25) (w2 := [(a_T, .inr (0, [.int v_T_number, .int v_T_enough, .int v_T_holders, .ref a_T_kinds, .ref a_T_extras, .ref a_T_factors, .int v_T_day, .int v_T_tries, .int v_T_shut, .ref a_T_told, .ref a_T_past, .int v_T_pastCount])), (a_T_kinds, .inl (gI g, 6, .inl (upd v_T_kinds v_T_holders.toNatClampNeg p1))), (a_T_extras, .inl (gI g, 6, .inl v_T_extras))]) hX hB hE hP hD hS 1 rfl (zs_inb hg) rfl dX0_addHolder_25 (fun H locs hP hD hS => ?_)
      refine lv_aload_n (pc := 26) hX hB dX0_addHolder_26 rfl (lv_at hl 0 rfl) ?_
      refine gf_X0_25 (pc := 27) (v := .ref a_T_extras) hX hB hT hO hE hP 0 rfl rfl dX0_addHolder_27 ?_
      refine lv_aload_n (pc := 30) hX hB dX0_addHolder_30 rfl (lv_at hl 0 rfl) ?_
      refine gf_X0_18 (pc := 31) (v := .int v_T_holders) hX hB hT hO hE hP 0 rfl rfl dX0_addHolder_31 ?_
      refine lv_iload_n (pc := 34) hX hB dX0_addHolder_34 rfl (lv_at hl 2 rfl) ?_
      obtain ⟨hg, hf⟩ := zs_gd hf
      refine zs_iast (pc := 35) (w2 := [(a_T, .inr (0, [.int v_T_number, .int v_T_enough, .int v_T_holders, .ref a_T_kinds, .ref a_T_extras, .ref a_T_factors, .int v_T_day, .int v_T_tries, .int v_T_shut, .ref a_T_told, .ref a_T_past, .int v_T_pastCount])), (a_T_kinds, .inl (gI g, 6, .inl (upd v_T_kinds v_T_holders.toNatClampNeg p1))), (a_T_extras, .inl (gI g, 6, .inl (upd v_T_extras v_T_holders.toNatClampNeg p2)))]) hX hB hE hP hD hS 2 rfl (zs_inb hg) rfl dX0_addHolder_35 (fun H locs hP hD hS => ?_)
      refine lv_aload_n (pc := 36) hX hB dX0_addHolder_36 rfl (lv_at hl 0 rfl) ?_
      refine lv_dup (pc := 37) hX hB dX0_addHolder_37 rfl ?_
      refine gf_X0_18 (pc := 38) (v := .int v_T_holders) hX hB hT hO hE hP 0 rfl rfl dX0_addHolder_38 ?_
      refine lv_iconst (pc := 41) (v := 1) hX hB dX0_addHolder_41 (by decide) ?_
      refine lv_iadd (pc := 42) hX hB dX0_addHolder_42 ?_
      refine pf_X0_18 (pc := 43) (x := v_T_holders + (1 : Int32)) (w2 := [(a_T, .inr (0, [.int v_T_number, .int v_T_enough, .int (v_T_holders + (1 : Int32)), .ref a_T_kinds, .ref a_T_extras, .ref a_T_factors, .int v_T_day, .int v_T_tries, .int v_T_shut, .ref a_T_told, .ref a_T_past, .int v_T_pastCount])), (a_T_kinds, .inl (gI g, 6, .inl (upd v_T_kinds v_T_holders.toNatClampNeg p1))), (a_T_extras, .inl (gI g, 6, .inl (upd v_T_extras v_T_holders.toNatClampNeg p2)))]) hX hB hT hO hE hP hD hS 0 rfl (Nat.le_of_ble_eq_true rfl) rfl dX0_addHolder_43 (fun H locs hP hD hS => ?_)
      obtain rfl := Option.some.inj hf
      exact zs_vret (pc := 46) hX hB hR hK hP hD hS dX0_addHolder_46

def f_X0_begin (v_T_number : Int32) (v_T_enough : Int32) (v_T_holders : Int32) (v_T_day : Int32) (v_T_tries : Int32) (v_T_shut : Int32) (v_T_pastCount : Int32) (v_T_factors : Nat → Int32) (v_T_told_numbers : Nat → Int32) (p1 : Int32) (p2 : Int32) : Option (Int32 × Int32 × Int32 × Int32 × Int32 × Int32 × Int32 × (Nat → Int32) × (Nat → Int32)) :=
  (f_J7_fill_53178 3 v_T_factors (0 : Int32)).bind (fun o1 => (f_X2_empty v_T_told_numbers).bind (fun o2 => some (p1, p2, (0 : Int32), (0 : Int32), (0 : Int32), (0 : Int32), (0 : Int32), o1, o2)))
set_option maxHeartbeats 4000000 in
set_option maxRecDepth 100000 in
theorem c_X0_begin (l : Launch) (g : GG) (sz : Nat) (a_T a_T_kinds a_T_extras a_T_past a_T_factors a_T_told a_T_told_numbers : Nat) (v_T_number : Int32) (v_T_enough : Int32) (v_T_holders : Int32) (v_T_day : Int32) (v_T_tries : Int32) (v_T_shut : Int32) (v_T_pastCount : Int32) (v_T_factors : Nat → Int32) (v_T_told_numbers : Nat → Int32) (p1 : Int32) (p2 : Int32) (o : Int32 × Int32 × Int32 × Int32 × Int32 × Int32 × Int32 × (Nat → Int32) × (Nat → Int32)) (hf : f_X0_begin v_T_number v_T_enough v_T_holders v_T_day v_T_tries v_T_shut v_T_pastCount v_T_factors v_T_told_numbers p1 p2 = some o) : Met l yX0_begin (Cond.code yX0_begin cX0_begin 3 none :: TB) { frames := 2, cells := 0, slots := 0, locals := 43 } (Pst g [(a_T, .inr (0, [.int v_T_number, .int v_T_enough, .int v_T_holders, .ref a_T_kinds, .ref a_T_extras, .ref a_T_factors, .int v_T_day, .int v_T_tries, .int v_T_shut, .ref a_T_told, .ref a_T_past, .int v_T_pastCount])), (a_T_factors, .inl (gI g, 3, .inl v_T_factors)), (a_T_told, .inr (2, [.ref a_T_told_numbers])), (a_T_told_numbers, .inl (gI g, 6, .inl v_T_told_numbers))] [.ref a_T, .int p1, .int p2] sz) (Qst g [(a_T, .inr (0, [.int o.1, .int o.2.1, .int o.2.2.1, .ref a_T_kinds, .ref a_T_extras, .ref a_T_factors, .int o.2.2.2.1, .int o.2.2.2.2.1, .int o.2.2.2.2.2.1, .ref a_T_told, .ref a_T_past, .int o.2.2.2.2.2.2.1])), (a_T_factors, .inl (gI g, 3, .inl o.2.2.2.2.2.2.2.1)), (a_T_told, .inr (2, [.ref a_T_told_numbers])), (a_T_told_numbers, .inl (gI g, 6, .inl o.2.2.2.2.2.2.2.2))] (none) (va_A [(a_T, .inr (0, [.int v_T_number, .int v_T_enough, .int v_T_holders, .ref a_T_kinds, .ref a_T_extras, .ref a_T_factors, .int v_T_day, .int v_T_tries, .int v_T_shut, .ref a_T_told, .ref a_T_past, .int v_T_pastCount])), (a_T_factors, .inl (gI g, 3, .inl v_T_factors)), (a_T_told, .inr (2, [.ref a_T_told_numbers])), (a_T_told_numbers, .inl (gI g, 6, .inl v_T_told_numbers))] sz)) 0 0 (va_A [(a_T, .inr (0, [.int v_T_number, .int v_T_enough, .int v_T_holders, .ref a_T_kinds, .ref a_T_extras, .ref a_T_factors, .int v_T_day, .int v_T_tries, .int v_T_shut, .ref a_T_told, .ref a_T_past, .int v_T_pastCount])), (a_T_factors, .inl (gI g, 3, .inl v_T_factors)), (a_T_told, .inr (2, [.ref a_T_told_numbers])), (a_T_told_numbers, .inl (gI g, 6, .inl v_T_told_numbers))] sz) := by
  unfold f_X0_begin at hf
  refine zs_met (own := RX0) (plainFor_of_name (by decide)) rfl (Nat.le_of_ble_eq_true rfl) ?_
  intro p e s m below meth c A ls hX hB hR hM hT hO hK hN hA hE hP hD hS hl
  have hl : lv_has ls 3 [(0, .ref a_T), (1, .int p1), (2, .int p2)] := hl
  refine lv_aload_n (pc := 0) hX hB dX0_begin_0 rfl (lv_at hl 0 rfl) ?_
  refine lv_iload_n (pc := 1) hX hB dX0_begin_1 rfl (lv_at hl 1 rfl) ?_
  refine pf_X0_9 (pc := 2) (x := p1) (w2 := [(a_T, .inr (0, [.int p1, .int v_T_enough, .int v_T_holders, .ref a_T_kinds, .ref a_T_extras, .ref a_T_factors, .int v_T_day, .int v_T_tries, .int v_T_shut, .ref a_T_told, .ref a_T_past, .int v_T_pastCount])), (a_T_factors, .inl (gI g, 3, .inl v_T_factors)), (a_T_told, .inr (2, [.ref a_T_told_numbers])), (a_T_told_numbers, .inl (gI g, 6, .inl v_T_told_numbers))]) hX hB hT hO hE hP hD hS 0 rfl (Nat.le_of_ble_eq_true rfl) rfl dX0_begin_2 (fun H locs hP hD hS => ?_)
  refine lv_aload_n (pc := 5) hX hB dX0_begin_5 rfl (lv_at hl 0 rfl) ?_
  refine lv_iload_n (pc := 6) hX hB dX0_begin_6 rfl (lv_at hl 2 rfl) ?_
  refine pf_X0_15 (pc := 7) (x := p2) (w2 := [(a_T, .inr (0, [.int p1, .int p2, .int v_T_holders, .ref a_T_kinds, .ref a_T_extras, .ref a_T_factors, .int v_T_day, .int v_T_tries, .int v_T_shut, .ref a_T_told, .ref a_T_past, .int v_T_pastCount])), (a_T_factors, .inl (gI g, 3, .inl v_T_factors)), (a_T_told, .inr (2, [.ref a_T_told_numbers])), (a_T_told_numbers, .inl (gI g, 6, .inl v_T_told_numbers))]) hX hB hT hO hE hP hD hS 0 rfl (Nat.le_of_ble_eq_true rfl) rfl dX0_begin_7 (fun H locs hP hD hS => ?_)
  refine lv_aload_n (pc := 10) hX hB dX0_begin_10 rfl (lv_at hl 0 rfl) ?_
  refine lv_iconst (pc := 11) (v := 0) hX hB dX0_begin_11 (by decide) ?_
  refine pf_X0_18 (pc := 12) (x := (0 : Int32)) (w2 := [(a_T, .inr (0, [.int p1, .int p2, .int (0 : Int32), .ref a_T_kinds, .ref a_T_extras, .ref a_T_factors, .int v_T_day, .int v_T_tries, .int v_T_shut, .ref a_T_told, .ref a_T_past, .int v_T_pastCount])), (a_T_factors, .inl (gI g, 3, .inl v_T_factors)), (a_T_told, .inr (2, [.ref a_T_told_numbers])), (a_T_told_numbers, .inl (gI g, 6, .inl v_T_told_numbers))]) hX hB hT hO hE hP hD hS 0 rfl (Nat.le_of_ble_eq_true rfl) rfl dX0_begin_12 (fun H locs hP hD hS => ?_)
  refine lv_aload_n (pc := 15) hX hB dX0_begin_15 rfl (lv_at hl 0 rfl) ?_
  refine gf_X0_28 (pc := 16) (v := .ref a_T_factors) hX hB hT hO hE hP 0 rfl rfl dX0_begin_16 ?_
  refine lv_iconst (pc := 19) (v := 0) hX hB dX0_begin_19 (by decide) ?_
  obtain ⟨o1, hc, hf⟩ := zs_bind hf
  refine zs_S (pc := 20) (As := [.ref a_T_factors, .int (0 : Int32)]) (rest := []) (st1 := []) (wc := [(a_T_factors, .inl (gI g, 3, .inl v_T_factors))]) (wr := [(a_T, .inr (0, [.int p1, .int p2, .int (0 : Int32), .ref a_T_kinds, .ref a_T_extras, .ref a_T_factors, .int v_T_day, .int v_T_tries, .int v_T_shut, .ref a_T_told, .ref a_T_past, .int v_T_pastCount])), (a_T_told, .inr (2, [.ref a_T_told_numbers])), (a_T_told_numbers, .inl (gI g, 6, .inl v_T_told_numbers))]) (w1 := [(a_T_factors, .inl (gI g, 3, .inl o1))]) (w2 := [(a_T, .inr (0, [.int p1, .int p2, .int (0 : Int32), .ref a_T_kinds, .ref a_T_extras, .ref a_T_factors, .int v_T_day, .int v_T_tries, .int v_T_shut, .ref a_T_told, .ref a_T_past, .int v_T_pastCount])), (a_T_factors, .inl (gI g, 3, .inl o1)), (a_T_told, .inr (2, [.ref a_T_told_numbers])), (a_T_told_numbers, .inl (gI g, 6, .inl v_T_told_numbers))]) (ov := none) lb_J7_fill_53178 lk_X0_54 hX hB hM hO hT hE hP hD hS hA (c_J7_fill_53178 l g _ a_T_factors 3 v_T_factors (0 : Int32) o1 hc) ⟨rfl, rfl⟩ ⟨Nat.le_of_ble_eq_true rfl, Nat.le_of_ble_eq_true rfl⟩ [1] [0, 2, 3] [0, 3, 1, 2] rfl rfl rfl rfl (by decide) rfl rfl rfl rfl hl.1 (Nat.le_of_ble_eq_true rfl) ⟨Nat.zero_le _, Nat.zero_le _⟩ rfl dX0_begin_20 (fun H locs hP hD hS => ?_)
  refine lv_aload_n (pc := 23) hX hB dX0_begin_23 rfl (lv_at hl 0 rfl) ?_
  refine lv_iconst (pc := 24) (v := 0) hX hB dX0_begin_24 (by decide) ?_
  refine pf_X0_31 (pc := 25) (x := (0 : Int32)) (w2 := [(a_T, .inr (0, [.int p1, .int p2, .int (0 : Int32), .ref a_T_kinds, .ref a_T_extras, .ref a_T_factors, .int (0 : Int32), .int v_T_tries, .int v_T_shut, .ref a_T_told, .ref a_T_past, .int v_T_pastCount])), (a_T_factors, .inl (gI g, 3, .inl o1)), (a_T_told, .inr (2, [.ref a_T_told_numbers])), (a_T_told_numbers, .inl (gI g, 6, .inl v_T_told_numbers))]) hX hB hT hO hE hP hD hS 0 rfl (Nat.le_of_ble_eq_true rfl) rfl dX0_begin_25 (fun H locs hP hD hS => ?_)
  refine lv_aload_n (pc := 28) hX hB dX0_begin_28 rfl (lv_at hl 0 rfl) ?_
  refine lv_iconst (pc := 29) (v := 0) hX hB dX0_begin_29 (by decide) ?_
  refine pf_X0_34 (pc := 30) (x := (0 : Int32)) (w2 := [(a_T, .inr (0, [.int p1, .int p2, .int (0 : Int32), .ref a_T_kinds, .ref a_T_extras, .ref a_T_factors, .int (0 : Int32), .int (0 : Int32), .int v_T_shut, .ref a_T_told, .ref a_T_past, .int v_T_pastCount])), (a_T_factors, .inl (gI g, 3, .inl o1)), (a_T_told, .inr (2, [.ref a_T_told_numbers])), (a_T_told_numbers, .inl (gI g, 6, .inl v_T_told_numbers))]) hX hB hT hO hE hP hD hS 0 rfl (Nat.le_of_ble_eq_true rfl) rfl dX0_begin_30 (fun H locs hP hD hS => ?_)
  refine lv_aload_n (pc := 33) hX hB dX0_begin_33 rfl (lv_at hl 0 rfl) ?_
  refine lv_iconst (pc := 34) (v := 0) hX hB dX0_begin_34 (by decide) ?_
  refine pf_X0_37 (pc := 35) (x := (0 : Int32)) (w2 := [(a_T, .inr (0, [.int p1, .int p2, .int (0 : Int32), .ref a_T_kinds, .ref a_T_extras, .ref a_T_factors, .int (0 : Int32), .int (0 : Int32), .int (0 : Int32), .ref a_T_told, .ref a_T_past, .int v_T_pastCount])), (a_T_factors, .inl (gI g, 3, .inl o1)), (a_T_told, .inr (2, [.ref a_T_told_numbers])), (a_T_told_numbers, .inl (gI g, 6, .inl v_T_told_numbers))]) hX hB hT hO hE hP hD hS 0 rfl (Nat.le_of_ble_eq_true rfl) rfl rfl dX0_begin_35 (fun H locs hP hD hS => ?_)
  refine lv_aload_n (pc := 38) hX hB dX0_begin_38 rfl (lv_at hl 0 rfl) ?_
  refine gf_X0_44 (pc := 39) (v := .ref a_T_told) hX hB hT hO hE hP 0 rfl rfl dX0_begin_39 ?_
  obtain ⟨o2, hc, hf⟩ := zs_bind hf
  refine zs_V (q := (RX2, TX2, 1)) (ci := 2) (q0 := 2) (b := a_T_told) (pc := 42) (As := []) (rest := []) (st1 := []) (wc := [(a_T_told, .inr (2, [.ref a_T_told_numbers])), (a_T_told_numbers, .inl (gI g, 6, .inl v_T_told_numbers))]) (wr := [(a_T, .inr (0, [.int p1, .int p2, .int (0 : Int32), .ref a_T_kinds, .ref a_T_extras, .ref a_T_factors, .int (0 : Int32), .int (0 : Int32), .int (0 : Int32), .ref a_T_told, .ref a_T_past, .int v_T_pastCount])), (a_T_factors, .inl (gI g, 3, .inl o1))]) (w1 := [(a_T_told, .inr (2, [.ref a_T_told_numbers])), (a_T_told_numbers, .inl (gI g, 6, .inl o2))]) (w2 := [(a_T, .inr (0, [.int p1, .int p2, .int (0 : Int32), .ref a_T_kinds, .ref a_T_extras, .ref a_T_factors, .int (0 : Int32), .int (0 : Int32), .int (0 : Int32), .ref a_T_told, .ref a_T_past, .int v_T_pastCount])), (a_T_factors, .inl (gI g, 3, .inl o1)), (a_T_told, .inr (2, [.ref a_T_told_numbers])), (a_T_told_numbers, .inl (gI g, 6, .inl o2))]) (ov := none) lb_X2_empty lk_X0_60 hX hB hM hO hT hE hP hD hS hA (c_X2_empty l g _ a_T_told a_T_told_numbers v_T_told_numbers o2 hc) ⟨rfl, rfl⟩ ⟨Nat.le_of_ble_eq_true rfl, Nat.le_of_ble_eq_true rfl⟩ rfl rfl [2, 3] [0, 1] [0, 1, 2, 3] rfl rfl rfl rfl (by decide) rfl rfl rfl rfl hl.1 (Nat.le_of_ble_eq_true rfl) ⟨Nat.zero_le _, Nat.zero_le _⟩ rfl dX0_begin_42 (fun H locs hP hD hS => ?_)
  refine lv_aload_n (pc := 45) hX hB dX0_begin_45 rfl (lv_at hl 0 rfl) ?_
  refine lv_iconst (pc := 46) (v := 0) hX hB dX0_begin_46 (by decide) ?_
  refine pf_X0_51 (pc := 47) (x := (0 : Int32)) (w2 := [(a_T, .inr (0, [.int p1, .int p2, .int (0 : Int32), .ref a_T_kinds, .ref a_T_extras, .ref a_T_factors, .int (0 : Int32), .int (0 : Int32), .int (0 : Int32), .ref a_T_told, .ref a_T_past, .int (0 : Int32)])), (a_T_factors, .inl (gI g, 3, .inl o1)), (a_T_told, .inr (2, [.ref a_T_told_numbers])), (a_T_told_numbers, .inl (gI g, 6, .inl o2))]) hX hB hT hO hE hP hD hS 0 rfl (Nat.le_of_ble_eq_true rfl) rfl dX0_begin_47 (fun H locs hP hD hS => ?_)
  obtain rfl := Option.some.inj hf
  exact zs_vret (pc := 50) hX hB hR hK hP hD hS dX0_begin_50

def f_X0_factor (v_T_factors : Nat → Int32) (p1 : Int32) : Option (Int32) :=
  if p1 < (1 : Int32) then (some (0 : Int32)) else (if (3 : Int32) < p1 then (some (0 : Int32)) else (gd (inb (p1 - (1 : Int32)) 3) (some (v_T_factors (p1 - (1 : Int32)).toNatClampNeg))))
set_option maxHeartbeats 4000000 in
set_option maxRecDepth 100000 in
theorem c_X0_factor (l : Launch) (g : GG) (sz : Nat) (a_T a_T_kinds a_T_extras a_T_told a_T_past a_T_factors : Nat) (v_T_number : Int32) (v_T_enough : Int32) (v_T_holders : Int32) (v_T_day : Int32) (v_T_tries : Int32) (v_T_shut : Int32) (v_T_pastCount : Int32) (v_T_factors : Nat → Int32) (p1 : Int32) (o : Int32) (hf : f_X0_factor v_T_factors p1 = some o) : Met l yX0_factor (Cond.code yX0_factor cX0_factor 2 (some .int) :: TB) { frames := 0, cells := 0, slots := 0, locals := 0 } (Pst g [(a_T, .inr (0, [.int v_T_number, .int v_T_enough, .int v_T_holders, .ref a_T_kinds, .ref a_T_extras, .ref a_T_factors, .int v_T_day, .int v_T_tries, .int v_T_shut, .ref a_T_told, .ref a_T_past, .int v_T_pastCount])), (a_T_factors, .inl (gI g, 3, .inl v_T_factors))] [.ref a_T, .int p1] sz) (Qst g [(a_T, .inr (0, [.int v_T_number, .int v_T_enough, .int v_T_holders, .ref a_T_kinds, .ref a_T_extras, .ref a_T_factors, .int v_T_day, .int v_T_tries, .int v_T_shut, .ref a_T_told, .ref a_T_past, .int v_T_pastCount])), (a_T_factors, .inl (gI g, 3, .inl v_T_factors))] (some (.int o)) (va_A [(a_T, .inr (0, [.int v_T_number, .int v_T_enough, .int v_T_holders, .ref a_T_kinds, .ref a_T_extras, .ref a_T_factors, .int v_T_day, .int v_T_tries, .int v_T_shut, .ref a_T_told, .ref a_T_past, .int v_T_pastCount])), (a_T_factors, .inl (gI g, 3, .inl v_T_factors))] sz)) 0 0 (va_A [(a_T, .inr (0, [.int v_T_number, .int v_T_enough, .int v_T_holders, .ref a_T_kinds, .ref a_T_extras, .ref a_T_factors, .int v_T_day, .int v_T_tries, .int v_T_shut, .ref a_T_told, .ref a_T_past, .int v_T_pastCount])), (a_T_factors, .inl (gI g, 3, .inl v_T_factors))] sz) := by
  unfold f_X0_factor at hf
  refine zs_met (own := RX0) (plainFor_of_name (by decide)) rfl (Nat.le_of_ble_eq_true rfl) ?_
  intro p e s m below meth c A ls hX hB hR hM hT hO hK hN hA hE hP hD hS hl
  have hl : lv_has ls 2 [(0, .ref a_T), (1, .int p1)] := hl
  refine lv_iload_n (pc := 0) hX hB dX0_factor_0 rfl (lv_at hl 1 rfl) ?_
  refine lv_iconst (pc := 1) (v := 1) hX hB dX0_factor_1 (by decide) ?_
  refine lv_icmp_lt (pc := 2) (tgt := 25) hX hB dX0_factor_2 (by decide) (fun hq => ?_) (fun hq => ?_)
  · have hf := zs_ip hf hq
    refine lv_iconst (pc := 25) (v := 0) hX hB dX0_factor_25 (by decide) ?_
    obtain rfl := Option.some.inj hf
    exact zs_iret (pc := 26) hX hB hR hK hP hD hS dX0_factor_26
  · have hf := zs_in hf hq
    refine lv_iload_n (pc := 5) hX hB dX0_factor_5 rfl (lv_at hl 1 rfl) ?_
    refine lv_aload_n (pc := 6) hX hB dX0_factor_6 rfl (lv_at hl 0 rfl) ?_
    refine gf_X0_28 (pc := 7) (v := .ref a_T_factors) hX hB hT hO hE hP 0 rfl rfl dX0_factor_7 ?_
    refine va_alen (pc := 10) hX hB hE.1 hP 1 0 rfl rfl (v := (3 : Int32)) rfl dX0_factor_10 ?_
    refine lv_icmp_gt (pc := 11) (tgt := 25) hX hB dX0_factor_11 (by decide) (fun hq => ?_) (fun hq => ?_)
    · have hf := zs_ip hf hq
      refine lv_iconst (pc := 25) (v := 0) hX hB dX0_factor_25 (by decide) ?_
      obtain rfl := Option.some.inj hf
      exact zs_iret (pc := 26) hX hB hR hK hP hD hS dX0_factor_26
    · have hf := zs_in hf hq
      refine lv_aload_n (pc := 14) hX hB dX0_factor_14 rfl (lv_at hl 0 rfl) ?_
      refine gf_X0_28 (pc := 15) (v := .ref a_T_factors) hX hB hT hO hE hP 0 rfl rfl dX0_factor_15 ?_
      refine lv_iload_n (pc := 18) hX hB dX0_factor_18 rfl (lv_at hl 1 rfl) ?_
      refine lv_iconst (pc := 19) (v := 1) hX hB dX0_factor_19 (by decide) ?_
      refine lv_isub (pc := 20) hX hB dX0_factor_20 ?_
      obtain ⟨hg, hf⟩ := zs_gd hf
      refine va_iald (pc := 21) hX hB hE.1 hP 1 0 rfl rfl (zs_inb hg) dX0_factor_21 ?_
      refine lv_goto (pc := 22) (tgt := 26) hX hB dX0_factor_22 (by decide) ?_
      obtain rfl := Option.some.inj hf
      exact zs_iret (pc := 26) hX hB hR hK hP hD hS dX0_factor_26

def f_X0_putFactor (v_T_factors : Nat → Int32) (p1 : Int32) (p2 : Int32) : Option ((Nat → Int32)) :=
  if p1 < (1 : Int32) then (some v_T_factors) else (if (3 : Int32) < p1 then (some v_T_factors) else (gd (inb (p1 - (1 : Int32)) 3) (some (upd v_T_factors (p1 - (1 : Int32)).toNatClampNeg p2))))
set_option maxHeartbeats 4000000 in
set_option maxRecDepth 100000 in
theorem c_X0_putFactor (l : Launch) (g : GG) (sz : Nat) (a_T a_T_kinds a_T_extras a_T_told a_T_past a_T_factors : Nat) (v_T_number : Int32) (v_T_enough : Int32) (v_T_holders : Int32) (v_T_day : Int32) (v_T_tries : Int32) (v_T_shut : Int32) (v_T_pastCount : Int32) (v_T_factors : Nat → Int32) (p1 : Int32) (p2 : Int32) (o : (Nat → Int32)) (hf : f_X0_putFactor v_T_factors p1 p2 = some o) : Met l yX0_putFactor (Cond.code yX0_putFactor cX0_putFactor 3 none :: TB) { frames := 0, cells := 0, slots := 0, locals := 0 } (Pst g [(a_T, .inr (0, [.int v_T_number, .int v_T_enough, .int v_T_holders, .ref a_T_kinds, .ref a_T_extras, .ref a_T_factors, .int v_T_day, .int v_T_tries, .int v_T_shut, .ref a_T_told, .ref a_T_past, .int v_T_pastCount])), (a_T_factors, .inl (gI g, 3, .inl v_T_factors))] [.ref a_T, .int p1, .int p2] sz) (Qst g [(a_T, .inr (0, [.int v_T_number, .int v_T_enough, .int v_T_holders, .ref a_T_kinds, .ref a_T_extras, .ref a_T_factors, .int v_T_day, .int v_T_tries, .int v_T_shut, .ref a_T_told, .ref a_T_past, .int v_T_pastCount])), (a_T_factors, .inl (gI g, 3, .inl o))] (none) (va_A [(a_T, .inr (0, [.int v_T_number, .int v_T_enough, .int v_T_holders, .ref a_T_kinds, .ref a_T_extras, .ref a_T_factors, .int v_T_day, .int v_T_tries, .int v_T_shut, .ref a_T_told, .ref a_T_past, .int v_T_pastCount])), (a_T_factors, .inl (gI g, 3, .inl v_T_factors))] sz)) 0 0 (va_A [(a_T, .inr (0, [.int v_T_number, .int v_T_enough, .int v_T_holders, .ref a_T_kinds, .ref a_T_extras, .ref a_T_factors, .int v_T_day, .int v_T_tries, .int v_T_shut, .ref a_T_told, .ref a_T_past, .int v_T_pastCount])), (a_T_factors, .inl (gI g, 3, .inl v_T_factors))] sz) := by
  unfold f_X0_putFactor at hf
  refine zs_met (own := RX0) (plainFor_of_name (by decide)) rfl (Nat.le_of_ble_eq_true rfl) ?_
  intro p e s m below meth c A ls hX hB hR hM hT hO hK hN hA hE hP hD hS hl
  have hl : lv_has ls 3 [(0, .ref a_T), (1, .int p1), (2, .int p2)] := hl
  refine lv_iload_n (pc := 0) hX hB dX0_putFactor_0 rfl (lv_at hl 1 rfl) ?_
  refine lv_iconst (pc := 1) (v := 1) hX hB dX0_putFactor_1 (by decide) ?_
  refine lv_icmp_lt (pc := 2) (tgt := 23) hX hB dX0_putFactor_2 (by decide) (fun hq => ?_) (fun hq => ?_)
  · have hf := zs_ip hf hq
    obtain rfl := Option.some.inj hf
    exact zs_vret (pc := 23) hX hB hR hK hP hD hS dX0_putFactor_23
  · have hf := zs_in hf hq
    refine lv_iload_n (pc := 5) hX hB dX0_putFactor_5 rfl (lv_at hl 1 rfl) ?_
    refine lv_aload_n (pc := 6) hX hB dX0_putFactor_6 rfl (lv_at hl 0 rfl) ?_
    refine gf_X0_28 (pc := 7) (v := .ref a_T_factors) hX hB hT hO hE hP 0 rfl rfl dX0_putFactor_7 ?_
    refine va_alen (pc := 10) hX hB hE.1 hP 1 0 rfl rfl (v := (3 : Int32)) rfl dX0_putFactor_10 ?_
    refine lv_icmp_gt (pc := 11) (tgt := 23) hX hB dX0_putFactor_11 (by decide) (fun hq => ?_) (fun hq => ?_)
    · have hf := zs_ip hf hq
      obtain rfl := Option.some.inj hf
      exact zs_vret (pc := 23) hX hB hR hK hP hD hS dX0_putFactor_23
    · have hf := zs_in hf hq
      refine lv_aload_n (pc := 14) hX hB dX0_putFactor_14 rfl (lv_at hl 0 rfl) ?_
      refine gf_X0_28 (pc := 15) (v := .ref a_T_factors) hX hB hT hO hE hP 0 rfl rfl dX0_putFactor_15 ?_
      refine lv_iload_n (pc := 18) hX hB dX0_putFactor_18 rfl (lv_at hl 1 rfl) ?_
      refine lv_iconst (pc := 19) (v := 1) hX hB dX0_putFactor_19 (by decide) ?_
      refine lv_isub (pc := 20) hX hB dX0_putFactor_20 ?_
      refine lv_iload_n (pc := 21) hX hB dX0_putFactor_21 rfl (lv_at hl 2 rfl) ?_
      obtain ⟨hg, hf⟩ := zs_gd hf
      refine zs_iast (pc := 22) (w2 := [(a_T, .inr (0, [.int v_T_number, .int v_T_enough, .int v_T_holders, .ref a_T_kinds, .ref a_T_extras, .ref a_T_factors, .int v_T_day, .int v_T_tries, .int v_T_shut, .ref a_T_told, .ref a_T_past, .int v_T_pastCount])), (a_T_factors, .inl (gI g, 3, .inl (upd v_T_factors (p1 - (1 : Int32)).toNatClampNeg p2)))]) hX hB hE hP hD hS 1 rfl (zs_inb hg) rfl dX0_putFactor_22 (fun H locs hP hD hS => ?_)
      obtain rfl := Option.some.inj hf
      exact zs_vret (pc := 23) hX hB hR hK hP hD hS dX0_putFactor_23

def b_X0_changeWay_6 (v_T_enough : Int32) (x1 : Int64 × Int32 × (Nat → Int32)) : Option ((Int64 × Int32 × (Nat → Int32)) ⊕ ((Nat → Int32))) :=
  if v_T_enough ≤ x1.2.1 then (some (Sum.inr x1.2.2)) else ((f_X3_nextX x1.1).bind (fun o3 => (f_X0_factor x1.2.2 x1.2.1).bind (fun o4 => (f_X3_drawn o3 (97 : Int32)).bind (fun o5 => (f_X3_leftOver (o4 + o5)).bind (fun o6 => (f_X0_putFactor x1.2.2 x1.2.1 o6).bind (fun o7 => some (Sum.inl (o3, x1.2.1 + (1 : Int32), o7))))))))
def f_X0_changeWay (v_T_enough : Int32) (v_T_factors : Nat → Int32) (p1 : Int32) : Option (Int32 × (Nat → Int32)) :=
  (lp (b_X0_changeWay_6 v_T_enough) 200 (p1.toInt64, (1 : Int32), v_T_factors)).bind (fun y2 => some (v_T_enough - (1 : Int32), y2))
set_option maxHeartbeats 4000000 in
set_option maxRecDepth 100000 in
theorem c_X0_changeWay (l : Launch) (g : GG) (sz : Nat) (a_T a_T_kinds a_T_extras a_T_told a_T_past a_T_factors : Nat) (v_T_number : Int32) (v_T_enough : Int32) (v_T_holders : Int32) (v_T_day : Int32) (v_T_tries : Int32) (v_T_shut : Int32) (v_T_pastCount : Int32) (v_T_factors : Nat → Int32) (p1 : Int32) (o : Int32 × (Nat → Int32)) (hf : f_X0_changeWay v_T_enough v_T_factors p1 = some o) : Met l yX0_changeWay (Cond.code yX0_changeWay cX0_changeWay 5 (some .int) :: TB) { frames := 1, cells := 0, slots := 0, locals := 22 } (Pst g [(a_T, .inr (0, [.int v_T_number, .int v_T_enough, .int v_T_holders, .ref a_T_kinds, .ref a_T_extras, .ref a_T_factors, .int v_T_day, .int v_T_tries, .int v_T_shut, .ref a_T_told, .ref a_T_past, .int v_T_pastCount])), (a_T_factors, .inl (gI g, 3, .inl v_T_factors))] [.ref a_T, .int p1] sz) (Qst g [(a_T, .inr (0, [.int v_T_number, .int v_T_enough, .int v_T_holders, .ref a_T_kinds, .ref a_T_extras, .ref a_T_factors, .int v_T_day, .int v_T_tries, .int v_T_shut, .ref a_T_told, .ref a_T_past, .int v_T_pastCount])), (a_T_factors, .inl (gI g, 3, .inl o.2))] (some (.int o.1)) (va_A [(a_T, .inr (0, [.int v_T_number, .int v_T_enough, .int v_T_holders, .ref a_T_kinds, .ref a_T_extras, .ref a_T_factors, .int v_T_day, .int v_T_tries, .int v_T_shut, .ref a_T_told, .ref a_T_past, .int v_T_pastCount])), (a_T_factors, .inl (gI g, 3, .inl v_T_factors))] sz)) 0 0 (va_A [(a_T, .inr (0, [.int v_T_number, .int v_T_enough, .int v_T_holders, .ref a_T_kinds, .ref a_T_extras, .ref a_T_factors, .int v_T_day, .int v_T_tries, .int v_T_shut, .ref a_T_told, .ref a_T_past, .int v_T_pastCount])), (a_T_factors, .inl (gI g, 3, .inl v_T_factors))] sz) := by
  unfold f_X0_changeWay at hf
  refine zs_met (own := RX0) (plainFor_of_name (by decide)) rfl (Nat.le_of_ble_eq_true rfl) ?_
  intro p e s m below meth c A ls hX hB hR hM hT hO hK hN hA hE hP hD hS hl
  have hl : lv_has ls 5 [(0, .ref a_T), (1, .int p1)] := hl
  refine lv_iload_n (pc := 0) hX hB dX0_changeWay_0 rfl (lv_at hl 1 rfl) ?_
  refine lv_i2l (pc := 1) (v := p1.toInt64) hX hB dX0_changeWay_1 rfl ?_
  refine lv_lstore_n (pc := 2) (lv' := [(2, .long p1.toInt64), (0, .ref a_T), (1, .int p1)]) hX hB dX0_changeWay_2 rfl hl (by decide) rfl (fun ls hl => ?_)
  refine lv_iconst (pc := 3) (v := 1) hX hB dX0_changeWay_3 (by decide) ?_
  refine lv_istore (pc := 4) (lv' := [(4, .int (1 : Int32)), (2, .long p1.toInt64), (0, .ref a_T), (1, .int p1)]) hX hB dX0_changeWay_4 hl (by decide) rfl (fun ls hl => ?_)
  obtain ⟨y2, hj, hf⟩ := zs_bind hf
  refine zs_then (α := Unit) (fun _ H locs ls => CC g A s.heap 5 [(a_T, .inr (0, [.int v_T_number, .int v_T_enough, .int v_T_holders, .ref a_T_kinds, .ref a_T_extras, .ref a_T_factors, .int v_T_day, .int v_T_tries, .int v_T_shut, .ref a_T_told, .ref a_T_past, .int v_T_pastCount])), (a_T_factors, .inl (gI g, 3, .inl y2))] [(0, .ref a_T)] H locs ls) (fun _ ls => F0 m 48 ls []) (fun _ H locs ls hC => ?_) (fun X => ?_)
  · obtain ⟨hP, hD, hS, hl⟩ := hC
    refine lv_aload_n (pc := 48) hX hB dX0_changeWay_48 rfl (lv_at hl 0 rfl) ?_
    refine gf_X0_15 (pc := 49) (v := .int v_T_enough) hX hB hT hO hE hP 0 rfl rfl dX0_changeWay_49 ?_
    refine lv_iconst (pc := 52) (v := 1) hX hB dX0_changeWay_52 (by decide) ?_
    refine lv_isub (pc := 53) hX hB dX0_changeWay_53 ?_
    obtain rfl := Option.some.inj hf
    exact zs_iret (pc := 54) hX hB hR hK hP hD hS dX0_changeWay_54
  · refine zs_loop (fun x1 H locs ls => CC g A s.heap 5 [(a_T, .inr (0, [.int v_T_number, .int v_T_enough, .int v_T_holders, .ref a_T_kinds, .ref a_T_extras, .ref a_T_factors, .int v_T_day, .int v_T_tries, .int v_T_shut, .ref a_T_told, .ref a_T_past, .int v_T_pastCount])), (a_T_factors, .inl (gI g, 3, .inl x1.2.2))] [(0, .ref a_T), (2, .long x1.1), (4, .int x1.2.1)] H locs ls) hj (fun n x1 q hf hr ih H locs ls hC => ?_) ⟨hP, hD, hS, lv_sub hl [2, 1, 0] rfl⟩
    obtain ⟨hP, hD, hS, hl⟩ := hC
    unfold b_X0_changeWay_6 at hf
    refine lv_iload (pc := 6) hX hB dX0_changeWay_6 (lv_at hl 2 rfl) ?_
    refine lv_aload_n (pc := 8) hX hB dX0_changeWay_8 rfl (lv_at hl 0 rfl) ?_
    refine gf_X0_15 (pc := 9) (v := .int v_T_enough) hX hB hT hO hE hP 0 rfl rfl dX0_changeWay_9 ?_
    refine lv_icmp_ge (pc := 12) (tgt := 48) hX hB dX0_changeWay_12 (by decide) (fun hq => ?_) (fun hq => ?_)
    · have hf := zs_ip hf hq
      obtain rfl := Option.some.inj hf
      obtain rfl := hr
      exact X () _ _ _ ⟨hP, hD, hS, lv_sub hl [0] rfl⟩
    · have hf := zs_in hf hq
      refine lv_lload_n (pc := 15) hX hB dX0_changeWay_15 rfl (lv_at hl 1 rfl) ?_
      obtain ⟨o3, hc, hf⟩ := zs_bind hf
      refine zs_SN (pc := 16) (As := [.long x1.1]) (rest := []) (st1 := [.long o3]) (wc := []) (wr := [(a_T, .inr (0, [.int v_T_number, .int v_T_enough, .int v_T_holders, .ref a_T_kinds, .ref a_T_extras, .ref a_T_factors, .int v_T_day, .int v_T_tries, .int v_T_shut, .ref a_T_told, .ref a_T_past, .int v_T_pastCount])), (a_T_factors, .inl (gI g, 3, .inl x1.2.2))]) (w1 := []) (w2 := [(a_T, .inr (0, [.int v_T_number, .int v_T_enough, .int v_T_holders, .ref a_T_kinds, .ref a_T_extras, .ref a_T_factors, .int v_T_day, .int v_T_tries, .int v_T_shut, .ref a_T_told, .ref a_T_past, .int v_T_pastCount])), (a_T_factors, .inl (gI g, 3, .inl x1.2.2))]) (ov := some (.long o3)) lb_X3_nextX lk_X0_127 hX hB hM hO hT hE hP hD hS hA (c_X3_nextX l g _ x1.1 o3 hc) ⟨rfl, rfl⟩ ⟨Nat.le_of_ble_eq_true rfl, Nat.le_of_ble_eq_true rfl⟩ [] [0, 1] [0, 1] rfl rfl rfl rfl (by decide) rfl rfl rfl rfl hl.1 (Nat.le_of_ble_eq_true rfl) ⟨Nat.zero_le _, Nat.zero_le _⟩ rfl dX0_changeWay_16 (fun H locs hP hD hS => ?_)
      refine lv_lstore_n (pc := 19) (lv' := [(2, .long o3), (0, .ref a_T), (4, .int x1.2.1)]) hX hB dX0_changeWay_19 rfl hl (by decide) rfl (fun ls hl => ?_)
      refine lv_aload_n (pc := 20) hX hB dX0_changeWay_20 rfl (lv_at hl 1 rfl) ?_
      refine lv_iload (pc := 21) hX hB dX0_changeWay_21 (lv_at hl 2 rfl) ?_
      refine lv_aload_n (pc := 23) hX hB dX0_changeWay_23 rfl (lv_at hl 1 rfl) ?_
      refine lv_iload (pc := 24) hX hB dX0_changeWay_24 (lv_at hl 2 rfl) ?_
      obtain ⟨o4, hc, hf⟩ := zs_bind hf
      refine zs_V (q := (RX0, TX0, 12)) (ci := 0) (q0 := 0) (b := a_T) (pc := 26) (As := [.int x1.2.1]) (rest := [.int x1.2.1, .ref a_T]) (st1 := [.int o4, .int x1.2.1, .ref a_T]) (wc := [(a_T, .inr (0, [.int v_T_number, .int v_T_enough, .int v_T_holders, .ref a_T_kinds, .ref a_T_extras, .ref a_T_factors, .int v_T_day, .int v_T_tries, .int v_T_shut, .ref a_T_told, .ref a_T_past, .int v_T_pastCount])), (a_T_factors, .inl (gI g, 3, .inl x1.2.2))]) (wr := []) (w1 := [(a_T, .inr (0, [.int v_T_number, .int v_T_enough, .int v_T_holders, .ref a_T_kinds, .ref a_T_extras, .ref a_T_factors, .int v_T_day, .int v_T_tries, .int v_T_shut, .ref a_T_told, .ref a_T_past, .int v_T_pastCount])), (a_T_factors, .inl (gI g, 3, .inl x1.2.2))]) (w2 := [(a_T, .inr (0, [.int v_T_number, .int v_T_enough, .int v_T_holders, .ref a_T_kinds, .ref a_T_extras, .ref a_T_factors, .int v_T_day, .int v_T_tries, .int v_T_shut, .ref a_T_told, .ref a_T_past, .int v_T_pastCount])), (a_T_factors, .inl (gI g, 3, .inl x1.2.2))]) (ov := some (.int o4)) lb_X0_factor lk_X0_77 hX hB hM hO hT hE hP hD hS hA (c_X0_factor l g _ a_T a_T_kinds a_T_extras a_T_told a_T_past a_T_factors v_T_number v_T_enough v_T_holders v_T_day v_T_tries v_T_shut v_T_pastCount x1.2.2 x1.2.1 o4 hc) ⟨rfl, rfl⟩ ⟨Nat.le_of_ble_eq_true rfl, Nat.le_of_ble_eq_true rfl⟩ rfl rfl [0, 1] [] [0, 1] rfl rfl rfl rfl (by decide) rfl rfl rfl rfl hl.1 (Nat.le_of_ble_eq_true rfl) ⟨Nat.zero_le _, Nat.zero_le _⟩ rfl dX0_changeWay_26 (fun H locs hP hD hS => ?_)
      refine lv_lload_n (pc := 29) hX hB dX0_changeWay_29 rfl (lv_at hl 0 rfl) ?_
      refine lv_bipush (pc := 30) (v := 97) hX hB dX0_changeWay_30 (by decide) ?_
      obtain ⟨o5, hc, hf⟩ := zs_bind hf
      refine zs_SN (pc := 32) (As := [.long o3, .int (97 : Int32)]) (rest := [.int o4, .int x1.2.1, .ref a_T]) (st1 := [.int o5, .int o4, .int x1.2.1, .ref a_T]) (wc := []) (wr := [(a_T, .inr (0, [.int v_T_number, .int v_T_enough, .int v_T_holders, .ref a_T_kinds, .ref a_T_extras, .ref a_T_factors, .int v_T_day, .int v_T_tries, .int v_T_shut, .ref a_T_told, .ref a_T_past, .int v_T_pastCount])), (a_T_factors, .inl (gI g, 3, .inl x1.2.2))]) (w1 := []) (w2 := [(a_T, .inr (0, [.int v_T_number, .int v_T_enough, .int v_T_holders, .ref a_T_kinds, .ref a_T_extras, .ref a_T_factors, .int v_T_day, .int v_T_tries, .int v_T_shut, .ref a_T_told, .ref a_T_past, .int v_T_pastCount])), (a_T_factors, .inl (gI g, 3, .inl x1.2.2))]) (ov := some (.int o5)) lb_X3_drawn lk_X0_131 hX hB hM hO hT hE hP hD hS hA (c_X3_drawn l g _ o3 (97 : Int32) o5 hc) ⟨rfl, rfl⟩ ⟨Nat.le_of_ble_eq_true rfl, Nat.le_of_ble_eq_true rfl⟩ [] [0, 1] [0, 1] rfl rfl rfl rfl (by decide) rfl rfl rfl rfl hl.1 (Nat.le_of_ble_eq_true rfl) ⟨Nat.zero_le _, Nat.zero_le _⟩ rfl dX0_changeWay_32 (fun H locs hP hD hS => ?_)
      refine lv_iadd (pc := 35) hX hB dX0_changeWay_35 ?_
      obtain ⟨o6, hc, hf⟩ := zs_bind hf
      refine zs_SN (pc := 36) (As := [.int (o4 + o5)]) (rest := [.int x1.2.1, .ref a_T]) (st1 := [.int o6, .int x1.2.1, .ref a_T]) (wc := []) (wr := [(a_T, .inr (0, [.int v_T_number, .int v_T_enough, .int v_T_holders, .ref a_T_kinds, .ref a_T_extras, .ref a_T_factors, .int v_T_day, .int v_T_tries, .int v_T_shut, .ref a_T_told, .ref a_T_past, .int v_T_pastCount])), (a_T_factors, .inl (gI g, 3, .inl x1.2.2))]) (w1 := []) (w2 := [(a_T, .inr (0, [.int v_T_number, .int v_T_enough, .int v_T_holders, .ref a_T_kinds, .ref a_T_extras, .ref a_T_factors, .int v_T_day, .int v_T_tries, .int v_T_shut, .ref a_T_told, .ref a_T_past, .int v_T_pastCount])), (a_T_factors, .inl (gI g, 3, .inl x1.2.2))]) (ov := some (.int o6)) lb_X3_leftOver lk_X0_81 hX hB hM hO hT hE hP hD hS hA (c_X3_leftOver l g _ (o4 + o5) o6 hc) ⟨rfl, rfl⟩ ⟨Nat.le_of_ble_eq_true rfl, Nat.le_of_ble_eq_true rfl⟩ [] [0, 1] [0, 1] rfl rfl rfl rfl (by decide) rfl rfl rfl rfl hl.1 (Nat.le_of_ble_eq_true rfl) ⟨Nat.zero_le _, Nat.zero_le _⟩ rfl dX0_changeWay_36 (fun H locs hP hD hS => ?_)
      obtain ⟨o7, hc, hf⟩ := zs_bind hf
      refine zs_V (q := (RX0, TX0, 12)) (ci := 0) (q0 := 0) (b := a_T) (pc := 39) (As := [.int x1.2.1, .int o6]) (rest := []) (st1 := []) (wc := [(a_T, .inr (0, [.int v_T_number, .int v_T_enough, .int v_T_holders, .ref a_T_kinds, .ref a_T_extras, .ref a_T_factors, .int v_T_day, .int v_T_tries, .int v_T_shut, .ref a_T_told, .ref a_T_past, .int v_T_pastCount])), (a_T_factors, .inl (gI g, 3, .inl x1.2.2))]) (wr := []) (w1 := [(a_T, .inr (0, [.int v_T_number, .int v_T_enough, .int v_T_holders, .ref a_T_kinds, .ref a_T_extras, .ref a_T_factors, .int v_T_day, .int v_T_tries, .int v_T_shut, .ref a_T_told, .ref a_T_past, .int v_T_pastCount])), (a_T_factors, .inl (gI g, 3, .inl o7))]) (w2 := [(a_T, .inr (0, [.int v_T_number, .int v_T_enough, .int v_T_holders, .ref a_T_kinds, .ref a_T_extras, .ref a_T_factors, .int v_T_day, .int v_T_tries, .int v_T_shut, .ref a_T_told, .ref a_T_past, .int v_T_pastCount])), (a_T_factors, .inl (gI g, 3, .inl o7))]) (ov := none) lb_X0_putFactor lk_X0_135 hX hB hM hO hT hE hP hD hS hA (c_X0_putFactor l g _ a_T a_T_kinds a_T_extras a_T_told a_T_past a_T_factors v_T_number v_T_enough v_T_holders v_T_day v_T_tries v_T_shut v_T_pastCount x1.2.2 x1.2.1 o6 o7 hc) ⟨rfl, rfl⟩ ⟨Nat.le_of_ble_eq_true rfl, Nat.le_of_ble_eq_true rfl⟩ rfl rfl [0, 1] [] [0, 1] rfl rfl rfl rfl (by decide) rfl rfl rfl rfl hl.1 (Nat.le_of_ble_eq_true rfl) ⟨Nat.zero_le _, Nat.zero_le _⟩ rfl dX0_changeWay_39 (fun H locs hP hD hS => ?_)
      refine lv_iinc (pc := 42) (v := x1.2.1 + (1 : Int32)) (lv' := [(4, .int (x1.2.1 + (1 : Int32))), (2, .long o3), (0, .ref a_T)]) hX hB dX0_changeWay_42 hl (k := 2) rfl rfl (by decide) rfl (fun ls hl => ?_)
      refine lv_goto (pc := 45) (tgt := 6) hX hB dX0_changeWay_45 (by decide) ?_
      obtain rfl := Option.some.inj hf
      exact ih _ hr _ _ _ ⟨hP, hD, hS, lv_sub hl [2, 1, 0] rfl⟩

def b_X0_shareOf_9 (v_T_factors : Nat → Int32) (p1 : Int32) (x1 : Int32 × Int32) : Option ((Int32 × Int32) ⊕ (Int32)) :=
  if x1.2 < (1 : Int32) then (some (Sum.inr x1.1)) else ((f_X0_factor v_T_factors x1.2).bind (fun o4 => (f_X3_leftOver ((x1.1 + o4) * (p1 + (1 : Int32)))).bind (fun o5 => some (Sum.inl (o5, x1.2 + (-1 : Int32))))))
def f_X0_shareOf (v_T_number : Int32) (v_T_enough : Int32) (v_T_factors : Nat → Int32) (p1 : Int32) : Option (Int32) :=
  (lp (b_X0_shareOf_9 v_T_factors p1) 200 ((0 : Int32), v_T_enough - (1 : Int32))).bind (fun y2 => (f_X3_leftOver (y2 + v_T_number)).bind (fun o3 => some o3))
set_option maxHeartbeats 4000000 in
set_option maxRecDepth 100000 in
theorem c_X0_shareOf (l : Launch) (g : GG) (sz : Nat) (a_T a_T_kinds a_T_extras a_T_told a_T_past a_T_factors : Nat) (v_T_number : Int32) (v_T_enough : Int32) (v_T_holders : Int32) (v_T_day : Int32) (v_T_tries : Int32) (v_T_shut : Int32) (v_T_pastCount : Int32) (v_T_factors : Nat → Int32) (p1 : Int32) (o : Int32) (hf : f_X0_shareOf v_T_number v_T_enough v_T_factors p1 = some o) : Met l yX0_shareOf (Cond.code yX0_shareOf cX0_shareOf 4 (some .int) :: TB) { frames := 1, cells := 0, slots := 0, locals := 21 } (Pst g [(a_T, .inr (0, [.int v_T_number, .int v_T_enough, .int v_T_holders, .ref a_T_kinds, .ref a_T_extras, .ref a_T_factors, .int v_T_day, .int v_T_tries, .int v_T_shut, .ref a_T_told, .ref a_T_past, .int v_T_pastCount])), (a_T_factors, .inl (gI g, 3, .inl v_T_factors))] [.ref a_T, .int p1] sz) (Qst g [(a_T, .inr (0, [.int v_T_number, .int v_T_enough, .int v_T_holders, .ref a_T_kinds, .ref a_T_extras, .ref a_T_factors, .int v_T_day, .int v_T_tries, .int v_T_shut, .ref a_T_told, .ref a_T_past, .int v_T_pastCount])), (a_T_factors, .inl (gI g, 3, .inl v_T_factors))] (some (.int o)) (va_A [(a_T, .inr (0, [.int v_T_number, .int v_T_enough, .int v_T_holders, .ref a_T_kinds, .ref a_T_extras, .ref a_T_factors, .int v_T_day, .int v_T_tries, .int v_T_shut, .ref a_T_told, .ref a_T_past, .int v_T_pastCount])), (a_T_factors, .inl (gI g, 3, .inl v_T_factors))] sz)) 0 0 (va_A [(a_T, .inr (0, [.int v_T_number, .int v_T_enough, .int v_T_holders, .ref a_T_kinds, .ref a_T_extras, .ref a_T_factors, .int v_T_day, .int v_T_tries, .int v_T_shut, .ref a_T_told, .ref a_T_past, .int v_T_pastCount])), (a_T_factors, .inl (gI g, 3, .inl v_T_factors))] sz) := by
  unfold f_X0_shareOf at hf
  refine zs_met (own := RX0) (plainFor_of_name (by decide)) rfl (Nat.le_of_ble_eq_true rfl) ?_
  intro p e s m below meth c A ls hX hB hR hM hT hO hK hN hA hE hP hD hS hl
  have hl : lv_has ls 4 [(0, .ref a_T), (1, .int p1)] := hl
  refine lv_iconst (pc := 0) (v := 0) hX hB dX0_shareOf_0 (by decide) ?_
  refine lv_istore_n (pc := 1) (lv' := [(2, .int (0 : Int32)), (0, .ref a_T), (1, .int p1)]) hX hB dX0_shareOf_1 rfl hl (by decide) rfl (fun ls hl => ?_)
  refine lv_aload_n (pc := 2) hX hB dX0_shareOf_2 rfl (lv_at hl 1 rfl) ?_
  refine gf_X0_15 (pc := 3) (v := .int v_T_enough) hX hB hT hO hE hP 0 rfl rfl dX0_shareOf_3 ?_
  refine lv_iconst (pc := 6) (v := 1) hX hB dX0_shareOf_6 (by decide) ?_
  refine lv_isub (pc := 7) hX hB dX0_shareOf_7 ?_
  refine lv_istore_n (pc := 8) (lv' := [(3, .int (v_T_enough - (1 : Int32))), (2, .int (0 : Int32)), (0, .ref a_T), (1, .int p1)]) hX hB dX0_shareOf_8 rfl hl (by decide) rfl (fun ls hl => ?_)
  obtain ⟨y2, hj, hf⟩ := zs_bind hf
  refine zs_then (α := Unit) (fun _ H locs ls => CC g A s.heap 4 [(a_T, .inr (0, [.int v_T_number, .int v_T_enough, .int v_T_holders, .ref a_T_kinds, .ref a_T_extras, .ref a_T_factors, .int v_T_day, .int v_T_tries, .int v_T_shut, .ref a_T_told, .ref a_T_past, .int v_T_pastCount])), (a_T_factors, .inl (gI g, 3, .inl v_T_factors))] [(0, .ref a_T), (2, .int y2)] H locs ls) (fun _ ls => F0 m 35 ls []) (fun _ H locs ls hC => ?_) (fun X => ?_)
  · obtain ⟨hP, hD, hS, hl⟩ := hC
    refine lv_iload_n (pc := 35) hX hB dX0_shareOf_35 rfl (lv_at hl 1 rfl) ?_
    refine lv_aload_n (pc := 36) hX hB dX0_shareOf_36 rfl (lv_at hl 0 rfl) ?_
    refine gf_X0_9 (pc := 37) (v := .int v_T_number) hX hB hT hO hE hP 0 rfl rfl dX0_shareOf_37 ?_
    refine lv_iadd (pc := 40) hX hB dX0_shareOf_40 ?_
    obtain ⟨o3, hc, hf⟩ := zs_bind hf
    refine zs_SN (pc := 41) (As := [.int (y2 + v_T_number)]) (rest := []) (st1 := [.int o3]) (wc := []) (wr := [(a_T, .inr (0, [.int v_T_number, .int v_T_enough, .int v_T_holders, .ref a_T_kinds, .ref a_T_extras, .ref a_T_factors, .int v_T_day, .int v_T_tries, .int v_T_shut, .ref a_T_told, .ref a_T_past, .int v_T_pastCount])), (a_T_factors, .inl (gI g, 3, .inl v_T_factors))]) (w1 := []) (w2 := [(a_T, .inr (0, [.int v_T_number, .int v_T_enough, .int v_T_holders, .ref a_T_kinds, .ref a_T_extras, .ref a_T_factors, .int v_T_day, .int v_T_tries, .int v_T_shut, .ref a_T_told, .ref a_T_past, .int v_T_pastCount])), (a_T_factors, .inl (gI g, 3, .inl v_T_factors))]) (ov := some (.int o3)) lb_X3_leftOver lk_X0_81 hX hB hM hO hT hE hP hD hS hA (c_X3_leftOver l g _ (y2 + v_T_number) o3 hc) ⟨rfl, rfl⟩ ⟨Nat.le_of_ble_eq_true rfl, Nat.le_of_ble_eq_true rfl⟩ [] [0, 1] [0, 1] rfl rfl rfl rfl (by decide) rfl rfl rfl rfl hl.1 (Nat.le_of_ble_eq_true rfl) ⟨Nat.zero_le _, Nat.zero_le _⟩ rfl dX0_shareOf_41 (fun H locs hP hD hS => ?_)
    obtain rfl := Option.some.inj hf
    exact zs_iret (pc := 44) hX hB hR hK hP hD hS dX0_shareOf_44
  · refine zs_loop (fun x1 H locs ls => CC g A s.heap 4 [(a_T, .inr (0, [.int v_T_number, .int v_T_enough, .int v_T_holders, .ref a_T_kinds, .ref a_T_extras, .ref a_T_factors, .int v_T_day, .int v_T_tries, .int v_T_shut, .ref a_T_told, .ref a_T_past, .int v_T_pastCount])), (a_T_factors, .inl (gI g, 3, .inl v_T_factors))] [(0, .ref a_T), (1, .int p1), (2, .int x1.1), (3, .int x1.2)] H locs ls) hj (fun n x1 q hf hr ih H locs ls hC => ?_) ⟨hP, hD, hS, lv_sub hl [2, 3, 1, 0] rfl⟩
    obtain ⟨hP, hD, hS, hl⟩ := hC
    unfold b_X0_shareOf_9 at hf
    refine lv_iload_n (pc := 9) hX hB dX0_shareOf_9 rfl (lv_at hl 3 rfl) ?_
    refine lv_iconst (pc := 10) (v := 1) hX hB dX0_shareOf_10 (by decide) ?_
    refine lv_icmp_lt (pc := 11) (tgt := 35) hX hB dX0_shareOf_11 (by decide) (fun hq => ?_) (fun hq => ?_)
    · have hf := zs_ip hf hq
      obtain rfl := Option.some.inj hf
      obtain rfl := hr
      exact X () _ _ _ ⟨hP, hD, hS, lv_sub hl [0, 2] rfl⟩
    · have hf := zs_in hf hq
      refine lv_iload_n (pc := 14) hX hB dX0_shareOf_14 rfl (lv_at hl 2 rfl) ?_
      refine lv_aload_n (pc := 15) hX hB dX0_shareOf_15 rfl (lv_at hl 0 rfl) ?_
      refine lv_iload_n (pc := 16) hX hB dX0_shareOf_16 rfl (lv_at hl 3 rfl) ?_
      obtain ⟨o4, hc, hf⟩ := zs_bind hf
      refine zs_V (q := (RX0, TX0, 12)) (ci := 0) (q0 := 0) (b := a_T) (pc := 17) (As := [.int x1.2]) (rest := [.int x1.1]) (st1 := [.int o4, .int x1.1]) (wc := [(a_T, .inr (0, [.int v_T_number, .int v_T_enough, .int v_T_holders, .ref a_T_kinds, .ref a_T_extras, .ref a_T_factors, .int v_T_day, .int v_T_tries, .int v_T_shut, .ref a_T_told, .ref a_T_past, .int v_T_pastCount])), (a_T_factors, .inl (gI g, 3, .inl v_T_factors))]) (wr := []) (w1 := [(a_T, .inr (0, [.int v_T_number, .int v_T_enough, .int v_T_holders, .ref a_T_kinds, .ref a_T_extras, .ref a_T_factors, .int v_T_day, .int v_T_tries, .int v_T_shut, .ref a_T_told, .ref a_T_past, .int v_T_pastCount])), (a_T_factors, .inl (gI g, 3, .inl v_T_factors))]) (w2 := [(a_T, .inr (0, [.int v_T_number, .int v_T_enough, .int v_T_holders, .ref a_T_kinds, .ref a_T_extras, .ref a_T_factors, .int v_T_day, .int v_T_tries, .int v_T_shut, .ref a_T_told, .ref a_T_past, .int v_T_pastCount])), (a_T_factors, .inl (gI g, 3, .inl v_T_factors))]) (ov := some (.int o4)) lb_X0_factor lk_X0_77 hX hB hM hO hT hE hP hD hS hA (c_X0_factor l g _ a_T a_T_kinds a_T_extras a_T_told a_T_past a_T_factors v_T_number v_T_enough v_T_holders v_T_day v_T_tries v_T_shut v_T_pastCount v_T_factors x1.2 o4 hc) ⟨rfl, rfl⟩ ⟨Nat.le_of_ble_eq_true rfl, Nat.le_of_ble_eq_true rfl⟩ rfl rfl [0, 1] [] [0, 1] rfl rfl rfl rfl (by decide) rfl rfl rfl rfl hl.1 (Nat.le_of_ble_eq_true rfl) ⟨Nat.zero_le _, Nat.zero_le _⟩ rfl dX0_shareOf_17 (fun H locs hP hD hS => ?_)
      refine lv_iadd (pc := 20) hX hB dX0_shareOf_20 ?_
      refine lv_iload_n (pc := 21) hX hB dX0_shareOf_21 rfl (lv_at hl 1 rfl) ?_
      refine lv_iconst (pc := 22) (v := 1) hX hB dX0_shareOf_22 (by decide) ?_
      refine lv_iadd (pc := 23) hX hB dX0_shareOf_23 ?_
      refine lv_imul (pc := 24) hX hB dX0_shareOf_24 ?_
      obtain ⟨o5, hc, hf⟩ := zs_bind hf
      refine zs_SN (pc := 25) (As := [.int ((x1.1 + o4) * (p1 + (1 : Int32)))]) (rest := []) (st1 := [.int o5]) (wc := []) (wr := [(a_T, .inr (0, [.int v_T_number, .int v_T_enough, .int v_T_holders, .ref a_T_kinds, .ref a_T_extras, .ref a_T_factors, .int v_T_day, .int v_T_tries, .int v_T_shut, .ref a_T_told, .ref a_T_past, .int v_T_pastCount])), (a_T_factors, .inl (gI g, 3, .inl v_T_factors))]) (w1 := []) (w2 := [(a_T, .inr (0, [.int v_T_number, .int v_T_enough, .int v_T_holders, .ref a_T_kinds, .ref a_T_extras, .ref a_T_factors, .int v_T_day, .int v_T_tries, .int v_T_shut, .ref a_T_told, .ref a_T_past, .int v_T_pastCount])), (a_T_factors, .inl (gI g, 3, .inl v_T_factors))]) (ov := some (.int o5)) lb_X3_leftOver lk_X0_81 hX hB hM hO hT hE hP hD hS hA (c_X3_leftOver l g _ ((x1.1 + o4) * (p1 + (1 : Int32))) o5 hc) ⟨rfl, rfl⟩ ⟨Nat.le_of_ble_eq_true rfl, Nat.le_of_ble_eq_true rfl⟩ [] [0, 1] [0, 1] rfl rfl rfl rfl (by decide) rfl rfl rfl rfl hl.1 (Nat.le_of_ble_eq_true rfl) ⟨Nat.zero_le _, Nat.zero_le _⟩ rfl dX0_shareOf_25 (fun H locs hP hD hS => ?_)
      refine lv_istore_n (pc := 28) (lv' := [(2, .int o5), (0, .ref a_T), (1, .int p1), (3, .int x1.2)]) hX hB dX0_shareOf_28 rfl hl (by decide) rfl (fun ls hl => ?_)
      refine lv_iinc (pc := 29) (v := x1.2 + (-1 : Int32)) (lv' := [(3, .int (x1.2 + (-1 : Int32))), (2, .int o5), (0, .ref a_T), (1, .int p1)]) hX hB dX0_shareOf_29 hl (k := 3) rfl rfl (by decide) rfl (fun ls hl => ?_)
      refine lv_goto (pc := 32) (tgt := 9) hX hB dX0_shareOf_32 (by decide) ?_
      obtain rfl := Option.some.inj hf
      exact ih _ hr _ _ _ ⟨hP, hD, hS, lv_sub hl [2, 3, 1, 0] rfl⟩

def f_X0_extraOf (v_T_extras : Nat → Int32) (p1 : Int32) : Option (Int32) :=
  if p1 < (0 : Int32) then (some (0 : Int32)) else (if (6 : Int32) ≤ p1 then (some (0 : Int32)) else (gd (inb p1 6) (some (v_T_extras p1.toNatClampNeg))))
set_option maxHeartbeats 4000000 in
set_option maxRecDepth 100000 in
theorem c_X0_extraOf (l : Launch) (g : GG) (sz : Nat) (a_T a_T_kinds a_T_factors a_T_told a_T_past a_T_extras : Nat) (v_T_number : Int32) (v_T_enough : Int32) (v_T_holders : Int32) (v_T_day : Int32) (v_T_tries : Int32) (v_T_shut : Int32) (v_T_pastCount : Int32) (v_T_extras : Nat → Int32) (p1 : Int32) (o : Int32) (hf : f_X0_extraOf v_T_extras p1 = some o) : Met l yX0_extraOf (Cond.code yX0_extraOf cX0_extraOf 2 (some .int) :: TB) { frames := 0, cells := 0, slots := 0, locals := 0 } (Pst g [(a_T, .inr (0, [.int v_T_number, .int v_T_enough, .int v_T_holders, .ref a_T_kinds, .ref a_T_extras, .ref a_T_factors, .int v_T_day, .int v_T_tries, .int v_T_shut, .ref a_T_told, .ref a_T_past, .int v_T_pastCount])), (a_T_extras, .inl (gI g, 6, .inl v_T_extras))] [.ref a_T, .int p1] sz) (Qst g [(a_T, .inr (0, [.int v_T_number, .int v_T_enough, .int v_T_holders, .ref a_T_kinds, .ref a_T_extras, .ref a_T_factors, .int v_T_day, .int v_T_tries, .int v_T_shut, .ref a_T_told, .ref a_T_past, .int v_T_pastCount])), (a_T_extras, .inl (gI g, 6, .inl v_T_extras))] (some (.int o)) (va_A [(a_T, .inr (0, [.int v_T_number, .int v_T_enough, .int v_T_holders, .ref a_T_kinds, .ref a_T_extras, .ref a_T_factors, .int v_T_day, .int v_T_tries, .int v_T_shut, .ref a_T_told, .ref a_T_past, .int v_T_pastCount])), (a_T_extras, .inl (gI g, 6, .inl v_T_extras))] sz)) 0 0 (va_A [(a_T, .inr (0, [.int v_T_number, .int v_T_enough, .int v_T_holders, .ref a_T_kinds, .ref a_T_extras, .ref a_T_factors, .int v_T_day, .int v_T_tries, .int v_T_shut, .ref a_T_told, .ref a_T_past, .int v_T_pastCount])), (a_T_extras, .inl (gI g, 6, .inl v_T_extras))] sz) := by
  unfold f_X0_extraOf at hf
  refine zs_met (own := RX0) (plainFor_of_name (by decide)) rfl (Nat.le_of_ble_eq_true rfl) ?_
  intro p e s m below meth c A ls hX hB hR hM hT hO hK hN hA hE hP hD hS hl
  have hl : lv_has ls 2 [(0, .ref a_T), (1, .int p1)] := hl
  refine lv_iload_n (pc := 0) hX hB dX0_extraOf_0 rfl (lv_at hl 1 rfl) ?_
  refine lv_if_lt (pc := 1) (tgt := 22) hX hB dX0_extraOf_1 (by decide) (fun hq => ?_) (fun hq => ?_)
  · have hf := zs_ip hf hq
    refine lv_iconst (pc := 22) (v := 0) hX hB dX0_extraOf_22 (by decide) ?_
    obtain rfl := Option.some.inj hf
    exact zs_iret (pc := 23) hX hB hR hK hP hD hS dX0_extraOf_23
  · have hf := zs_in hf hq
    refine lv_iload_n (pc := 4) hX hB dX0_extraOf_4 rfl (lv_at hl 1 rfl) ?_
    refine lv_aload_n (pc := 5) hX hB dX0_extraOf_5 rfl (lv_at hl 0 rfl) ?_
    refine gf_X0_25 (pc := 6) (v := .ref a_T_extras) hX hB hT hO hE hP 0 rfl rfl dX0_extraOf_6 ?_
    refine va_alen (pc := 9) hX hB hE.1 hP 1 0 rfl rfl (v := (6 : Int32)) rfl dX0_extraOf_9 ?_
    refine lv_icmp_ge (pc := 10) (tgt := 22) hX hB dX0_extraOf_10 (by decide) (fun hq => ?_) (fun hq => ?_)
    · have hf := zs_ip hf hq
      refine lv_iconst (pc := 22) (v := 0) hX hB dX0_extraOf_22 (by decide) ?_
      obtain rfl := Option.some.inj hf
      exact zs_iret (pc := 23) hX hB hR hK hP hD hS dX0_extraOf_23
    · have hf := zs_in hf hq
      refine lv_aload_n (pc := 13) hX hB dX0_extraOf_13 rfl (lv_at hl 0 rfl) ?_
      refine gf_X0_25 (pc := 14) (v := .ref a_T_extras) hX hB hT hO hE hP 0 rfl rfl dX0_extraOf_14 ?_
      refine lv_iload_n (pc := 17) hX hB dX0_extraOf_17 rfl (lv_at hl 1 rfl) ?_
      obtain ⟨hg, hf⟩ := zs_gd hf
      refine va_iald (pc := 18) hX hB hE.1 hP 1 0 rfl rfl (zs_inb hg) dX0_extraOf_18 ?_
      refine lv_goto (pc := 19) (tgt := 23) hX hB dX0_extraOf_19 (by decide) ?_
      obtain rfl := Option.some.inj hf
      exact zs_iret (pc := 23) hX hB hR hK hP hD hS dX0_extraOf_23

def f_X0_kindOf (v_T_kinds : Nat → Int32) (p1 : Int32) : Option (Int32) :=
  if p1 < (0 : Int32) then (some (0 : Int32)) else (if (6 : Int32) ≤ p1 then (some (0 : Int32)) else (gd (inb p1 6) (some (v_T_kinds p1.toNatClampNeg))))
set_option maxHeartbeats 4000000 in
set_option maxRecDepth 100000 in
theorem c_X0_kindOf (l : Launch) (g : GG) (sz : Nat) (a_T a_T_extras a_T_factors a_T_told a_T_past a_T_kinds : Nat) (v_T_number : Int32) (v_T_enough : Int32) (v_T_holders : Int32) (v_T_day : Int32) (v_T_tries : Int32) (v_T_shut : Int32) (v_T_pastCount : Int32) (v_T_kinds : Nat → Int32) (p1 : Int32) (o : Int32) (hf : f_X0_kindOf v_T_kinds p1 = some o) : Met l yX0_kindOf (Cond.code yX0_kindOf cX0_kindOf 2 (some .int) :: TB) { frames := 0, cells := 0, slots := 0, locals := 0 } (Pst g [(a_T, .inr (0, [.int v_T_number, .int v_T_enough, .int v_T_holders, .ref a_T_kinds, .ref a_T_extras, .ref a_T_factors, .int v_T_day, .int v_T_tries, .int v_T_shut, .ref a_T_told, .ref a_T_past, .int v_T_pastCount])), (a_T_kinds, .inl (gI g, 6, .inl v_T_kinds))] [.ref a_T, .int p1] sz) (Qst g [(a_T, .inr (0, [.int v_T_number, .int v_T_enough, .int v_T_holders, .ref a_T_kinds, .ref a_T_extras, .ref a_T_factors, .int v_T_day, .int v_T_tries, .int v_T_shut, .ref a_T_told, .ref a_T_past, .int v_T_pastCount])), (a_T_kinds, .inl (gI g, 6, .inl v_T_kinds))] (some (.int o)) (va_A [(a_T, .inr (0, [.int v_T_number, .int v_T_enough, .int v_T_holders, .ref a_T_kinds, .ref a_T_extras, .ref a_T_factors, .int v_T_day, .int v_T_tries, .int v_T_shut, .ref a_T_told, .ref a_T_past, .int v_T_pastCount])), (a_T_kinds, .inl (gI g, 6, .inl v_T_kinds))] sz)) 0 0 (va_A [(a_T, .inr (0, [.int v_T_number, .int v_T_enough, .int v_T_holders, .ref a_T_kinds, .ref a_T_extras, .ref a_T_factors, .int v_T_day, .int v_T_tries, .int v_T_shut, .ref a_T_told, .ref a_T_past, .int v_T_pastCount])), (a_T_kinds, .inl (gI g, 6, .inl v_T_kinds))] sz) := by
  unfold f_X0_kindOf at hf
  refine zs_met (own := RX0) (plainFor_of_name (by decide)) rfl (Nat.le_of_ble_eq_true rfl) ?_
  intro p e s m below meth c A ls hX hB hR hM hT hO hK hN hA hE hP hD hS hl
  have hl : lv_has ls 2 [(0, .ref a_T), (1, .int p1)] := hl
  refine lv_iload_n (pc := 0) hX hB dX0_kindOf_0 rfl (lv_at hl 1 rfl) ?_
  refine lv_if_lt (pc := 1) (tgt := 22) hX hB dX0_kindOf_1 (by decide) (fun hq => ?_) (fun hq => ?_)
  · have hf := zs_ip hf hq
    refine lv_iconst (pc := 22) (v := 0) hX hB dX0_kindOf_22 (by decide) ?_
    obtain rfl := Option.some.inj hf
    exact zs_iret (pc := 23) hX hB hR hK hP hD hS dX0_kindOf_23
  · have hf := zs_in hf hq
    refine lv_iload_n (pc := 4) hX hB dX0_kindOf_4 rfl (lv_at hl 1 rfl) ?_
    refine lv_aload_n (pc := 5) hX hB dX0_kindOf_5 rfl (lv_at hl 0 rfl) ?_
    refine gf_X0_21 (pc := 6) (v := .ref a_T_kinds) hX hB hT hO hE hP 0 rfl rfl dX0_kindOf_6 ?_
    refine va_alen (pc := 9) hX hB hE.1 hP 1 0 rfl rfl (v := (6 : Int32)) rfl dX0_kindOf_9 ?_
    refine lv_icmp_ge (pc := 10) (tgt := 22) hX hB dX0_kindOf_10 (by decide) (fun hq => ?_) (fun hq => ?_)
    · have hf := zs_ip hf hq
      refine lv_iconst (pc := 22) (v := 0) hX hB dX0_kindOf_22 (by decide) ?_
      obtain rfl := Option.some.inj hf
      exact zs_iret (pc := 23) hX hB hR hK hP hD hS dX0_kindOf_23
    · have hf := zs_in hf hq
      refine lv_aload_n (pc := 13) hX hB dX0_kindOf_13 rfl (lv_at hl 0 rfl) ?_
      refine gf_X0_21 (pc := 14) (v := .ref a_T_kinds) hX hB hT hO hE hP 0 rfl rfl dX0_kindOf_14 ?_
      refine lv_iload_n (pc := 17) hX hB dX0_kindOf_17 rfl (lv_at hl 1 rfl) ?_
      obtain ⟨hg, hf⟩ := zs_gd hf
      refine va_iald (pc := 18) hX hB hE.1 hP 1 0 rfl rfl (zs_inb hg) dX0_kindOf_18 ?_
      refine lv_goto (pc := 19) (tgt := 23) hX hB dX0_kindOf_19 (by decide) ?_
      obtain rfl := Option.some.inj hf
      exact zs_iret (pc := 23) hX hB hR hK hP hD hS dX0_kindOf_23

def f_X0_isForgotten (p1 : Int32) (p2 : Int32) : Option (Int32) :=
  (f_J9_floorMod_7cf53 p1 (5 : Int32)).bind (fun o1 => if (o1 + (2 : Int32)) ≤ (0 : Int32) then (some (0 : Int32)) else (gd (decide (¬ (o1 + (2 : Int32)) = 0)) (if (jrem p2 (o1 + (2 : Int32))) = (0 : Int32) then (some (1 : Int32)) else (some (0 : Int32)))))
set_option maxHeartbeats 4000000 in
set_option maxRecDepth 100000 in
theorem c_X0_isForgotten (l : Launch) (g : GG) (sz : Nat) (p1 : Int32) (p2 : Int32) (o : Int32) (hf : f_X0_isForgotten p1 p2 = some o) : Met l yX0_isForgotten (Cond.code yX0_isForgotten cX0_isForgotten 3 (some .boolean) :: TB) { frames := 1, cells := 0, slots := 0, locals := 22 } (Pst g [] [.int p1, .int p2] sz) (Qst g [] (some (.int o)) (va_A [] sz)) 0 0 (va_A [] sz) := by
  unfold f_X0_isForgotten at hf
  refine zs_met (own := RX0) (plainFor_of_name (by decide)) rfl (Nat.le_of_ble_eq_true rfl) ?_
  intro p e s m below meth c A ls hX hB hR hM hT hO hK hN hA hE hP hD hS hl
  have hl : lv_has ls 3 [(0, .int p1), (1, .int p2)] := hl
  refine lv_iload_n (pc := 0) hX hB dX0_isForgotten_0 rfl (lv_at hl 0 rfl) ?_
  refine lv_iconst (pc := 1) (v := 5) hX hB dX0_isForgotten_1 (by decide) ?_
  obtain ⟨o1, hc, hf⟩ := zs_bind hf
  refine zs_S (pc := 2) (As := [.int p1, .int (5 : Int32)]) (rest := []) (st1 := [.int o1]) (wc := []) (wr := []) (w1 := []) (w2 := []) (ov := some (.int o1)) lb_J9_floorMod_7cf53 lk_X0_143 hX hB hM hO hT hE hP hD hS hA (c_J9_floorMod_7cf53 l g _ p1 (5 : Int32) o1 hc) ⟨rfl, rfl⟩ ⟨Nat.le_of_ble_eq_true rfl, Nat.le_of_ble_eq_true rfl⟩ [] [] [] rfl rfl rfl rfl (by decide) rfl rfl rfl rfl hl.1 (Nat.le_of_ble_eq_true rfl) ⟨Nat.zero_le _, Nat.zero_le _⟩ rfl dX0_isForgotten_2 (fun H locs hP hD hS => ?_)
  refine lv_iconst (pc := 5) (v := 2) hX hB dX0_isForgotten_5 (by decide) ?_
  refine lv_iadd (pc := 6) hX hB dX0_isForgotten_6 ?_
  refine lv_istore_n (pc := 7) (lv' := [(2, .int (o1 + (2 : Int32))), (0, .int p1), (1, .int p2)]) hX hB dX0_isForgotten_7 rfl hl (by decide) rfl (fun ls hl => ?_)
  refine lv_iload_n (pc := 8) hX hB dX0_isForgotten_8 rfl (lv_at hl 0 rfl) ?_
  refine lv_if_le (pc := 9) (tgt := 22) hX hB dX0_isForgotten_9 (by decide) (fun hq => ?_) (fun hq => ?_)
  · have hf := zs_ip hf hq
    refine lv_iconst (pc := 22) (v := 0) hX hB dX0_isForgotten_22 (by decide) ?_
    obtain rfl := Option.some.inj hf
    exact zs_zret (v := (0 : Int32)) (pc := 23) hX hB hR hK rfl hP hD hS dX0_isForgotten_23
  · have hf := zs_in hf hq
    refine lv_iload_n (pc := 12) hX hB dX0_isForgotten_12 rfl (lv_at hl 2 rfl) ?_
    refine lv_iload_n (pc := 13) hX hB dX0_isForgotten_13 rfl (lv_at hl 0 rfl) ?_
    obtain ⟨hg, hf⟩ := zs_gd hf
    refine zs_irem (pc := 14) hX hB dX0_isForgotten_14 (of_decide_eq_true hg) ?_
    refine lv_if_ne (pc := 15) (tgt := 22) hX hB dX0_isForgotten_15 (by decide) (fun hq => ?_) (fun hq => ?_)
    · have hf := zs_in hf hq
      refine lv_iconst (pc := 22) (v := 0) hX hB dX0_isForgotten_22 (by decide) ?_
      obtain rfl := Option.some.inj hf
      exact zs_zret (v := (0 : Int32)) (pc := 23) hX hB hR hK rfl hP hD hS dX0_isForgotten_23
    · have hf := zs_ip hf hq
      refine lv_iconst (pc := 18) (v := 1) hX hB dX0_isForgotten_18 (by decide) ?_
      refine lv_goto (pc := 19) (tgt := 23) hX hB dX0_isForgotten_19 (by decide) ?_
      obtain rfl := Option.some.inj hf
      exact zs_zret (v := (1 : Int32)) (pc := 23) hX hB hR hK rfl hP hD hS dX0_isForgotten_23

def f_X0_wordOf (v_T_number : Int32) (v_T_enough : Int32) (v_T_kinds : Nat → Int32) (v_T_extras : Nat → Int32) (v_T_factors : Nat → Int32) (p1 : Int32) (p2 : Int32) (p3 : Int32) : Option (Int32) :=
  (f_X0_shareOf v_T_number v_T_enough v_T_factors p1).bind (fun o1 => (f_X0_extraOf v_T_extras p1).bind (fun o2 => (f_X0_kindOf v_T_kinds p1).bind (fun o3 => if o3 = 1 then ((f_X0_isForgotten o2 p2).bind (fun o4 => if o4 = (0 : Int32) then (some o1) else (some (-1 : Int32)))) else (if o3 = 2 then ((f_X3_leftOver (o1 + o2)).bind (fun o5 => some o5)) else (if o3 = 3 then (if (3 : Int32) ≤ p3 then (some o1) else ((f_X3_leftOver (o1 + o2)).bind (fun o6 => some o6))) else (if o3 = 4 then ((f_X0_isForgotten o2 p2).bind (fun o7 => if o7 = (0 : Int32) then (if (jrem p2 (2 : Int32)) = (0 : Int32) then (some o1) else (some (-1 : Int32))) else (some (-1 : Int32)))) else (if o3 = 5 then ((f_X3_leftOver ((o1 + o2) + p2)).bind (fun o8 => some o8)) else (some o1))))))))
set_option maxHeartbeats 4000000 in
set_option maxRecDepth 100000 in
theorem c_X0_wordOf (l : Launch) (g : GG) (sz : Nat) (a_T a_T_told a_T_past a_T_kinds a_T_extras a_T_factors : Nat) (v_T_number : Int32) (v_T_enough : Int32) (v_T_holders : Int32) (v_T_day : Int32) (v_T_tries : Int32) (v_T_shut : Int32) (v_T_pastCount : Int32) (v_T_kinds : Nat → Int32) (v_T_extras : Nat → Int32) (v_T_factors : Nat → Int32) (p1 : Int32) (p2 : Int32) (p3 : Int32) (o : Int32) (hf : f_X0_wordOf v_T_number v_T_enough v_T_kinds v_T_extras v_T_factors p1 p2 p3 = some o) : Met l yX0_wordOf (Cond.code yX0_wordOf cX0_wordOf 6 (some .int) :: TB) { frames := 2, cells := 0, slots := 0, locals := 44 } (Pst g [(a_T, .inr (0, [.int v_T_number, .int v_T_enough, .int v_T_holders, .ref a_T_kinds, .ref a_T_extras, .ref a_T_factors, .int v_T_day, .int v_T_tries, .int v_T_shut, .ref a_T_told, .ref a_T_past, .int v_T_pastCount])), (a_T_kinds, .inl (gI g, 6, .inl v_T_kinds)), (a_T_extras, .inl (gI g, 6, .inl v_T_extras)), (a_T_factors, .inl (gI g, 3, .inl v_T_factors))] [.ref a_T, .int p1, .int p2, .int p3] sz) (Qst g [(a_T, .inr (0, [.int v_T_number, .int v_T_enough, .int v_T_holders, .ref a_T_kinds, .ref a_T_extras, .ref a_T_factors, .int v_T_day, .int v_T_tries, .int v_T_shut, .ref a_T_told, .ref a_T_past, .int v_T_pastCount])), (a_T_kinds, .inl (gI g, 6, .inl v_T_kinds)), (a_T_extras, .inl (gI g, 6, .inl v_T_extras)), (a_T_factors, .inl (gI g, 3, .inl v_T_factors))] (some (.int o)) (va_A [(a_T, .inr (0, [.int v_T_number, .int v_T_enough, .int v_T_holders, .ref a_T_kinds, .ref a_T_extras, .ref a_T_factors, .int v_T_day, .int v_T_tries, .int v_T_shut, .ref a_T_told, .ref a_T_past, .int v_T_pastCount])), (a_T_kinds, .inl (gI g, 6, .inl v_T_kinds)), (a_T_extras, .inl (gI g, 6, .inl v_T_extras)), (a_T_factors, .inl (gI g, 3, .inl v_T_factors))] sz)) 0 0 (va_A [(a_T, .inr (0, [.int v_T_number, .int v_T_enough, .int v_T_holders, .ref a_T_kinds, .ref a_T_extras, .ref a_T_factors, .int v_T_day, .int v_T_tries, .int v_T_shut, .ref a_T_told, .ref a_T_past, .int v_T_pastCount])), (a_T_kinds, .inl (gI g, 6, .inl v_T_kinds)), (a_T_extras, .inl (gI g, 6, .inl v_T_extras)), (a_T_factors, .inl (gI g, 3, .inl v_T_factors))] sz) := by
  unfold f_X0_wordOf at hf
  refine zs_met (own := RX0) (plainFor_of_name (by decide)) rfl (Nat.le_of_ble_eq_true rfl) ?_
  intro p e s m below meth c A ls hX hB hR hM hT hO hK hN hA hE hP hD hS hl
  have hl : lv_has ls 6 [(0, .ref a_T), (1, .int p1), (2, .int p2), (3, .int p3)] := hl
  refine lv_aload_n (pc := 0) hX hB dX0_wordOf_0 rfl (lv_at hl 0 rfl) ?_
  refine lv_iload_n (pc := 1) hX hB dX0_wordOf_1 rfl (lv_at hl 1 rfl) ?_
  obtain ⟨o1, hc, hf⟩ := zs_bind hf
  refine zs_V (q := (RX0, TX0, 12)) (ci := 0) (q0 := 0) (b := a_T) (pc := 2) (As := [.int p1]) (rest := []) (st1 := [.int o1]) (wc := [(a_T, .inr (0, [.int v_T_number, .int v_T_enough, .int v_T_holders, .ref a_T_kinds, .ref a_T_extras, .ref a_T_factors, .int v_T_day, .int v_T_tries, .int v_T_shut, .ref a_T_told, .ref a_T_past, .int v_T_pastCount])), (a_T_factors, .inl (gI g, 3, .inl v_T_factors))]) (wr := [(a_T_kinds, .inl (gI g, 6, .inl v_T_kinds)), (a_T_extras, .inl (gI g, 6, .inl v_T_extras))]) (w1 := [(a_T, .inr (0, [.int v_T_number, .int v_T_enough, .int v_T_holders, .ref a_T_kinds, .ref a_T_extras, .ref a_T_factors, .int v_T_day, .int v_T_tries, .int v_T_shut, .ref a_T_told, .ref a_T_past, .int v_T_pastCount])), (a_T_factors, .inl (gI g, 3, .inl v_T_factors))]) (w2 := [(a_T, .inr (0, [.int v_T_number, .int v_T_enough, .int v_T_holders, .ref a_T_kinds, .ref a_T_extras, .ref a_T_factors, .int v_T_day, .int v_T_tries, .int v_T_shut, .ref a_T_told, .ref a_T_past, .int v_T_pastCount])), (a_T_kinds, .inl (gI g, 6, .inl v_T_kinds)), (a_T_extras, .inl (gI g, 6, .inl v_T_extras)), (a_T_factors, .inl (gI g, 3, .inl v_T_factors))]) (ov := some (.int o1)) lb_X0_shareOf lk_X0_84 hX hB hM hO hT hE hP hD hS hA (c_X0_shareOf l g _ a_T a_T_kinds a_T_extras a_T_told a_T_past a_T_factors v_T_number v_T_enough v_T_holders v_T_day v_T_tries v_T_shut v_T_pastCount v_T_factors p1 o1 hc) ⟨rfl, rfl⟩ ⟨Nat.le_of_ble_eq_true rfl, Nat.le_of_ble_eq_true rfl⟩ rfl rfl [0, 3] [1, 2] [2, 0, 1, 3] rfl rfl rfl rfl (by decide) rfl rfl rfl rfl hl.1 (Nat.le_of_ble_eq_true rfl) ⟨Nat.zero_le _, Nat.zero_le _⟩ rfl dX0_wordOf_2 (fun H locs hP hD hS => ?_)
  refine lv_istore (pc := 5) (lv' := [(4, .int o1), (0, .ref a_T), (1, .int p1), (2, .int p2), (3, .int p3)]) hX hB dX0_wordOf_5 hl (by decide) rfl (fun ls hl => ?_)
  refine lv_aload_n (pc := 7) hX hB dX0_wordOf_7 rfl (lv_at hl 1 rfl) ?_
  refine lv_iload_n (pc := 8) hX hB dX0_wordOf_8 rfl (lv_at hl 2 rfl) ?_
  obtain ⟨o2, hc, hf⟩ := zs_bind hf
  refine zs_V (q := (RX0, TX0, 12)) (ci := 0) (q0 := 0) (b := a_T) (pc := 9) (As := [.int p1]) (rest := []) (st1 := [.int o2]) (wc := [(a_T, .inr (0, [.int v_T_number, .int v_T_enough, .int v_T_holders, .ref a_T_kinds, .ref a_T_extras, .ref a_T_factors, .int v_T_day, .int v_T_tries, .int v_T_shut, .ref a_T_told, .ref a_T_past, .int v_T_pastCount])), (a_T_extras, .inl (gI g, 6, .inl v_T_extras))]) (wr := [(a_T_kinds, .inl (gI g, 6, .inl v_T_kinds)), (a_T_factors, .inl (gI g, 3, .inl v_T_factors))]) (w1 := [(a_T, .inr (0, [.int v_T_number, .int v_T_enough, .int v_T_holders, .ref a_T_kinds, .ref a_T_extras, .ref a_T_factors, .int v_T_day, .int v_T_tries, .int v_T_shut, .ref a_T_told, .ref a_T_past, .int v_T_pastCount])), (a_T_extras, .inl (gI g, 6, .inl v_T_extras))]) (w2 := [(a_T, .inr (0, [.int v_T_number, .int v_T_enough, .int v_T_holders, .ref a_T_kinds, .ref a_T_extras, .ref a_T_factors, .int v_T_day, .int v_T_tries, .int v_T_shut, .ref a_T_told, .ref a_T_past, .int v_T_pastCount])), (a_T_kinds, .inl (gI g, 6, .inl v_T_kinds)), (a_T_extras, .inl (gI g, 6, .inl v_T_extras)), (a_T_factors, .inl (gI g, 3, .inl v_T_factors))]) (ov := some (.int o2)) lb_X0_extraOf lk_X0_87 hX hB hM hO hT hE hP hD hS hA (c_X0_extraOf l g _ a_T a_T_kinds a_T_factors a_T_told a_T_past a_T_extras v_T_number v_T_enough v_T_holders v_T_day v_T_tries v_T_shut v_T_pastCount v_T_extras p1 o2 hc) ⟨rfl, rfl⟩ ⟨Nat.le_of_ble_eq_true rfl, Nat.le_of_ble_eq_true rfl⟩ rfl rfl [0, 2] [1, 3] [2, 0, 3, 1] rfl rfl rfl rfl (by decide) rfl rfl rfl rfl hl.1 (Nat.le_of_ble_eq_true rfl) ⟨Nat.zero_le _, Nat.zero_le _⟩ rfl dX0_wordOf_9 (fun H locs hP hD hS => ?_)
  refine lv_istore (pc := 12) (lv' := [(5, .int o2), (4, .int o1), (0, .ref a_T), (1, .int p1), (2, .int p2), (3, .int p3)]) hX hB dX0_wordOf_12 hl (by decide) rfl (fun ls hl => ?_)
  refine lv_aload_n (pc := 14) hX hB dX0_wordOf_14 rfl (lv_at hl 2 rfl) ?_
  refine lv_iload_n (pc := 15) hX hB dX0_wordOf_15 rfl (lv_at hl 3 rfl) ?_
  obtain ⟨o3, hc, hf⟩ := zs_bind hf
  refine zs_V (q := (RX0, TX0, 12)) (ci := 0) (q0 := 0) (b := a_T) (pc := 16) (As := [.int p1]) (rest := []) (st1 := [.int o3]) (wc := [(a_T, .inr (0, [.int v_T_number, .int v_T_enough, .int v_T_holders, .ref a_T_kinds, .ref a_T_extras, .ref a_T_factors, .int v_T_day, .int v_T_tries, .int v_T_shut, .ref a_T_told, .ref a_T_past, .int v_T_pastCount])), (a_T_kinds, .inl (gI g, 6, .inl v_T_kinds))]) (wr := [(a_T_extras, .inl (gI g, 6, .inl v_T_extras)), (a_T_factors, .inl (gI g, 3, .inl v_T_factors))]) (w1 := [(a_T, .inr (0, [.int v_T_number, .int v_T_enough, .int v_T_holders, .ref a_T_kinds, .ref a_T_extras, .ref a_T_factors, .int v_T_day, .int v_T_tries, .int v_T_shut, .ref a_T_told, .ref a_T_past, .int v_T_pastCount])), (a_T_kinds, .inl (gI g, 6, .inl v_T_kinds))]) (w2 := [(a_T, .inr (0, [.int v_T_number, .int v_T_enough, .int v_T_holders, .ref a_T_kinds, .ref a_T_extras, .ref a_T_factors, .int v_T_day, .int v_T_tries, .int v_T_shut, .ref a_T_told, .ref a_T_past, .int v_T_pastCount])), (a_T_kinds, .inl (gI g, 6, .inl v_T_kinds)), (a_T_extras, .inl (gI g, 6, .inl v_T_extras)), (a_T_factors, .inl (gI g, 3, .inl v_T_factors))]) (ov := some (.int o3)) lb_X0_kindOf lk_X0_90 hX hB hM hO hT hE hP hD hS hA (c_X0_kindOf l g _ a_T a_T_extras a_T_factors a_T_told a_T_past a_T_kinds v_T_number v_T_enough v_T_holders v_T_day v_T_tries v_T_shut v_T_pastCount v_T_kinds p1 o3 hc) ⟨rfl, rfl⟩ ⟨Nat.le_of_ble_eq_true rfl, Nat.le_of_ble_eq_true rfl⟩ rfl rfl [0, 1] [2, 3] [2, 3, 0, 1] rfl rfl rfl rfl (by decide) rfl rfl rfl rfl hl.1 (Nat.le_of_ble_eq_true rfl) ⟨Nat.zero_le _, Nat.zero_le _⟩ rfl dX0_wordOf_16 (fun H locs hP hD hS => ?_)
  by_cases hq1 : o3 = 1
  · have hf := zs_ip hf hq1
    refine zs_tab (pc := 19) (tgt := 52) (k := 1) (off := 33) hX hB dX0_wordOf_19 hq1 (by decide) (by decide) (by decide) (by decide) ?_
    refine lv_iload (pc := 52) hX hB dX0_wordOf_52 (lv_at hl 0 rfl) ?_
    refine lv_iload_n (pc := 54) hX hB dX0_wordOf_54 rfl (lv_at hl 4 rfl) ?_
    obtain ⟨o4, hc, hf⟩ := zs_bind hf
    refine zs_S (pc := 55) (As := [.int o2, .int p2]) (rest := []) (st1 := [.int o4]) (wc := []) (wr := [(a_T, .inr (0, [.int v_T_number, .int v_T_enough, .int v_T_holders, .ref a_T_kinds, .ref a_T_extras, .ref a_T_factors, .int v_T_day, .int v_T_tries, .int v_T_shut, .ref a_T_told, .ref a_T_past, .int v_T_pastCount])), (a_T_kinds, .inl (gI g, 6, .inl v_T_kinds)), (a_T_extras, .inl (gI g, 6, .inl v_T_extras)), (a_T_factors, .inl (gI g, 3, .inl v_T_factors))]) (w1 := []) (w2 := [(a_T, .inr (0, [.int v_T_number, .int v_T_enough, .int v_T_holders, .ref a_T_kinds, .ref a_T_extras, .ref a_T_factors, .int v_T_day, .int v_T_tries, .int v_T_shut, .ref a_T_told, .ref a_T_past, .int v_T_pastCount])), (a_T_kinds, .inl (gI g, 6, .inl v_T_kinds)), (a_T_extras, .inl (gI g, 6, .inl v_T_extras)), (a_T_factors, .inl (gI g, 3, .inl v_T_factors))]) (ov := some (.int o4)) lb_X0_isForgotten lk_X0_93 hX hB hM hO hT hE hP hD hS hA (c_X0_isForgotten l g _ o2 p2 o4 hc) ⟨rfl, rfl⟩ ⟨Nat.le_of_ble_eq_true rfl, Nat.le_of_ble_eq_true rfl⟩ [] [0, 1, 2, 3] [0, 1, 2, 3] rfl rfl rfl rfl (by decide) rfl rfl rfl rfl hl.1 (Nat.le_of_ble_eq_true rfl) ⟨Nat.zero_le _, Nat.zero_le _⟩ rfl dX0_wordOf_55 (fun H locs hP hD hS => ?_)
    refine lv_if_eq (pc := 58) (tgt := 65) hX hB dX0_wordOf_58 (by decide) (fun hq => ?_) (fun hq => ?_)
    · have hf := zs_ip hf hq
      refine lv_iload (pc := 65) hX hB dX0_wordOf_65 (lv_at hl 1 rfl) ?_
      obtain rfl := Option.some.inj hf
      exact zs_iret (pc := 67) hX hB hR hK hP hD hS dX0_wordOf_67
    · have hf := zs_in hf hq
      refine lv_iconst (pc := 61) (v := -1) hX hB dX0_wordOf_61 (by decide) ?_
      refine lv_goto (pc := 62) (tgt := 67) hX hB dX0_wordOf_62 (by decide) ?_
      obtain rfl := Option.some.inj hf
      exact zs_iret (pc := 67) hX hB hR hK hP hD hS dX0_wordOf_67
  have hf := zs_in hf hq1
  by_cases hq2 : o3 = 2
  · have hf := zs_ip hf hq2
    refine zs_tab (pc := 19) (tgt := 68) (k := 2) (off := 49) hX hB dX0_wordOf_19 hq2 (by decide) (by decide) (by decide) (by decide) ?_
    refine lv_iload (pc := 68) hX hB dX0_wordOf_68 (lv_at hl 1 rfl) ?_
    refine lv_iload (pc := 70) hX hB dX0_wordOf_70 (lv_at hl 0 rfl) ?_
    refine lv_iadd (pc := 72) hX hB dX0_wordOf_72 ?_
    obtain ⟨o5, hc, hf⟩ := zs_bind hf
    refine zs_SN (pc := 73) (As := [.int (o1 + o2)]) (rest := []) (st1 := [.int o5]) (wc := []) (wr := [(a_T, .inr (0, [.int v_T_number, .int v_T_enough, .int v_T_holders, .ref a_T_kinds, .ref a_T_extras, .ref a_T_factors, .int v_T_day, .int v_T_tries, .int v_T_shut, .ref a_T_told, .ref a_T_past, .int v_T_pastCount])), (a_T_kinds, .inl (gI g, 6, .inl v_T_kinds)), (a_T_extras, .inl (gI g, 6, .inl v_T_extras)), (a_T_factors, .inl (gI g, 3, .inl v_T_factors))]) (w1 := []) (w2 := [(a_T, .inr (0, [.int v_T_number, .int v_T_enough, .int v_T_holders, .ref a_T_kinds, .ref a_T_extras, .ref a_T_factors, .int v_T_day, .int v_T_tries, .int v_T_shut, .ref a_T_told, .ref a_T_past, .int v_T_pastCount])), (a_T_kinds, .inl (gI g, 6, .inl v_T_kinds)), (a_T_extras, .inl (gI g, 6, .inl v_T_extras)), (a_T_factors, .inl (gI g, 3, .inl v_T_factors))]) (ov := some (.int o5)) lb_X3_leftOver lk_X0_81 hX hB hM hO hT hE hP hD hS hA (c_X3_leftOver l g _ (o1 + o2) o5 hc) ⟨rfl, rfl⟩ ⟨Nat.le_of_ble_eq_true rfl, Nat.le_of_ble_eq_true rfl⟩ [] [0, 1, 2, 3] [0, 1, 2, 3] rfl rfl rfl rfl (by decide) rfl rfl rfl rfl hl.1 (Nat.le_of_ble_eq_true rfl) ⟨Nat.zero_le _, Nat.zero_le _⟩ rfl dX0_wordOf_73 (fun H locs hP hD hS => ?_)
    obtain rfl := Option.some.inj hf
    exact zs_iret (pc := 76) hX hB hR hK hP hD hS dX0_wordOf_76
  have hf := zs_in hf hq2
  by_cases hq3 : o3 = 3
  · have hf := zs_ip hf hq3
    refine zs_tab (pc := 19) (tgt := 77) (k := 3) (off := 58) hX hB dX0_wordOf_19 hq3 (by decide) (by decide) (by decide) (by decide) ?_
    refine lv_iload_n (pc := 77) hX hB dX0_wordOf_77 rfl (lv_at hl 5 rfl) ?_
    refine lv_iconst (pc := 78) (v := 3) hX hB dX0_wordOf_78 (by decide) ?_
    refine lv_icmp_ge (pc := 79) (tgt := 93) hX hB dX0_wordOf_79 (by decide) (fun hq => ?_) (fun hq => ?_)
    · have hf := zs_ip hf hq
      refine lv_iload (pc := 93) hX hB dX0_wordOf_93 (lv_at hl 1 rfl) ?_
      obtain rfl := Option.some.inj hf
      exact zs_iret (pc := 95) hX hB hR hK hP hD hS dX0_wordOf_95
    · have hf := zs_in hf hq
      refine lv_iload (pc := 82) hX hB dX0_wordOf_82 (lv_at hl 1 rfl) ?_
      refine lv_iload (pc := 84) hX hB dX0_wordOf_84 (lv_at hl 0 rfl) ?_
      refine lv_iadd (pc := 86) hX hB dX0_wordOf_86 ?_
      obtain ⟨o6, hc, hf⟩ := zs_bind hf
      refine zs_SN (pc := 87) (As := [.int (o1 + o2)]) (rest := []) (st1 := [.int o6]) (wc := []) (wr := [(a_T, .inr (0, [.int v_T_number, .int v_T_enough, .int v_T_holders, .ref a_T_kinds, .ref a_T_extras, .ref a_T_factors, .int v_T_day, .int v_T_tries, .int v_T_shut, .ref a_T_told, .ref a_T_past, .int v_T_pastCount])), (a_T_kinds, .inl (gI g, 6, .inl v_T_kinds)), (a_T_extras, .inl (gI g, 6, .inl v_T_extras)), (a_T_factors, .inl (gI g, 3, .inl v_T_factors))]) (w1 := []) (w2 := [(a_T, .inr (0, [.int v_T_number, .int v_T_enough, .int v_T_holders, .ref a_T_kinds, .ref a_T_extras, .ref a_T_factors, .int v_T_day, .int v_T_tries, .int v_T_shut, .ref a_T_told, .ref a_T_past, .int v_T_pastCount])), (a_T_kinds, .inl (gI g, 6, .inl v_T_kinds)), (a_T_extras, .inl (gI g, 6, .inl v_T_extras)), (a_T_factors, .inl (gI g, 3, .inl v_T_factors))]) (ov := some (.int o6)) lb_X3_leftOver lk_X0_81 hX hB hM hO hT hE hP hD hS hA (c_X3_leftOver l g _ (o1 + o2) o6 hc) ⟨rfl, rfl⟩ ⟨Nat.le_of_ble_eq_true rfl, Nat.le_of_ble_eq_true rfl⟩ [] [0, 1, 2, 3] [0, 1, 2, 3] rfl rfl rfl rfl (by decide) rfl rfl rfl rfl hl.1 (Nat.le_of_ble_eq_true rfl) ⟨Nat.zero_le _, Nat.zero_le _⟩ rfl dX0_wordOf_87 (fun H locs hP hD hS => ?_)
      refine lv_goto (pc := 90) (tgt := 95) hX hB dX0_wordOf_90 (by decide) ?_
      obtain rfl := Option.some.inj hf
      exact zs_iret (pc := 95) hX hB hR hK hP hD hS dX0_wordOf_95
  have hf := zs_in hf hq3
  by_cases hq4 : o3 = 4
  · have hf := zs_ip hf hq4
    refine zs_tab (pc := 19) (tgt := 96) (k := 4) (off := 77) hX hB dX0_wordOf_19 hq4 (by decide) (by decide) (by decide) (by decide) ?_
    refine lv_iload (pc := 96) hX hB dX0_wordOf_96 (lv_at hl 0 rfl) ?_
    refine lv_iload_n (pc := 98) hX hB dX0_wordOf_98 rfl (lv_at hl 4 rfl) ?_
    obtain ⟨o7, hc, hf⟩ := zs_bind hf
    refine zs_S (pc := 99) (As := [.int o2, .int p2]) (rest := []) (st1 := [.int o7]) (wc := []) (wr := [(a_T, .inr (0, [.int v_T_number, .int v_T_enough, .int v_T_holders, .ref a_T_kinds, .ref a_T_extras, .ref a_T_factors, .int v_T_day, .int v_T_tries, .int v_T_shut, .ref a_T_told, .ref a_T_past, .int v_T_pastCount])), (a_T_kinds, .inl (gI g, 6, .inl v_T_kinds)), (a_T_extras, .inl (gI g, 6, .inl v_T_extras)), (a_T_factors, .inl (gI g, 3, .inl v_T_factors))]) (w1 := []) (w2 := [(a_T, .inr (0, [.int v_T_number, .int v_T_enough, .int v_T_holders, .ref a_T_kinds, .ref a_T_extras, .ref a_T_factors, .int v_T_day, .int v_T_tries, .int v_T_shut, .ref a_T_told, .ref a_T_past, .int v_T_pastCount])), (a_T_kinds, .inl (gI g, 6, .inl v_T_kinds)), (a_T_extras, .inl (gI g, 6, .inl v_T_extras)), (a_T_factors, .inl (gI g, 3, .inl v_T_factors))]) (ov := some (.int o7)) lb_X0_isForgotten lk_X0_93 hX hB hM hO hT hE hP hD hS hA (c_X0_isForgotten l g _ o2 p2 o7 hc) ⟨rfl, rfl⟩ ⟨Nat.le_of_ble_eq_true rfl, Nat.le_of_ble_eq_true rfl⟩ [] [0, 1, 2, 3] [0, 1, 2, 3] rfl rfl rfl rfl (by decide) rfl rfl rfl rfl hl.1 (Nat.le_of_ble_eq_true rfl) ⟨Nat.zero_le _, Nat.zero_le _⟩ rfl dX0_wordOf_99 (fun H locs hP hD hS => ?_)
    refine lv_if_ne (pc := 102) (tgt := 111) hX hB dX0_wordOf_102 (by decide) (fun hq => ?_) (fun hq => ?_)
    · have hf := zs_in hf hq
      refine lv_iconst (pc := 111) (v := -1) hX hB dX0_wordOf_111 (by decide) ?_
      refine lv_goto (pc := 112) (tgt := 117) hX hB dX0_wordOf_112 (by decide) ?_
      obtain rfl := Option.some.inj hf
      exact zs_iret (pc := 117) hX hB hR hK hP hD hS dX0_wordOf_117
    · have hf := zs_ip hf hq
      refine lv_iload_n (pc := 105) hX hB dX0_wordOf_105 rfl (lv_at hl 4 rfl) ?_
      refine lv_iconst (pc := 106) (v := 2) hX hB dX0_wordOf_106 (by decide) ?_
      refine zs_irem (pc := 107) hX hB dX0_wordOf_107 (by decide) ?_
      refine lv_if_eq (pc := 108) (tgt := 115) hX hB dX0_wordOf_108 (by decide) (fun hq => ?_) (fun hq => ?_)
      · have hf := zs_ip hf hq
        refine lv_iload (pc := 115) hX hB dX0_wordOf_115 (lv_at hl 1 rfl) ?_
        obtain rfl := Option.some.inj hf
        exact zs_iret (pc := 117) hX hB hR hK hP hD hS dX0_wordOf_117
      · have hf := zs_in hf hq
        refine lv_iconst (pc := 111) (v := -1) hX hB dX0_wordOf_111 (by decide) ?_
        refine lv_goto (pc := 112) (tgt := 117) hX hB dX0_wordOf_112 (by decide) ?_
        obtain rfl := Option.some.inj hf
        exact zs_iret (pc := 117) hX hB hR hK hP hD hS dX0_wordOf_117
  have hf := zs_in hf hq4
  by_cases hq5 : o3 = 5
  · have hf := zs_ip hf hq5
    refine zs_tab (pc := 19) (tgt := 118) (k := 5) (off := 99) hX hB dX0_wordOf_19 hq5 (by decide) (by decide) (by decide) (by decide) ?_
    refine lv_iload (pc := 118) hX hB dX0_wordOf_118 (lv_at hl 1 rfl) ?_
    refine lv_iload (pc := 120) hX hB dX0_wordOf_120 (lv_at hl 0 rfl) ?_
    refine lv_iadd (pc := 122) hX hB dX0_wordOf_122 ?_
    refine lv_iload_n (pc := 123) hX hB dX0_wordOf_123 rfl (lv_at hl 4 rfl) ?_
    refine lv_iadd (pc := 124) hX hB dX0_wordOf_124 ?_
    obtain ⟨o8, hc, hf⟩ := zs_bind hf
    refine zs_SN (pc := 125) (As := [.int ((o1 + o2) + p2)]) (rest := []) (st1 := [.int o8]) (wc := []) (wr := [(a_T, .inr (0, [.int v_T_number, .int v_T_enough, .int v_T_holders, .ref a_T_kinds, .ref a_T_extras, .ref a_T_factors, .int v_T_day, .int v_T_tries, .int v_T_shut, .ref a_T_told, .ref a_T_past, .int v_T_pastCount])), (a_T_kinds, .inl (gI g, 6, .inl v_T_kinds)), (a_T_extras, .inl (gI g, 6, .inl v_T_extras)), (a_T_factors, .inl (gI g, 3, .inl v_T_factors))]) (w1 := []) (w2 := [(a_T, .inr (0, [.int v_T_number, .int v_T_enough, .int v_T_holders, .ref a_T_kinds, .ref a_T_extras, .ref a_T_factors, .int v_T_day, .int v_T_tries, .int v_T_shut, .ref a_T_told, .ref a_T_past, .int v_T_pastCount])), (a_T_kinds, .inl (gI g, 6, .inl v_T_kinds)), (a_T_extras, .inl (gI g, 6, .inl v_T_extras)), (a_T_factors, .inl (gI g, 3, .inl v_T_factors))]) (ov := some (.int o8)) lb_X3_leftOver lk_X0_81 hX hB hM hO hT hE hP hD hS hA (c_X3_leftOver l g _ ((o1 + o2) + p2) o8 hc) ⟨rfl, rfl⟩ ⟨Nat.le_of_ble_eq_true rfl, Nat.le_of_ble_eq_true rfl⟩ [] [0, 1, 2, 3] [0, 1, 2, 3] rfl rfl rfl rfl (by decide) rfl rfl rfl rfl hl.1 (Nat.le_of_ble_eq_true rfl) ⟨Nat.zero_le _, Nat.zero_le _⟩ rfl dX0_wordOf_125 (fun H locs hP hD hS => ?_)
    obtain rfl := Option.some.inj hf
    exact zs_iret (pc := 128) hX hB hR hK hP hD hS dX0_wordOf_128
  have hf := zs_in hf hq5
  refine lv_tableOut (pc := 19) (tgt := 129) hX hB dX0_wordOf_19 (by have zhq1 := lv_neT hq1 (a := 1) (by decide); have zhq2 := lv_neT hq2 (a := 2) (by decide); have zhq3 := lv_neT hq3 (a := 3) (by decide); have zhq4 := lv_neT hq4 (a := 4) (by decide); have zhq5 := lv_neT hq5 (a := 5) (by decide); omega) (by decide) ?_
  refine lv_iload (pc := 129) hX hB dX0_wordOf_129 (lv_at hl 1 rfl) ?_
  obtain rfl := Option.some.inj hf
  exact zs_iret (pc := 131) hX hB hR hK hP hD hS dX0_wordOf_131

def b_X0_collect_9 (v_T_number : Int32) (v_T_enough : Int32) (v_T_kinds : Nat → Int32) (v_T_extras : Nat → Int32) (v_T_factors : Nat → Int32) (p1 : Int32) (p2 : Int32) (o1 : Int32) (x2 : Int32 × (Nat → Int32)) : Option ((Int32 × (Nat → Int32)) ⊕ ((Nat → Int32))) :=
  if (6 : Int32) ≤ x2.1 then (some (Sum.inr x2.2)) else ((f_X3_isIn p1 x2.1).bind (fun o4 => (if o4 = (0 : Int32) then (some (-1 : Int32)) else ((f_X0_wordOf v_T_number v_T_enough v_T_kinds v_T_extras v_T_factors x2.1 p2 o1).bind (fun o7 => some o7))).bind (fun y5 => (f_X2_put x2.2 x2.1 y5).bind (fun o6 => some (Sum.inl (x2.1 + (1 : Int32), o6))))))
def f_X0_collect (v_T_number : Int32) (v_T_enough : Int32) (v_T_kinds : Nat → Int32) (v_T_extras : Nat → Int32) (v_T_factors : Nat → Int32) (v_P3_numbers : Nat → Int32) (p1 : Int32) (p2 : Int32) : Option ((Nat → Int32)) :=
  (f_J6_bitCount_0f7a4 p1).bind (fun o1 => (lp (b_X0_collect_9 v_T_number v_T_enough v_T_kinds v_T_extras v_T_factors p1 p2 o1) 200 ((0 : Int32), v_P3_numbers)).bind (fun y3 => some y3))
set_option maxHeartbeats 4000000 in
set_option maxRecDepth 100000 in
theorem c_X0_collect (l : Launch) (g : GG) (sz : Nat) (a_T a_T_told a_T_past a_T_kinds a_T_extras a_T_factors a_P3 a_P3_numbers : Nat) (v_T_number : Int32) (v_T_enough : Int32) (v_T_holders : Int32) (v_T_day : Int32) (v_T_tries : Int32) (v_T_shut : Int32) (v_T_pastCount : Int32) (v_T_kinds : Nat → Int32) (v_T_extras : Nat → Int32) (v_T_factors : Nat → Int32) (v_P3_numbers : Nat → Int32) (p1 : Int32) (p2 : Int32) (o : (Nat → Int32)) (hf : f_X0_collect v_T_number v_T_enough v_T_kinds v_T_extras v_T_factors v_P3_numbers p1 p2 = some o) : Met l yX0_collect (Cond.code yX0_collect cX0_collect 6 none :: TB) { frames := 3, cells := 0, slots := 0, locals := 69 } (Pst g [(a_T, .inr (0, [.int v_T_number, .int v_T_enough, .int v_T_holders, .ref a_T_kinds, .ref a_T_extras, .ref a_T_factors, .int v_T_day, .int v_T_tries, .int v_T_shut, .ref a_T_told, .ref a_T_past, .int v_T_pastCount])), (a_T_kinds, .inl (gI g, 6, .inl v_T_kinds)), (a_T_extras, .inl (gI g, 6, .inl v_T_extras)), (a_T_factors, .inl (gI g, 3, .inl v_T_factors)), (a_P3, .inr (2, [.ref a_P3_numbers])), (a_P3_numbers, .inl (gI g, 6, .inl v_P3_numbers))] [.ref a_T, .int p1, .int p2, .ref a_P3] sz) (Qst g [(a_T, .inr (0, [.int v_T_number, .int v_T_enough, .int v_T_holders, .ref a_T_kinds, .ref a_T_extras, .ref a_T_factors, .int v_T_day, .int v_T_tries, .int v_T_shut, .ref a_T_told, .ref a_T_past, .int v_T_pastCount])), (a_T_kinds, .inl (gI g, 6, .inl v_T_kinds)), (a_T_extras, .inl (gI g, 6, .inl v_T_extras)), (a_T_factors, .inl (gI g, 3, .inl v_T_factors)), (a_P3, .inr (2, [.ref a_P3_numbers])), (a_P3_numbers, .inl (gI g, 6, .inl o))] (none) (va_A [(a_T, .inr (0, [.int v_T_number, .int v_T_enough, .int v_T_holders, .ref a_T_kinds, .ref a_T_extras, .ref a_T_factors, .int v_T_day, .int v_T_tries, .int v_T_shut, .ref a_T_told, .ref a_T_past, .int v_T_pastCount])), (a_T_kinds, .inl (gI g, 6, .inl v_T_kinds)), (a_T_extras, .inl (gI g, 6, .inl v_T_extras)), (a_T_factors, .inl (gI g, 3, .inl v_T_factors)), (a_P3, .inr (2, [.ref a_P3_numbers])), (a_P3_numbers, .inl (gI g, 6, .inl v_P3_numbers))] sz)) 0 0 (va_A [(a_T, .inr (0, [.int v_T_number, .int v_T_enough, .int v_T_holders, .ref a_T_kinds, .ref a_T_extras, .ref a_T_factors, .int v_T_day, .int v_T_tries, .int v_T_shut, .ref a_T_told, .ref a_T_past, .int v_T_pastCount])), (a_T_kinds, .inl (gI g, 6, .inl v_T_kinds)), (a_T_extras, .inl (gI g, 6, .inl v_T_extras)), (a_T_factors, .inl (gI g, 3, .inl v_T_factors)), (a_P3, .inr (2, [.ref a_P3_numbers])), (a_P3_numbers, .inl (gI g, 6, .inl v_P3_numbers))] sz) := by
  unfold f_X0_collect at hf
  refine zs_met (own := RX0) (plainFor_of_name (by decide)) rfl (Nat.le_of_ble_eq_true rfl) ?_
  intro p e s m below meth c A ls hX hB hR hM hT hO hK hN hA hE hP hD hS hl
  have hl : lv_has ls 6 [(0, .ref a_T), (1, .int p1), (2, .int p2), (3, .ref a_P3)] := hl
  refine lv_iload_n (pc := 0) hX hB dX0_collect_0 rfl (lv_at hl 1 rfl) ?_
  obtain ⟨o1, hc, hf⟩ := zs_bind hf
  refine zs_S (pc := 1) (As := [.int p1]) (rest := []) (st1 := [.int o1]) (wc := []) (wr := [(a_T, .inr (0, [.int v_T_number, .int v_T_enough, .int v_T_holders, .ref a_T_kinds, .ref a_T_extras, .ref a_T_factors, .int v_T_day, .int v_T_tries, .int v_T_shut, .ref a_T_told, .ref a_T_past, .int v_T_pastCount])), (a_T_kinds, .inl (gI g, 6, .inl v_T_kinds)), (a_T_extras, .inl (gI g, 6, .inl v_T_extras)), (a_T_factors, .inl (gI g, 3, .inl v_T_factors)), (a_P3, .inr (2, [.ref a_P3_numbers])), (a_P3_numbers, .inl (gI g, 6, .inl v_P3_numbers))]) (w1 := []) (w2 := [(a_T, .inr (0, [.int v_T_number, .int v_T_enough, .int v_T_holders, .ref a_T_kinds, .ref a_T_extras, .ref a_T_factors, .int v_T_day, .int v_T_tries, .int v_T_shut, .ref a_T_told, .ref a_T_past, .int v_T_pastCount])), (a_T_kinds, .inl (gI g, 6, .inl v_T_kinds)), (a_T_extras, .inl (gI g, 6, .inl v_T_extras)), (a_T_factors, .inl (gI g, 3, .inl v_T_factors)), (a_P3, .inr (2, [.ref a_P3_numbers])), (a_P3_numbers, .inl (gI g, 6, .inl v_P3_numbers))]) (ov := some (.int o1)) lb_J6_bitCount_0f7a4 lk_X0_104 hX hB hM hO hT hE hP hD hS hA (c_J6_bitCount_0f7a4 l g _ p1 o1 hc) ⟨rfl, rfl⟩ ⟨Nat.le_of_ble_eq_true rfl, Nat.le_of_ble_eq_true rfl⟩ [] [0, 1, 2, 3, 4, 5] [0, 1, 2, 3, 4, 5] rfl rfl rfl rfl (by decide) rfl rfl rfl rfl hl.1 (Nat.le_of_ble_eq_true rfl) ⟨Nat.zero_le _, Nat.zero_le _⟩ rfl dX0_collect_1 (fun H locs hP hD hS => ?_)
  refine lv_istore (pc := 4) (lv' := [(4, .int o1), (0, .ref a_T), (1, .int p1), (2, .int p2), (3, .ref a_P3)]) hX hB dX0_collect_4 hl (by decide) rfl (fun ls hl => ?_)
  refine lv_iconst (pc := 6) (v := 0) hX hB dX0_collect_6 (by decide) ?_
  refine lv_istore (pc := 7) (lv' := [(5, .int (0 : Int32)), (4, .int o1), (0, .ref a_T), (1, .int p1), (2, .int p2), (3, .ref a_P3)]) hX hB dX0_collect_7 hl (by decide) rfl (fun ls hl => ?_)
  obtain ⟨y3, hj, hf⟩ := zs_bind hf
  refine zs_then (α := Unit) (fun _ H locs ls => CC g A s.heap 6 [(a_T, .inr (0, [.int v_T_number, .int v_T_enough, .int v_T_holders, .ref a_T_kinds, .ref a_T_extras, .ref a_T_factors, .int v_T_day, .int v_T_tries, .int v_T_shut, .ref a_T_told, .ref a_T_past, .int v_T_pastCount])), (a_T_kinds, .inl (gI g, 6, .inl v_T_kinds)), (a_T_extras, .inl (gI g, 6, .inl v_T_extras)), (a_T_factors, .inl (gI g, 3, .inl v_T_factors)), (a_P3, .inr (2, [.ref a_P3_numbers])), (a_P3_numbers, .inl (gI g, 6, .inl y3))] [] H locs ls) (fun _ ls => F0 m 50 ls []) (fun _ H locs ls hC => ?_) (fun X => ?_)
  · obtain ⟨hP, hD, hS, hl⟩ := hC
    obtain rfl := Option.some.inj hf
    exact zs_vret (pc := 50) hX hB hR hK hP hD hS dX0_collect_50
  · refine zs_loop (fun x2 H locs ls => CC g A s.heap 6 [(a_T, .inr (0, [.int v_T_number, .int v_T_enough, .int v_T_holders, .ref a_T_kinds, .ref a_T_extras, .ref a_T_factors, .int v_T_day, .int v_T_tries, .int v_T_shut, .ref a_T_told, .ref a_T_past, .int v_T_pastCount])), (a_T_kinds, .inl (gI g, 6, .inl v_T_kinds)), (a_T_extras, .inl (gI g, 6, .inl v_T_extras)), (a_T_factors, .inl (gI g, 3, .inl v_T_factors)), (a_P3, .inr (2, [.ref a_P3_numbers])), (a_P3_numbers, .inl (gI g, 6, .inl x2.2))] [(0, .ref a_T), (1, .int p1), (2, .int p2), (3, .ref a_P3), (4, .int o1), (5, .int x2.1)] H locs ls) hj (fun n x2 q hf hr ih H locs ls hC => ?_) ⟨hP, hD, hS, lv_sub hl [2, 3, 4, 5, 1, 0] rfl⟩
    obtain ⟨hP, hD, hS, hl⟩ := hC
    unfold b_X0_collect_9 at hf
    refine lv_iload (pc := 9) hX hB dX0_collect_9 (lv_at hl 5 rfl) ?_
    refine lv_bipush (pc := 11) (v := 6) hX hB dX0_collect_11 (by decide) ?_
    refine lv_icmp_ge (pc := 13) (tgt := 50) hX hB dX0_collect_13 (by decide) (fun hq => ?_) (fun hq => ?_)
    · have hf := zs_ip hf hq
      obtain rfl := Option.some.inj hf
      obtain rfl := hr
      exact X () _ _ _ ⟨hP, hD, hS, lv_sub hl [] rfl⟩
    · have hf := zs_in hf hq
      refine lv_aload_n (pc := 16) hX hB dX0_collect_16 rfl (lv_at hl 3 rfl) ?_
      refine lv_iload (pc := 17) hX hB dX0_collect_17 (lv_at hl 5 rfl) ?_
      refine lv_iload_n (pc := 19) hX hB dX0_collect_19 rfl (lv_at hl 1 rfl) ?_
      refine lv_iload (pc := 20) hX hB dX0_collect_20 (lv_at hl 5 rfl) ?_
      obtain ⟨o4, hc, hf⟩ := zs_bind hf
      refine zs_SN (pc := 22) (As := [.int p1, .int x2.1]) (rest := [.int x2.1, .ref a_P3]) (st1 := [.int o4, .int x2.1, .ref a_P3]) (wc := []) (wr := [(a_T, .inr (0, [.int v_T_number, .int v_T_enough, .int v_T_holders, .ref a_T_kinds, .ref a_T_extras, .ref a_T_factors, .int v_T_day, .int v_T_tries, .int v_T_shut, .ref a_T_told, .ref a_T_past, .int v_T_pastCount])), (a_T_kinds, .inl (gI g, 6, .inl v_T_kinds)), (a_T_extras, .inl (gI g, 6, .inl v_T_extras)), (a_T_factors, .inl (gI g, 3, .inl v_T_factors)), (a_P3, .inr (2, [.ref a_P3_numbers])), (a_P3_numbers, .inl (gI g, 6, .inl x2.2))]) (w1 := []) (w2 := [(a_T, .inr (0, [.int v_T_number, .int v_T_enough, .int v_T_holders, .ref a_T_kinds, .ref a_T_extras, .ref a_T_factors, .int v_T_day, .int v_T_tries, .int v_T_shut, .ref a_T_told, .ref a_T_past, .int v_T_pastCount])), (a_T_kinds, .inl (gI g, 6, .inl v_T_kinds)), (a_T_extras, .inl (gI g, 6, .inl v_T_extras)), (a_T_factors, .inl (gI g, 3, .inl v_T_factors)), (a_P3, .inr (2, [.ref a_P3_numbers])), (a_P3_numbers, .inl (gI g, 6, .inl x2.2))]) (ov := some (.int o4)) lb_X3_isIn lk_X0_97 hX hB hM hO hT hE hP hD hS hA (c_X3_isIn l g _ p1 x2.1 o4 hc) ⟨rfl, rfl⟩ ⟨Nat.le_of_ble_eq_true rfl, Nat.le_of_ble_eq_true rfl⟩ [] [0, 1, 2, 3, 4, 5] [0, 1, 2, 3, 4, 5] rfl rfl rfl rfl (by decide) rfl rfl rfl rfl hl.1 (Nat.le_of_ble_eq_true rfl) ⟨Nat.zero_le _, Nat.zero_le _⟩ rfl dX0_collect_22 (fun H locs hP hD hS => ?_)
      obtain ⟨y5, hj, hf⟩ := zs_bind hf
      refine zs_then (α := Unit) (fun _ H locs ls => CC g A s.heap 6 [(a_T, .inr (0, [.int v_T_number, .int v_T_enough, .int v_T_holders, .ref a_T_kinds, .ref a_T_extras, .ref a_T_factors, .int v_T_day, .int v_T_tries, .int v_T_shut, .ref a_T_told, .ref a_T_past, .int v_T_pastCount])), (a_T_kinds, .inl (gI g, 6, .inl v_T_kinds)), (a_T_extras, .inl (gI g, 6, .inl v_T_extras)), (a_T_factors, .inl (gI g, 3, .inl v_T_factors)), (a_P3, .inr (2, [.ref a_P3_numbers])), (a_P3_numbers, .inl (gI g, 6, .inl x2.2))] [(0, .ref a_T), (1, .int p1), (2, .int p2), (3, .ref a_P3), (4, .int o1), (5, .int x2.1)] H locs ls) (fun _ ls => F0 m 41 ls [.int y5, .int x2.1, .ref a_P3]) (fun _ H locs ls hC => ?_) (fun X => ?_)
      · obtain ⟨hP, hD, hS, hl⟩ := hC
        obtain ⟨o6, hc, hf⟩ := zs_bind hf
        refine zs_V (q := (RX2, TX2, 1)) (ci := 2) (q0 := 4) (b := a_P3) (pc := 41) (As := [.int x2.1, .int y5]) (rest := []) (st1 := []) (wc := [(a_P3, .inr (2, [.ref a_P3_numbers])), (a_P3_numbers, .inl (gI g, 6, .inl x2.2))]) (wr := [(a_T, .inr (0, [.int v_T_number, .int v_T_enough, .int v_T_holders, .ref a_T_kinds, .ref a_T_extras, .ref a_T_factors, .int v_T_day, .int v_T_tries, .int v_T_shut, .ref a_T_told, .ref a_T_past, .int v_T_pastCount])), (a_T_kinds, .inl (gI g, 6, .inl v_T_kinds)), (a_T_extras, .inl (gI g, 6, .inl v_T_extras)), (a_T_factors, .inl (gI g, 3, .inl v_T_factors))]) (w1 := [(a_P3, .inr (2, [.ref a_P3_numbers])), (a_P3_numbers, .inl (gI g, 6, .inl o6))]) (w2 := [(a_T, .inr (0, [.int v_T_number, .int v_T_enough, .int v_T_holders, .ref a_T_kinds, .ref a_T_extras, .ref a_T_factors, .int v_T_day, .int v_T_tries, .int v_T_shut, .ref a_T_told, .ref a_T_past, .int v_T_pastCount])), (a_T_kinds, .inl (gI g, 6, .inl v_T_kinds)), (a_T_extras, .inl (gI g, 6, .inl v_T_extras)), (a_T_factors, .inl (gI g, 3, .inl v_T_factors)), (a_P3, .inr (2, [.ref a_P3_numbers])), (a_P3_numbers, .inl (gI g, 6, .inl o6))]) (ov := none) lb_X2_put lk_X0_100 hX hB hM hO hT hE hP hD hS hA (c_X2_put l g _ a_P3 a_P3_numbers x2.2 x2.1 y5 o6 hc) ⟨rfl, rfl⟩ ⟨Nat.le_of_ble_eq_true rfl, Nat.le_of_ble_eq_true rfl⟩ rfl rfl [4, 5] [0, 1, 2, 3] [0, 1, 2, 3, 4, 5] rfl rfl rfl rfl (by decide) rfl rfl rfl rfl hl.1 (Nat.le_of_ble_eq_true rfl) ⟨Nat.zero_le _, Nat.zero_le _⟩ rfl dX0_collect_41 (fun H locs hP hD hS => ?_)
        refine lv_iinc (pc := 44) (v := x2.1 + (1 : Int32)) (lv' := [(5, .int (x2.1 + (1 : Int32))), (0, .ref a_T), (1, .int p1), (2, .int p2), (3, .ref a_P3), (4, .int o1)]) hX hB dX0_collect_44 hl (k := 5) rfl rfl (by decide) rfl (fun ls hl => ?_)
        refine lv_goto (pc := 47) (tgt := 9) hX hB dX0_collect_47 (by decide) ?_
        obtain rfl := Option.some.inj hf
        exact ih _ hr _ _ _ ⟨hP, hD, hS, lv_sub hl [1, 2, 3, 4, 5, 0] rfl⟩
      · have hf := hj
        refine lv_if_eq (pc := 25) (tgt := 40) hX hB dX0_collect_25 (by decide) (fun hq => ?_) (fun hq => ?_)
        · have hf := zs_ip hf hq
          refine lv_iconst (pc := 40) (v := -1) hX hB dX0_collect_40 (by decide) ?_
          obtain rfl := Option.some.inj hf
          exact X () _ _ _ ⟨hP, hD, hS, lv_sub hl [0, 1, 2, 3, 4, 5] rfl⟩
        · have hf := zs_in hf hq
          refine lv_aload_n (pc := 28) hX hB dX0_collect_28 rfl (lv_at hl 0 rfl) ?_
          refine lv_iload (pc := 29) hX hB dX0_collect_29 (lv_at hl 5 rfl) ?_
          refine lv_iload_n (pc := 31) hX hB dX0_collect_31 rfl (lv_at hl 2 rfl) ?_
          refine lv_iload (pc := 32) hX hB dX0_collect_32 (lv_at hl 4 rfl) ?_
          obtain ⟨o7, hc, hf⟩ := zs_bind hf
          refine zs_V (q := (RX0, TX0, 12)) (ci := 0) (q0 := 0) (b := a_T) (pc := 34) (As := [.int x2.1, .int p2, .int o1]) (rest := [.int x2.1, .ref a_P3]) (st1 := [.int o7, .int x2.1, .ref a_P3]) (wc := [(a_T, .inr (0, [.int v_T_number, .int v_T_enough, .int v_T_holders, .ref a_T_kinds, .ref a_T_extras, .ref a_T_factors, .int v_T_day, .int v_T_tries, .int v_T_shut, .ref a_T_told, .ref a_T_past, .int v_T_pastCount])), (a_T_kinds, .inl (gI g, 6, .inl v_T_kinds)), (a_T_extras, .inl (gI g, 6, .inl v_T_extras)), (a_T_factors, .inl (gI g, 3, .inl v_T_factors))]) (wr := [(a_P3, .inr (2, [.ref a_P3_numbers])), (a_P3_numbers, .inl (gI g, 6, .inl x2.2))]) (w1 := [(a_T, .inr (0, [.int v_T_number, .int v_T_enough, .int v_T_holders, .ref a_T_kinds, .ref a_T_extras, .ref a_T_factors, .int v_T_day, .int v_T_tries, .int v_T_shut, .ref a_T_told, .ref a_T_past, .int v_T_pastCount])), (a_T_kinds, .inl (gI g, 6, .inl v_T_kinds)), (a_T_extras, .inl (gI g, 6, .inl v_T_extras)), (a_T_factors, .inl (gI g, 3, .inl v_T_factors))]) (w2 := [(a_T, .inr (0, [.int v_T_number, .int v_T_enough, .int v_T_holders, .ref a_T_kinds, .ref a_T_extras, .ref a_T_factors, .int v_T_day, .int v_T_tries, .int v_T_shut, .ref a_T_told, .ref a_T_past, .int v_T_pastCount])), (a_T_kinds, .inl (gI g, 6, .inl v_T_kinds)), (a_T_extras, .inl (gI g, 6, .inl v_T_extras)), (a_T_factors, .inl (gI g, 3, .inl v_T_factors)), (a_P3, .inr (2, [.ref a_P3_numbers])), (a_P3_numbers, .inl (gI g, 6, .inl x2.2))]) (ov := some (.int o7)) lb_X0_wordOf lk_X0_109 hX hB hM hO hT hE hP hD hS hA (c_X0_wordOf l g _ a_T a_T_told a_T_past a_T_kinds a_T_extras a_T_factors v_T_number v_T_enough v_T_holders v_T_day v_T_tries v_T_shut v_T_pastCount v_T_kinds v_T_extras v_T_factors x2.1 p2 o1 o7 hc) ⟨rfl, rfl⟩ ⟨Nat.le_of_ble_eq_true rfl, Nat.le_of_ble_eq_true rfl⟩ rfl rfl [0, 1, 2, 3] [4, 5] [2, 3, 4, 5, 0, 1] rfl rfl rfl rfl (by decide) rfl rfl rfl rfl hl.1 (Nat.le_of_ble_eq_true rfl) ⟨Nat.zero_le _, Nat.zero_le _⟩ rfl dX0_collect_34 (fun H locs hP hD hS => ?_)
          refine lv_goto (pc := 37) (tgt := 41) hX hB dX0_collect_37 (by decide) ?_
          obtain rfl := Option.some.inj hf
          exact X () _ _ _ ⟨hP, hD, hS, lv_sub hl [0, 1, 2, 3, 4, 5] rfl⟩

def f_X0_copyFrom (v_T_number : Int32) (v_T_enough : Int32) (v_T_holders : Int32) (v_T_day : Int32) (v_T_tries : Int32) (v_T_shut : Int32) (v_T_pastCount : Int32) (v_T_kinds : Nat → Int32) (v_T_extras : Nat → Int32) (v_T_factors : Nat → Int32) (v_T_told_numbers : Nat → Int32) (v_T_past : Nat → Int32) (v_P1_number : Int32) (v_P1_enough : Int32) (v_P1_holders : Int32) (v_P1_day : Int32) (v_P1_tries : Int32) (v_P1_shut : Int32) (v_P1_pastCount : Int32) (v_P1_kinds : Nat → Int32) (v_P1_extras : Nat → Int32) (v_P1_factors : Nat → Int32) (v_P1_told_numbers : Nat → Int32) (v_P1_past : Nat → Int32) : Option (Int32 × Int32 × Int32 × Int32 × Int32 × Int32 × Int32 × (Nat → Int32) × (Nat → Int32) × (Nat → Int32) × (Nat → Int32) × (Nat → Int32)) :=
  gd (decide (¬ (0 : Int32) < 0 ∧ ¬ (0 : Int32) < 0 ∧ ¬ (6 : Int32) < 0 ∧ (0 : Int32).toNatClampNeg + (6 : Int32).toNatClampNeg ≤ 6 ∧ (0 : Int32).toNatClampNeg + (6 : Int32).toNatClampNeg ≤ 6)) (gd (decide (¬ (0 : Int32) < 0 ∧ ¬ (0 : Int32) < 0 ∧ ¬ (6 : Int32) < 0 ∧ (0 : Int32).toNatClampNeg + (6 : Int32).toNatClampNeg ≤ 6 ∧ (0 : Int32).toNatClampNeg + (6 : Int32).toNatClampNeg ≤ 6)) (gd (decide (¬ (0 : Int32) < 0 ∧ ¬ (0 : Int32) < 0 ∧ ¬ (3 : Int32) < 0 ∧ (0 : Int32).toNatClampNeg + (3 : Int32).toNatClampNeg ≤ 3 ∧ (0 : Int32).toNatClampNeg + (3 : Int32).toNatClampNeg ≤ 3)) (gd (bz v_P1_shut) ((f_X2_copyWithout v_T_told_numbers v_P1_told_numbers (0 : Int32)).bind (fun o1 => gd (decide (¬ (0 : Int32) < 0 ∧ ¬ (0 : Int32) < 0 ∧ ¬ (48 : Int32) < 0 ∧ (0 : Int32).toNatClampNeg + (48 : Int32).toNatClampNeg ≤ 48 ∧ (0 : Int32).toNatClampNeg + (48 : Int32).toNatClampNeg ≤ 48)) (some (v_P1_number, v_P1_enough, v_P1_holders, v_P1_day, v_P1_tries, v_P1_shut, v_P1_pastCount, va_cpy v_P1_kinds v_T_kinds (0 : Int32).toNatClampNeg (0 : Int32).toNatClampNeg (6 : Int32).toNatClampNeg, va_cpy v_P1_extras v_T_extras (0 : Int32).toNatClampNeg (0 : Int32).toNatClampNeg (6 : Int32).toNatClampNeg, va_cpy v_P1_factors v_T_factors (0 : Int32).toNatClampNeg (0 : Int32).toNatClampNeg (3 : Int32).toNatClampNeg, o1, va_cpy v_P1_past v_T_past (0 : Int32).toNatClampNeg (0 : Int32).toNatClampNeg (48 : Int32).toNatClampNeg)))))))
set_option maxHeartbeats 4000000 in
set_option maxRecDepth 100000 in
theorem c_X0_copyFrom (l : Launch) (g : GG) (sz : Nat) (a_T a_T_kinds a_T_extras a_T_factors a_T_told a_T_told_numbers a_T_past a_P1 a_P1_kinds a_P1_extras a_P1_factors a_P1_told a_P1_told_numbers a_P1_past : Nat) (v_T_number : Int32) (v_T_enough : Int32) (v_T_holders : Int32) (v_T_day : Int32) (v_T_tries : Int32) (v_T_shut : Int32) (v_T_pastCount : Int32) (v_T_kinds : Nat → Int32) (v_T_extras : Nat → Int32) (v_T_factors : Nat → Int32) (v_T_told_numbers : Nat → Int32) (v_T_past : Nat → Int32) (v_P1_number : Int32) (v_P1_enough : Int32) (v_P1_holders : Int32) (v_P1_day : Int32) (v_P1_tries : Int32) (v_P1_shut : Int32) (v_P1_pastCount : Int32) (v_P1_kinds : Nat → Int32) (v_P1_extras : Nat → Int32) (v_P1_factors : Nat → Int32) (v_P1_told_numbers : Nat → Int32) (v_P1_past : Nat → Int32) (o : Int32 × Int32 × Int32 × Int32 × Int32 × Int32 × Int32 × (Nat → Int32) × (Nat → Int32) × (Nat → Int32) × (Nat → Int32) × (Nat → Int32)) (hf : f_X0_copyFrom v_T_number v_T_enough v_T_holders v_T_day v_T_tries v_T_shut v_T_pastCount v_T_kinds v_T_extras v_T_factors v_T_told_numbers v_T_past v_P1_number v_P1_enough v_P1_holders v_P1_day v_P1_tries v_P1_shut v_P1_pastCount v_P1_kinds v_P1_extras v_P1_factors v_P1_told_numbers v_P1_past = some o) : Met l yX0_copyFrom (Cond.code yX0_copyFrom cX0_copyFrom 2 none :: TB) { frames := 2, cells := 0, slots := 0, locals := 44 } (Pst g [(a_T, .inr (0, [.int v_T_number, .int v_T_enough, .int v_T_holders, .ref a_T_kinds, .ref a_T_extras, .ref a_T_factors, .int v_T_day, .int v_T_tries, .int v_T_shut, .ref a_T_told, .ref a_T_past, .int v_T_pastCount])), (a_T_kinds, .inl (gI g, 6, .inl v_T_kinds)), (a_T_extras, .inl (gI g, 6, .inl v_T_extras)), (a_T_factors, .inl (gI g, 3, .inl v_T_factors)), (a_T_told, .inr (2, [.ref a_T_told_numbers])), (a_T_told_numbers, .inl (gI g, 6, .inl v_T_told_numbers)), (a_T_past, .inl (gI g, 48, .inl v_T_past)), (a_P1, .inr (0, [.int v_P1_number, .int v_P1_enough, .int v_P1_holders, .ref a_P1_kinds, .ref a_P1_extras, .ref a_P1_factors, .int v_P1_day, .int v_P1_tries, .int v_P1_shut, .ref a_P1_told, .ref a_P1_past, .int v_P1_pastCount])), (a_P1_kinds, .inl (gI g, 6, .inl v_P1_kinds)), (a_P1_extras, .inl (gI g, 6, .inl v_P1_extras)), (a_P1_factors, .inl (gI g, 3, .inl v_P1_factors)), (a_P1_told, .inr (2, [.ref a_P1_told_numbers])), (a_P1_told_numbers, .inl (gI g, 6, .inl v_P1_told_numbers)), (a_P1_past, .inl (gI g, 48, .inl v_P1_past))] [.ref a_T, .ref a_P1] sz) (Qst g [(a_T, .inr (0, [.int o.1, .int o.2.1, .int o.2.2.1, .ref a_T_kinds, .ref a_T_extras, .ref a_T_factors, .int o.2.2.2.1, .int o.2.2.2.2.1, .int o.2.2.2.2.2.1, .ref a_T_told, .ref a_T_past, .int o.2.2.2.2.2.2.1])), (a_T_kinds, .inl (gI g, 6, .inl o.2.2.2.2.2.2.2.1)), (a_T_extras, .inl (gI g, 6, .inl o.2.2.2.2.2.2.2.2.1)), (a_T_factors, .inl (gI g, 3, .inl o.2.2.2.2.2.2.2.2.2.1)), (a_T_told, .inr (2, [.ref a_T_told_numbers])), (a_T_told_numbers, .inl (gI g, 6, .inl o.2.2.2.2.2.2.2.2.2.2.1)), (a_T_past, .inl (gI g, 48, .inl o.2.2.2.2.2.2.2.2.2.2.2)), (a_P1, .inr (0, [.int v_P1_number, .int v_P1_enough, .int v_P1_holders, .ref a_P1_kinds, .ref a_P1_extras, .ref a_P1_factors, .int v_P1_day, .int v_P1_tries, .int v_P1_shut, .ref a_P1_told, .ref a_P1_past, .int v_P1_pastCount])), (a_P1_kinds, .inl (gI g, 6, .inl v_P1_kinds)), (a_P1_extras, .inl (gI g, 6, .inl v_P1_extras)), (a_P1_factors, .inl (gI g, 3, .inl v_P1_factors)), (a_P1_told, .inr (2, [.ref a_P1_told_numbers])), (a_P1_told_numbers, .inl (gI g, 6, .inl v_P1_told_numbers)), (a_P1_past, .inl (gI g, 48, .inl v_P1_past))] (none) (va_A [(a_T, .inr (0, [.int v_T_number, .int v_T_enough, .int v_T_holders, .ref a_T_kinds, .ref a_T_extras, .ref a_T_factors, .int v_T_day, .int v_T_tries, .int v_T_shut, .ref a_T_told, .ref a_T_past, .int v_T_pastCount])), (a_T_kinds, .inl (gI g, 6, .inl v_T_kinds)), (a_T_extras, .inl (gI g, 6, .inl v_T_extras)), (a_T_factors, .inl (gI g, 3, .inl v_T_factors)), (a_T_told, .inr (2, [.ref a_T_told_numbers])), (a_T_told_numbers, .inl (gI g, 6, .inl v_T_told_numbers)), (a_T_past, .inl (gI g, 48, .inl v_T_past)), (a_P1, .inr (0, [.int v_P1_number, .int v_P1_enough, .int v_P1_holders, .ref a_P1_kinds, .ref a_P1_extras, .ref a_P1_factors, .int v_P1_day, .int v_P1_tries, .int v_P1_shut, .ref a_P1_told, .ref a_P1_past, .int v_P1_pastCount])), (a_P1_kinds, .inl (gI g, 6, .inl v_P1_kinds)), (a_P1_extras, .inl (gI g, 6, .inl v_P1_extras)), (a_P1_factors, .inl (gI g, 3, .inl v_P1_factors)), (a_P1_told, .inr (2, [.ref a_P1_told_numbers])), (a_P1_told_numbers, .inl (gI g, 6, .inl v_P1_told_numbers)), (a_P1_past, .inl (gI g, 48, .inl v_P1_past))] sz)) 0 0 (va_A [(a_T, .inr (0, [.int v_T_number, .int v_T_enough, .int v_T_holders, .ref a_T_kinds, .ref a_T_extras, .ref a_T_factors, .int v_T_day, .int v_T_tries, .int v_T_shut, .ref a_T_told, .ref a_T_past, .int v_T_pastCount])), (a_T_kinds, .inl (gI g, 6, .inl v_T_kinds)), (a_T_extras, .inl (gI g, 6, .inl v_T_extras)), (a_T_factors, .inl (gI g, 3, .inl v_T_factors)), (a_T_told, .inr (2, [.ref a_T_told_numbers])), (a_T_told_numbers, .inl (gI g, 6, .inl v_T_told_numbers)), (a_T_past, .inl (gI g, 48, .inl v_T_past)), (a_P1, .inr (0, [.int v_P1_number, .int v_P1_enough, .int v_P1_holders, .ref a_P1_kinds, .ref a_P1_extras, .ref a_P1_factors, .int v_P1_day, .int v_P1_tries, .int v_P1_shut, .ref a_P1_told, .ref a_P1_past, .int v_P1_pastCount])), (a_P1_kinds, .inl (gI g, 6, .inl v_P1_kinds)), (a_P1_extras, .inl (gI g, 6, .inl v_P1_extras)), (a_P1_factors, .inl (gI g, 3, .inl v_P1_factors)), (a_P1_told, .inr (2, [.ref a_P1_told_numbers])), (a_P1_told_numbers, .inl (gI g, 6, .inl v_P1_told_numbers)), (a_P1_past, .inl (gI g, 48, .inl v_P1_past))] sz) := by
  unfold f_X0_copyFrom at hf
  refine zs_met (own := RX0) (plainFor_of_name (by decide)) rfl (Nat.le_of_ble_eq_true rfl) ?_
  intro p e s m below meth c A ls hX hB hR hM hT hO hK hN hA hE hP hD hS hl
  have hl : lv_has ls 2 [(0, .ref a_T), (1, .ref a_P1)] := hl
  refine lv_aload_n (pc := 0) hX hB dX0_copyFrom_0 rfl (lv_at hl 0 rfl) ?_
  refine lv_aload_n (pc := 1) hX hB dX0_copyFrom_1 rfl (lv_at hl 1 rfl) ?_
  refine gf_X0_9 (pc := 2) (v := .int v_P1_number) hX hB hT hO hE hP 7 rfl rfl dX0_copyFrom_2 ?_
  refine pf_X0_9 (pc := 5) (x := v_P1_number) (w2 := [(a_T, .inr (0, [.int v_P1_number, .int v_T_enough, .int v_T_holders, .ref a_T_kinds, .ref a_T_extras, .ref a_T_factors, .int v_T_day, .int v_T_tries, .int v_T_shut, .ref a_T_told, .ref a_T_past, .int v_T_pastCount])), (a_T_kinds, .inl (gI g, 6, .inl v_T_kinds)), (a_T_extras, .inl (gI g, 6, .inl v_T_extras)), (a_T_factors, .inl (gI g, 3, .inl v_T_factors)), (a_T_told, .inr (2, [.ref a_T_told_numbers])), (a_T_told_numbers, .inl (gI g, 6, .inl v_T_told_numbers)), (a_T_past, .inl (gI g, 48, .inl v_T_past)), (a_P1, .inr (0, [.int v_P1_number, .int v_P1_enough, .int v_P1_holders, .ref a_P1_kinds, .ref a_P1_extras, .ref a_P1_factors, .int v_P1_day, .int v_P1_tries, .int v_P1_shut, .ref a_P1_told, .ref a_P1_past, .int v_P1_pastCount])), (a_P1_kinds, .inl (gI g, 6, .inl v_P1_kinds)), (a_P1_extras, .inl (gI g, 6, .inl v_P1_extras)), (a_P1_factors, .inl (gI g, 3, .inl v_P1_factors)), (a_P1_told, .inr (2, [.ref a_P1_told_numbers])), (a_P1_told_numbers, .inl (gI g, 6, .inl v_P1_told_numbers)), (a_P1_past, .inl (gI g, 48, .inl v_P1_past))]) hX hB hT hO hE hP hD hS 0 rfl (Nat.le_of_ble_eq_true rfl) rfl dX0_copyFrom_5 (fun H locs hP hD hS => ?_)
  refine lv_aload_n (pc := 8) hX hB dX0_copyFrom_8 rfl (lv_at hl 0 rfl) ?_
  refine lv_aload_n (pc := 9) hX hB dX0_copyFrom_9 rfl (lv_at hl 1 rfl) ?_
  refine gf_X0_15 (pc := 10) (v := .int v_P1_enough) hX hB hT hO hE hP 7 rfl rfl dX0_copyFrom_10 ?_
  refine pf_X0_15 (pc := 13) (x := v_P1_enough) (w2 := [(a_T, .inr (0, [.int v_P1_number, .int v_P1_enough, .int v_T_holders, .ref a_T_kinds, .ref a_T_extras, .ref a_T_factors, .int v_T_day, .int v_T_tries, .int v_T_shut, .ref a_T_told, .ref a_T_past, .int v_T_pastCount])), (a_T_kinds, .inl (gI g, 6, .inl v_T_kinds)), (a_T_extras, .inl (gI g, 6, .inl v_T_extras)), (a_T_factors, .inl (gI g, 3, .inl v_T_factors)), (a_T_told, .inr (2, [.ref a_T_told_numbers])), (a_T_told_numbers, .inl (gI g, 6, .inl v_T_told_numbers)), (a_T_past, .inl (gI g, 48, .inl v_T_past)), (a_P1, .inr (0, [.int v_P1_number, .int v_P1_enough, .int v_P1_holders, .ref a_P1_kinds, .ref a_P1_extras, .ref a_P1_factors, .int v_P1_day, .int v_P1_tries, .int v_P1_shut, .ref a_P1_told, .ref a_P1_past, .int v_P1_pastCount])), (a_P1_kinds, .inl (gI g, 6, .inl v_P1_kinds)), (a_P1_extras, .inl (gI g, 6, .inl v_P1_extras)), (a_P1_factors, .inl (gI g, 3, .inl v_P1_factors)), (a_P1_told, .inr (2, [.ref a_P1_told_numbers])), (a_P1_told_numbers, .inl (gI g, 6, .inl v_P1_told_numbers)), (a_P1_past, .inl (gI g, 48, .inl v_P1_past))]) hX hB hT hO hE hP hD hS 0 rfl (Nat.le_of_ble_eq_true rfl) rfl dX0_copyFrom_13 (fun H locs hP hD hS => ?_)
  refine lv_aload_n (pc := 16) hX hB dX0_copyFrom_16 rfl (lv_at hl 0 rfl) ?_
  refine lv_aload_n (pc := 17) hX hB dX0_copyFrom_17 rfl (lv_at hl 1 rfl) ?_
  refine gf_X0_18 (pc := 18) (v := .int v_P1_holders) hX hB hT hO hE hP 7 rfl rfl dX0_copyFrom_18 ?_
  refine pf_X0_18 (pc := 21) (x := v_P1_holders) (w2 := [(a_T, .inr (0, [.int v_P1_number, .int v_P1_enough, .int v_P1_holders, .ref a_T_kinds, .ref a_T_extras, .ref a_T_factors, .int v_T_day, .int v_T_tries, .int v_T_shut, .ref a_T_told, .ref a_T_past, .int v_T_pastCount])), (a_T_kinds, .inl (gI g, 6, .inl v_T_kinds)), (a_T_extras, .inl (gI g, 6, .inl v_T_extras)), (a_T_factors, .inl (gI g, 3, .inl v_T_factors)), (a_T_told, .inr (2, [.ref a_T_told_numbers])), (a_T_told_numbers, .inl (gI g, 6, .inl v_T_told_numbers)), (a_T_past, .inl (gI g, 48, .inl v_T_past)), (a_P1, .inr (0, [.int v_P1_number, .int v_P1_enough, .int v_P1_holders, .ref a_P1_kinds, .ref a_P1_extras, .ref a_P1_factors, .int v_P1_day, .int v_P1_tries, .int v_P1_shut, .ref a_P1_told, .ref a_P1_past, .int v_P1_pastCount])), (a_P1_kinds, .inl (gI g, 6, .inl v_P1_kinds)), (a_P1_extras, .inl (gI g, 6, .inl v_P1_extras)), (a_P1_factors, .inl (gI g, 3, .inl v_P1_factors)), (a_P1_told, .inr (2, [.ref a_P1_told_numbers])), (a_P1_told_numbers, .inl (gI g, 6, .inl v_P1_told_numbers)), (a_P1_past, .inl (gI g, 48, .inl v_P1_past))]) hX hB hT hO hE hP hD hS 0 rfl (Nat.le_of_ble_eq_true rfl) rfl dX0_copyFrom_21 (fun H locs hP hD hS => ?_)
  refine lv_aload_n (pc := 24) hX hB dX0_copyFrom_24 rfl (lv_at hl 1 rfl) ?_
  refine gf_X0_21 (pc := 25) (v := .ref a_P1_kinds) hX hB hT hO hE hP 7 rfl rfl dX0_copyFrom_25 ?_
  refine lv_iconst (pc := 28) (v := 0) hX hB dX0_copyFrom_28 (by decide) ?_
  refine lv_aload_n (pc := 29) hX hB dX0_copyFrom_29 rfl (lv_at hl 0 rfl) ?_
  refine gf_X0_21 (pc := 30) (v := .ref a_T_kinds) hX hB hT hO hE hP 0 rfl rfl dX0_copyFrom_30 ?_
  refine lv_iconst (pc := 33) (v := 0) hX hB dX0_copyFrom_33 (by decide) ?_
  refine lv_bipush (pc := 34) (v := 6) hX hB dX0_copyFrom_34 (by decide) ?_
  obtain ⟨hg, hf⟩ := zs_gd hf
  obtain ⟨g1, g2, g3, g4, g5⟩ := of_decide_eq_true hg
  refine zs_copy (pc := 36) (w2 := [(a_T, .inr (0, [.int v_P1_number, .int v_P1_enough, .int v_P1_holders, .ref a_T_kinds, .ref a_T_extras, .ref a_T_factors, .int v_T_day, .int v_T_tries, .int v_T_shut, .ref a_T_told, .ref a_T_past, .int v_T_pastCount])), (a_T_kinds, .inl (gI g, 6, .inl (va_cpy v_P1_kinds v_T_kinds (0 : Int32).toNatClampNeg (0 : Int32).toNatClampNeg (6 : Int32).toNatClampNeg))), (a_T_extras, .inl (gI g, 6, .inl v_T_extras)), (a_T_factors, .inl (gI g, 3, .inl v_T_factors)), (a_T_told, .inr (2, [.ref a_T_told_numbers])), (a_T_told_numbers, .inl (gI g, 6, .inl v_T_told_numbers)), (a_T_past, .inl (gI g, 48, .inl v_T_past)), (a_P1, .inr (0, [.int v_P1_number, .int v_P1_enough, .int v_P1_holders, .ref a_P1_kinds, .ref a_P1_extras, .ref a_P1_factors, .int v_P1_day, .int v_P1_tries, .int v_P1_shut, .ref a_P1_told, .ref a_P1_past, .int v_P1_pastCount])), (a_P1_kinds, .inl (gI g, 6, .inl v_P1_kinds)), (a_P1_extras, .inl (gI g, 6, .inl v_P1_extras)), (a_P1_factors, .inl (gI g, 3, .inl v_P1_factors)), (a_P1_told, .inr (2, [.ref a_P1_told_numbers])), (a_P1_told_numbers, .inl (gI g, 6, .inl v_P1_told_numbers)), (a_P1_past, .inl (gI g, 48, .inl v_P1_past))]) hX hB (hM.trans hl.1.symm) hO hT (tw_2_88) hE hP hD hS 8 1 rfl rfl g1 g2 g3 g4 g5 (Nat.le_of_ble_eq_true rfl) (Nat.le_of_ble_eq_true rfl) rfl dX0_copyFrom_36 (fun H locs hP hD hS => ?_)
  refine lv_aload_n (pc := 39) hX hB dX0_copyFrom_39 rfl (lv_at hl 1 rfl) ?_
  refine gf_X0_25 (pc := 40) (v := .ref a_P1_extras) hX hB hT hO hE hP 7 rfl rfl dX0_copyFrom_40 ?_
  refine lv_iconst (pc := 43) (v := 0) hX hB dX0_copyFrom_43 (by decide) ?_
  refine lv_aload_n (pc := 44) hX hB dX0_copyFrom_44 rfl (lv_at hl 0 rfl) ?_
  refine gf_X0_25 (pc := 45) (v := .ref a_T_extras) hX hB hT hO hE hP 0 rfl rfl dX0_copyFrom_45 ?_
  refine lv_iconst (pc := 48) (v := 0) hX hB dX0_copyFrom_48 (by decide) ?_
  refine lv_bipush (pc := 49) (v := 6) hX hB dX0_copyFrom_49 (by decide) ?_
  obtain ⟨hg, hf⟩ := zs_gd hf
  obtain ⟨g1, g2, g3, g4, g5⟩ := of_decide_eq_true hg
  refine zs_copy (pc := 51) (w2 := [(a_T, .inr (0, [.int v_P1_number, .int v_P1_enough, .int v_P1_holders, .ref a_T_kinds, .ref a_T_extras, .ref a_T_factors, .int v_T_day, .int v_T_tries, .int v_T_shut, .ref a_T_told, .ref a_T_past, .int v_T_pastCount])), (a_T_kinds, .inl (gI g, 6, .inl (va_cpy v_P1_kinds v_T_kinds (0 : Int32).toNatClampNeg (0 : Int32).toNatClampNeg (6 : Int32).toNatClampNeg))), (a_T_extras, .inl (gI g, 6, .inl (va_cpy v_P1_extras v_T_extras (0 : Int32).toNatClampNeg (0 : Int32).toNatClampNeg (6 : Int32).toNatClampNeg))), (a_T_factors, .inl (gI g, 3, .inl v_T_factors)), (a_T_told, .inr (2, [.ref a_T_told_numbers])), (a_T_told_numbers, .inl (gI g, 6, .inl v_T_told_numbers)), (a_T_past, .inl (gI g, 48, .inl v_T_past)), (a_P1, .inr (0, [.int v_P1_number, .int v_P1_enough, .int v_P1_holders, .ref a_P1_kinds, .ref a_P1_extras, .ref a_P1_factors, .int v_P1_day, .int v_P1_tries, .int v_P1_shut, .ref a_P1_told, .ref a_P1_past, .int v_P1_pastCount])), (a_P1_kinds, .inl (gI g, 6, .inl v_P1_kinds)), (a_P1_extras, .inl (gI g, 6, .inl v_P1_extras)), (a_P1_factors, .inl (gI g, 3, .inl v_P1_factors)), (a_P1_told, .inr (2, [.ref a_P1_told_numbers])), (a_P1_told_numbers, .inl (gI g, 6, .inl v_P1_told_numbers)), (a_P1_past, .inl (gI g, 48, .inl v_P1_past))]) hX hB (hM.trans hl.1.symm) hO hT (tw_2_88) hE hP hD hS 9 2 rfl rfl g1 g2 g3 g4 g5 (Nat.le_of_ble_eq_true rfl) (Nat.le_of_ble_eq_true rfl) rfl dX0_copyFrom_51 (fun H locs hP hD hS => ?_)
  refine lv_aload_n (pc := 54) hX hB dX0_copyFrom_54 rfl (lv_at hl 1 rfl) ?_
  refine gf_X0_28 (pc := 55) (v := .ref a_P1_factors) hX hB hT hO hE hP 7 rfl rfl dX0_copyFrom_55 ?_
  refine lv_iconst (pc := 58) (v := 0) hX hB dX0_copyFrom_58 (by decide) ?_
  refine lv_aload_n (pc := 59) hX hB dX0_copyFrom_59 rfl (lv_at hl 0 rfl) ?_
  refine gf_X0_28 (pc := 60) (v := .ref a_T_factors) hX hB hT hO hE hP 0 rfl rfl dX0_copyFrom_60 ?_
  refine lv_iconst (pc := 63) (v := 0) hX hB dX0_copyFrom_63 (by decide) ?_
  refine lv_iconst (pc := 64) (v := 3) hX hB dX0_copyFrom_64 (by decide) ?_
  obtain ⟨hg, hf⟩ := zs_gd hf
  obtain ⟨g1, g2, g3, g4, g5⟩ := of_decide_eq_true hg
  refine zs_copy (pc := 65) (w2 := [(a_T, .inr (0, [.int v_P1_number, .int v_P1_enough, .int v_P1_holders, .ref a_T_kinds, .ref a_T_extras, .ref a_T_factors, .int v_T_day, .int v_T_tries, .int v_T_shut, .ref a_T_told, .ref a_T_past, .int v_T_pastCount])), (a_T_kinds, .inl (gI g, 6, .inl (va_cpy v_P1_kinds v_T_kinds (0 : Int32).toNatClampNeg (0 : Int32).toNatClampNeg (6 : Int32).toNatClampNeg))), (a_T_extras, .inl (gI g, 6, .inl (va_cpy v_P1_extras v_T_extras (0 : Int32).toNatClampNeg (0 : Int32).toNatClampNeg (6 : Int32).toNatClampNeg))), (a_T_factors, .inl (gI g, 3, .inl (va_cpy v_P1_factors v_T_factors (0 : Int32).toNatClampNeg (0 : Int32).toNatClampNeg (3 : Int32).toNatClampNeg))), (a_T_told, .inr (2, [.ref a_T_told_numbers])), (a_T_told_numbers, .inl (gI g, 6, .inl v_T_told_numbers)), (a_T_past, .inl (gI g, 48, .inl v_T_past)), (a_P1, .inr (0, [.int v_P1_number, .int v_P1_enough, .int v_P1_holders, .ref a_P1_kinds, .ref a_P1_extras, .ref a_P1_factors, .int v_P1_day, .int v_P1_tries, .int v_P1_shut, .ref a_P1_told, .ref a_P1_past, .int v_P1_pastCount])), (a_P1_kinds, .inl (gI g, 6, .inl v_P1_kinds)), (a_P1_extras, .inl (gI g, 6, .inl v_P1_extras)), (a_P1_factors, .inl (gI g, 3, .inl v_P1_factors)), (a_P1_told, .inr (2, [.ref a_P1_told_numbers])), (a_P1_told_numbers, .inl (gI g, 6, .inl v_P1_told_numbers)), (a_P1_past, .inl (gI g, 48, .inl v_P1_past))]) hX hB (hM.trans hl.1.symm) hO hT (tw_2_88) hE hP hD hS 10 3 rfl rfl g1 g2 g3 g4 g5 (Nat.le_of_ble_eq_true rfl) (Nat.le_of_ble_eq_true rfl) rfl dX0_copyFrom_65 (fun H locs hP hD hS => ?_)
  refine lv_aload_n (pc := 68) hX hB dX0_copyFrom_68 rfl (lv_at hl 0 rfl) ?_
  refine lv_aload_n (pc := 69) hX hB dX0_copyFrom_69 rfl (lv_at hl 1 rfl) ?_
  refine gf_X0_31 (pc := 70) (v := .int v_P1_day) hX hB hT hO hE hP 7 rfl rfl dX0_copyFrom_70 ?_
  refine pf_X0_31 (pc := 73) (x := v_P1_day) (w2 := [(a_T, .inr (0, [.int v_P1_number, .int v_P1_enough, .int v_P1_holders, .ref a_T_kinds, .ref a_T_extras, .ref a_T_factors, .int v_P1_day, .int v_T_tries, .int v_T_shut, .ref a_T_told, .ref a_T_past, .int v_T_pastCount])), (a_T_kinds, .inl (gI g, 6, .inl (va_cpy v_P1_kinds v_T_kinds (0 : Int32).toNatClampNeg (0 : Int32).toNatClampNeg (6 : Int32).toNatClampNeg))), (a_T_extras, .inl (gI g, 6, .inl (va_cpy v_P1_extras v_T_extras (0 : Int32).toNatClampNeg (0 : Int32).toNatClampNeg (6 : Int32).toNatClampNeg))), (a_T_factors, .inl (gI g, 3, .inl (va_cpy v_P1_factors v_T_factors (0 : Int32).toNatClampNeg (0 : Int32).toNatClampNeg (3 : Int32).toNatClampNeg))), (a_T_told, .inr (2, [.ref a_T_told_numbers])), (a_T_told_numbers, .inl (gI g, 6, .inl v_T_told_numbers)), (a_T_past, .inl (gI g, 48, .inl v_T_past)), (a_P1, .inr (0, [.int v_P1_number, .int v_P1_enough, .int v_P1_holders, .ref a_P1_kinds, .ref a_P1_extras, .ref a_P1_factors, .int v_P1_day, .int v_P1_tries, .int v_P1_shut, .ref a_P1_told, .ref a_P1_past, .int v_P1_pastCount])), (a_P1_kinds, .inl (gI g, 6, .inl v_P1_kinds)), (a_P1_extras, .inl (gI g, 6, .inl v_P1_extras)), (a_P1_factors, .inl (gI g, 3, .inl v_P1_factors)), (a_P1_told, .inr (2, [.ref a_P1_told_numbers])), (a_P1_told_numbers, .inl (gI g, 6, .inl v_P1_told_numbers)), (a_P1_past, .inl (gI g, 48, .inl v_P1_past))]) hX hB hT hO hE hP hD hS 0 rfl (Nat.le_of_ble_eq_true rfl) rfl dX0_copyFrom_73 (fun H locs hP hD hS => ?_)
  refine lv_aload_n (pc := 76) hX hB dX0_copyFrom_76 rfl (lv_at hl 0 rfl) ?_
  refine lv_aload_n (pc := 77) hX hB dX0_copyFrom_77 rfl (lv_at hl 1 rfl) ?_
  refine gf_X0_34 (pc := 78) (v := .int v_P1_tries) hX hB hT hO hE hP 7 rfl rfl dX0_copyFrom_78 ?_
  refine pf_X0_34 (pc := 81) (x := v_P1_tries) (w2 := [(a_T, .inr (0, [.int v_P1_number, .int v_P1_enough, .int v_P1_holders, .ref a_T_kinds, .ref a_T_extras, .ref a_T_factors, .int v_P1_day, .int v_P1_tries, .int v_T_shut, .ref a_T_told, .ref a_T_past, .int v_T_pastCount])), (a_T_kinds, .inl (gI g, 6, .inl (va_cpy v_P1_kinds v_T_kinds (0 : Int32).toNatClampNeg (0 : Int32).toNatClampNeg (6 : Int32).toNatClampNeg))), (a_T_extras, .inl (gI g, 6, .inl (va_cpy v_P1_extras v_T_extras (0 : Int32).toNatClampNeg (0 : Int32).toNatClampNeg (6 : Int32).toNatClampNeg))), (a_T_factors, .inl (gI g, 3, .inl (va_cpy v_P1_factors v_T_factors (0 : Int32).toNatClampNeg (0 : Int32).toNatClampNeg (3 : Int32).toNatClampNeg))), (a_T_told, .inr (2, [.ref a_T_told_numbers])), (a_T_told_numbers, .inl (gI g, 6, .inl v_T_told_numbers)), (a_T_past, .inl (gI g, 48, .inl v_T_past)), (a_P1, .inr (0, [.int v_P1_number, .int v_P1_enough, .int v_P1_holders, .ref a_P1_kinds, .ref a_P1_extras, .ref a_P1_factors, .int v_P1_day, .int v_P1_tries, .int v_P1_shut, .ref a_P1_told, .ref a_P1_past, .int v_P1_pastCount])), (a_P1_kinds, .inl (gI g, 6, .inl v_P1_kinds)), (a_P1_extras, .inl (gI g, 6, .inl v_P1_extras)), (a_P1_factors, .inl (gI g, 3, .inl v_P1_factors)), (a_P1_told, .inr (2, [.ref a_P1_told_numbers])), (a_P1_told_numbers, .inl (gI g, 6, .inl v_P1_told_numbers)), (a_P1_past, .inl (gI g, 48, .inl v_P1_past))]) hX hB hT hO hE hP hD hS 0 rfl (Nat.le_of_ble_eq_true rfl) rfl dX0_copyFrom_81 (fun H locs hP hD hS => ?_)
  refine lv_aload_n (pc := 84) hX hB dX0_copyFrom_84 rfl (lv_at hl 0 rfl) ?_
  refine lv_aload_n (pc := 85) hX hB dX0_copyFrom_85 rfl (lv_at hl 1 rfl) ?_
  refine gf_X0_37 (pc := 86) (v := .int v_P1_shut) hX hB hT hO hE hP 7 rfl rfl dX0_copyFrom_86 ?_
  obtain ⟨hg, hf⟩ := zs_gd hf
  refine pf_X0_37 (pc := 89) (x := v_P1_shut) (w2 := [(a_T, .inr (0, [.int v_P1_number, .int v_P1_enough, .int v_P1_holders, .ref a_T_kinds, .ref a_T_extras, .ref a_T_factors, .int v_P1_day, .int v_P1_tries, .int v_P1_shut, .ref a_T_told, .ref a_T_past, .int v_T_pastCount])), (a_T_kinds, .inl (gI g, 6, .inl (va_cpy v_P1_kinds v_T_kinds (0 : Int32).toNatClampNeg (0 : Int32).toNatClampNeg (6 : Int32).toNatClampNeg))), (a_T_extras, .inl (gI g, 6, .inl (va_cpy v_P1_extras v_T_extras (0 : Int32).toNatClampNeg (0 : Int32).toNatClampNeg (6 : Int32).toNatClampNeg))), (a_T_factors, .inl (gI g, 3, .inl (va_cpy v_P1_factors v_T_factors (0 : Int32).toNatClampNeg (0 : Int32).toNatClampNeg (3 : Int32).toNatClampNeg))), (a_T_told, .inr (2, [.ref a_T_told_numbers])), (a_T_told_numbers, .inl (gI g, 6, .inl v_T_told_numbers)), (a_T_past, .inl (gI g, 48, .inl v_T_past)), (a_P1, .inr (0, [.int v_P1_number, .int v_P1_enough, .int v_P1_holders, .ref a_P1_kinds, .ref a_P1_extras, .ref a_P1_factors, .int v_P1_day, .int v_P1_tries, .int v_P1_shut, .ref a_P1_told, .ref a_P1_past, .int v_P1_pastCount])), (a_P1_kinds, .inl (gI g, 6, .inl v_P1_kinds)), (a_P1_extras, .inl (gI g, 6, .inl v_P1_extras)), (a_P1_factors, .inl (gI g, 3, .inl v_P1_factors)), (a_P1_told, .inr (2, [.ref a_P1_told_numbers])), (a_P1_told_numbers, .inl (gI g, 6, .inl v_P1_told_numbers)), (a_P1_past, .inl (gI g, 48, .inl v_P1_past))]) hX hB hT hO hE hP hD hS 0 rfl (Nat.le_of_ble_eq_true rfl) hg rfl dX0_copyFrom_89 (fun H locs hP hD hS => ?_)
  refine lv_aload_n (pc := 92) hX hB dX0_copyFrom_92 rfl (lv_at hl 0 rfl) ?_
  refine gf_X0_44 (pc := 93) (v := .ref a_T_told) hX hB hT hO hE hP 0 rfl rfl dX0_copyFrom_93 ?_
  refine lv_aload_n (pc := 96) hX hB dX0_copyFrom_96 rfl (lv_at hl 1 rfl) ?_
  refine gf_X0_44 (pc := 97) (v := .ref a_P1_told) hX hB hT hO hE hP 7 rfl rfl dX0_copyFrom_97 ?_
  refine lv_iconst (pc := 100) (v := 0) hX hB dX0_copyFrom_100 (by decide) ?_
  obtain ⟨o1, hc, hf⟩ := zs_bind hf
  refine zs_V (q := (RX2, TX2, 1)) (ci := 2) (q0 := 4) (b := a_T_told) (pc := 101) (As := [.ref a_P1_told, .int (0 : Int32)]) (rest := []) (st1 := []) (wc := [(a_T_told, .inr (2, [.ref a_T_told_numbers])), (a_T_told_numbers, .inl (gI g, 6, .inl v_T_told_numbers)), (a_P1_told, .inr (2, [.ref a_P1_told_numbers])), (a_P1_told_numbers, .inl (gI g, 6, .inl v_P1_told_numbers))]) (wr := [(a_T, .inr (0, [.int v_P1_number, .int v_P1_enough, .int v_P1_holders, .ref a_T_kinds, .ref a_T_extras, .ref a_T_factors, .int v_P1_day, .int v_P1_tries, .int v_P1_shut, .ref a_T_told, .ref a_T_past, .int v_T_pastCount])), (a_T_kinds, .inl (gI g, 6, .inl (va_cpy v_P1_kinds v_T_kinds (0 : Int32).toNatClampNeg (0 : Int32).toNatClampNeg (6 : Int32).toNatClampNeg))), (a_T_extras, .inl (gI g, 6, .inl (va_cpy v_P1_extras v_T_extras (0 : Int32).toNatClampNeg (0 : Int32).toNatClampNeg (6 : Int32).toNatClampNeg))), (a_T_factors, .inl (gI g, 3, .inl (va_cpy v_P1_factors v_T_factors (0 : Int32).toNatClampNeg (0 : Int32).toNatClampNeg (3 : Int32).toNatClampNeg))), (a_T_past, .inl (gI g, 48, .inl v_T_past)), (a_P1, .inr (0, [.int v_P1_number, .int v_P1_enough, .int v_P1_holders, .ref a_P1_kinds, .ref a_P1_extras, .ref a_P1_factors, .int v_P1_day, .int v_P1_tries, .int v_P1_shut, .ref a_P1_told, .ref a_P1_past, .int v_P1_pastCount])), (a_P1_kinds, .inl (gI g, 6, .inl v_P1_kinds)), (a_P1_extras, .inl (gI g, 6, .inl v_P1_extras)), (a_P1_factors, .inl (gI g, 3, .inl v_P1_factors)), (a_P1_past, .inl (gI g, 48, .inl v_P1_past))]) (w1 := [(a_T_told, .inr (2, [.ref a_T_told_numbers])), (a_T_told_numbers, .inl (gI g, 6, .inl o1)), (a_P1_told, .inr (2, [.ref a_P1_told_numbers])), (a_P1_told_numbers, .inl (gI g, 6, .inl v_P1_told_numbers))]) (w2 := [(a_T, .inr (0, [.int v_P1_number, .int v_P1_enough, .int v_P1_holders, .ref a_T_kinds, .ref a_T_extras, .ref a_T_factors, .int v_P1_day, .int v_P1_tries, .int v_P1_shut, .ref a_T_told, .ref a_T_past, .int v_T_pastCount])), (a_T_kinds, .inl (gI g, 6, .inl (va_cpy v_P1_kinds v_T_kinds (0 : Int32).toNatClampNeg (0 : Int32).toNatClampNeg (6 : Int32).toNatClampNeg))), (a_T_extras, .inl (gI g, 6, .inl (va_cpy v_P1_extras v_T_extras (0 : Int32).toNatClampNeg (0 : Int32).toNatClampNeg (6 : Int32).toNatClampNeg))), (a_T_factors, .inl (gI g, 3, .inl (va_cpy v_P1_factors v_T_factors (0 : Int32).toNatClampNeg (0 : Int32).toNatClampNeg (3 : Int32).toNatClampNeg))), (a_T_told, .inr (2, [.ref a_T_told_numbers])), (a_T_told_numbers, .inl (gI g, 6, .inl o1)), (a_T_past, .inl (gI g, 48, .inl v_T_past)), (a_P1, .inr (0, [.int v_P1_number, .int v_P1_enough, .int v_P1_holders, .ref a_P1_kinds, .ref a_P1_extras, .ref a_P1_factors, .int v_P1_day, .int v_P1_tries, .int v_P1_shut, .ref a_P1_told, .ref a_P1_past, .int v_P1_pastCount])), (a_P1_kinds, .inl (gI g, 6, .inl v_P1_kinds)), (a_P1_extras, .inl (gI g, 6, .inl v_P1_extras)), (a_P1_factors, .inl (gI g, 3, .inl v_P1_factors)), (a_P1_told, .inr (2, [.ref a_P1_told_numbers])), (a_P1_told_numbers, .inl (gI g, 6, .inl v_P1_told_numbers)), (a_P1_past, .inl (gI g, 48, .inl v_P1_past))]) (ov := none) lb_X2_copyWithout lk_X0_69 hX hB hM hO hT hE hP hD hS hA (c_X2_copyWithout l g _ a_T_told a_T_told_numbers a_P1_told a_P1_told_numbers v_T_told_numbers v_P1_told_numbers (0 : Int32) o1 hc) ⟨rfl, rfl⟩ ⟨Nat.le_of_ble_eq_true rfl, Nat.le_of_ble_eq_true rfl⟩ rfl rfl [4, 5, 11, 12] [0, 1, 2, 3, 6, 7, 8, 9, 10, 13] [0, 1, 2, 3, 10, 11, 4, 5, 6, 7, 8, 12, 13, 9] rfl rfl rfl rfl (by decide) rfl rfl rfl rfl hl.1 (Nat.le_of_ble_eq_true rfl) ⟨Nat.zero_le _, Nat.zero_le _⟩ rfl dX0_copyFrom_101 (fun H locs hP hD hS => ?_)
  refine lv_aload_n (pc := 104) hX hB dX0_copyFrom_104 rfl (lv_at hl 1 rfl) ?_
  refine gf_X0_48 (pc := 105) (v := .ref a_P1_past) hX hB hT hO hE hP 7 rfl rfl dX0_copyFrom_105 ?_
  refine lv_iconst (pc := 108) (v := 0) hX hB dX0_copyFrom_108 (by decide) ?_
  refine lv_aload_n (pc := 109) hX hB dX0_copyFrom_109 rfl (lv_at hl 0 rfl) ?_
  refine gf_X0_48 (pc := 110) (v := .ref a_T_past) hX hB hT hO hE hP 0 rfl rfl dX0_copyFrom_110 ?_
  refine lv_iconst (pc := 113) (v := 0) hX hB dX0_copyFrom_113 (by decide) ?_
  refine lv_bipush (pc := 114) (v := 48) hX hB dX0_copyFrom_114 (by decide) ?_
  obtain ⟨hg, hf⟩ := zs_gd hf
  obtain ⟨g1, g2, g3, g4, g5⟩ := of_decide_eq_true hg
  refine zs_copy (pc := 116) (w2 := [(a_T, .inr (0, [.int v_P1_number, .int v_P1_enough, .int v_P1_holders, .ref a_T_kinds, .ref a_T_extras, .ref a_T_factors, .int v_P1_day, .int v_P1_tries, .int v_P1_shut, .ref a_T_told, .ref a_T_past, .int v_T_pastCount])), (a_T_kinds, .inl (gI g, 6, .inl (va_cpy v_P1_kinds v_T_kinds (0 : Int32).toNatClampNeg (0 : Int32).toNatClampNeg (6 : Int32).toNatClampNeg))), (a_T_extras, .inl (gI g, 6, .inl (va_cpy v_P1_extras v_T_extras (0 : Int32).toNatClampNeg (0 : Int32).toNatClampNeg (6 : Int32).toNatClampNeg))), (a_T_factors, .inl (gI g, 3, .inl (va_cpy v_P1_factors v_T_factors (0 : Int32).toNatClampNeg (0 : Int32).toNatClampNeg (3 : Int32).toNatClampNeg))), (a_T_told, .inr (2, [.ref a_T_told_numbers])), (a_T_told_numbers, .inl (gI g, 6, .inl o1)), (a_T_past, .inl (gI g, 48, .inl (va_cpy v_P1_past v_T_past (0 : Int32).toNatClampNeg (0 : Int32).toNatClampNeg (48 : Int32).toNatClampNeg))), (a_P1, .inr (0, [.int v_P1_number, .int v_P1_enough, .int v_P1_holders, .ref a_P1_kinds, .ref a_P1_extras, .ref a_P1_factors, .int v_P1_day, .int v_P1_tries, .int v_P1_shut, .ref a_P1_told, .ref a_P1_past, .int v_P1_pastCount])), (a_P1_kinds, .inl (gI g, 6, .inl v_P1_kinds)), (a_P1_extras, .inl (gI g, 6, .inl v_P1_extras)), (a_P1_factors, .inl (gI g, 3, .inl v_P1_factors)), (a_P1_told, .inr (2, [.ref a_P1_told_numbers])), (a_P1_told_numbers, .inl (gI g, 6, .inl v_P1_told_numbers)), (a_P1_past, .inl (gI g, 48, .inl v_P1_past))]) hX hB (hM.trans hl.1.symm) hO hT (tw_2_88) hE hP hD hS 13 6 rfl rfl g1 g2 g3 g4 g5 (Nat.le_of_ble_eq_true rfl) (Nat.le_of_ble_eq_true rfl) rfl dX0_copyFrom_116 (fun H locs hP hD hS => ?_)
  refine lv_aload_n (pc := 119) hX hB dX0_copyFrom_119 rfl (lv_at hl 0 rfl) ?_
  refine lv_aload_n (pc := 120) hX hB dX0_copyFrom_120 rfl (lv_at hl 1 rfl) ?_
  refine gf_X0_51 (pc := 121) (v := .int v_P1_pastCount) hX hB hT hO hE hP 7 rfl rfl dX0_copyFrom_121 ?_
  refine pf_X0_51 (pc := 124) (x := v_P1_pastCount) (w2 := [(a_T, .inr (0, [.int v_P1_number, .int v_P1_enough, .int v_P1_holders, .ref a_T_kinds, .ref a_T_extras, .ref a_T_factors, .int v_P1_day, .int v_P1_tries, .int v_P1_shut, .ref a_T_told, .ref a_T_past, .int v_P1_pastCount])), (a_T_kinds, .inl (gI g, 6, .inl (va_cpy v_P1_kinds v_T_kinds (0 : Int32).toNatClampNeg (0 : Int32).toNatClampNeg (6 : Int32).toNatClampNeg))), (a_T_extras, .inl (gI g, 6, .inl (va_cpy v_P1_extras v_T_extras (0 : Int32).toNatClampNeg (0 : Int32).toNatClampNeg (6 : Int32).toNatClampNeg))), (a_T_factors, .inl (gI g, 3, .inl (va_cpy v_P1_factors v_T_factors (0 : Int32).toNatClampNeg (0 : Int32).toNatClampNeg (3 : Int32).toNatClampNeg))), (a_T_told, .inr (2, [.ref a_T_told_numbers])), (a_T_told_numbers, .inl (gI g, 6, .inl o1)), (a_T_past, .inl (gI g, 48, .inl (va_cpy v_P1_past v_T_past (0 : Int32).toNatClampNeg (0 : Int32).toNatClampNeg (48 : Int32).toNatClampNeg))), (a_P1, .inr (0, [.int v_P1_number, .int v_P1_enough, .int v_P1_holders, .ref a_P1_kinds, .ref a_P1_extras, .ref a_P1_factors, .int v_P1_day, .int v_P1_tries, .int v_P1_shut, .ref a_P1_told, .ref a_P1_past, .int v_P1_pastCount])), (a_P1_kinds, .inl (gI g, 6, .inl v_P1_kinds)), (a_P1_extras, .inl (gI g, 6, .inl v_P1_extras)), (a_P1_factors, .inl (gI g, 3, .inl v_P1_factors)), (a_P1_told, .inr (2, [.ref a_P1_told_numbers])), (a_P1_told_numbers, .inl (gI g, 6, .inl v_P1_told_numbers)), (a_P1_past, .inl (gI g, 48, .inl v_P1_past))]) hX hB hT hO hE hP hD hS 0 rfl (Nat.le_of_ble_eq_true rfl) rfl dX0_copyFrom_124 (fun H locs hP hD hS => ?_)
  obtain rfl := Option.some.inj hf
  exact zs_vret (pc := 127) hX hB hR hK hP hD hS dX0_copyFrom_127

def f_X0_countWrongTry (v_T_tries : Int32) (v_T_shut : Int32) : Option (Int32 × Int32) :=
  if (v_T_tries + (1 : Int32)) < (3 : Int32) then (some (v_T_tries + (1 : Int32), v_T_shut)) else (some ((0 : Int32), (1 : Int32)))
set_option maxHeartbeats 4000000 in
set_option maxRecDepth 100000 in
theorem c_X0_countWrongTry (l : Launch) (g : GG) (sz : Nat) (a_T a_T_kinds a_T_extras a_T_factors a_T_told a_T_past : Nat) (v_T_number : Int32) (v_T_enough : Int32) (v_T_holders : Int32) (v_T_day : Int32) (v_T_tries : Int32) (v_T_shut : Int32) (v_T_pastCount : Int32) (o : Int32 × Int32) (hf : f_X0_countWrongTry v_T_tries v_T_shut = some o) : Met l yX0_countWrongTry (Cond.code yX0_countWrongTry cX0_countWrongTry 1 none :: TB) { frames := 0, cells := 0, slots := 0, locals := 0 } (Pst g [(a_T, .inr (0, [.int v_T_number, .int v_T_enough, .int v_T_holders, .ref a_T_kinds, .ref a_T_extras, .ref a_T_factors, .int v_T_day, .int v_T_tries, .int v_T_shut, .ref a_T_told, .ref a_T_past, .int v_T_pastCount]))] [.ref a_T] sz) (Qst g [(a_T, .inr (0, [.int v_T_number, .int v_T_enough, .int v_T_holders, .ref a_T_kinds, .ref a_T_extras, .ref a_T_factors, .int v_T_day, .int o.1, .int o.2, .ref a_T_told, .ref a_T_past, .int v_T_pastCount]))] (none) (va_A [(a_T, .inr (0, [.int v_T_number, .int v_T_enough, .int v_T_holders, .ref a_T_kinds, .ref a_T_extras, .ref a_T_factors, .int v_T_day, .int v_T_tries, .int v_T_shut, .ref a_T_told, .ref a_T_past, .int v_T_pastCount]))] sz)) 0 0 (va_A [(a_T, .inr (0, [.int v_T_number, .int v_T_enough, .int v_T_holders, .ref a_T_kinds, .ref a_T_extras, .ref a_T_factors, .int v_T_day, .int v_T_tries, .int v_T_shut, .ref a_T_told, .ref a_T_past, .int v_T_pastCount]))] sz) := by
  unfold f_X0_countWrongTry at hf
  refine zs_met (own := RX0) (plainFor_of_name (by decide)) rfl (Nat.le_of_ble_eq_true rfl) ?_
  intro p e s m below meth c A ls hX hB hR hM hT hO hK hN hA hE hP hD hS hl
  have hl : lv_has ls 1 [(0, .ref a_T)] := hl
  refine lv_aload_n (pc := 0) hX hB dX0_countWrongTry_0 rfl (lv_at hl 0 rfl) ?_
  refine lv_dup (pc := 1) hX hB dX0_countWrongTry_1 rfl ?_
  refine gf_X0_34 (pc := 2) (v := .int v_T_tries) hX hB hT hO hE hP 0 rfl rfl dX0_countWrongTry_2 ?_
  refine lv_iconst (pc := 5) (v := 1) hX hB dX0_countWrongTry_5 (by decide) ?_
  refine lv_iadd (pc := 6) hX hB dX0_countWrongTry_6 ?_
  refine pf_X0_34 (pc := 7) (x := v_T_tries + (1 : Int32)) (w2 := [(a_T, .inr (0, [.int v_T_number, .int v_T_enough, .int v_T_holders, .ref a_T_kinds, .ref a_T_extras, .ref a_T_factors, .int v_T_day, .int (v_T_tries + (1 : Int32)), .int v_T_shut, .ref a_T_told, .ref a_T_past, .int v_T_pastCount]))]) hX hB hT hO hE hP hD hS 0 rfl (Nat.le_of_ble_eq_true rfl) rfl dX0_countWrongTry_7 (fun H locs hP hD hS => ?_)
  refine lv_aload_n (pc := 10) hX hB dX0_countWrongTry_10 rfl (lv_at hl 0 rfl) ?_
  refine gf_X0_34 (pc := 11) (v := .int (v_T_tries + (1 : Int32))) hX hB hT hO hE hP 0 rfl rfl dX0_countWrongTry_11 ?_
  refine lv_iconst (pc := 14) (v := 3) hX hB dX0_countWrongTry_14 (by decide) ?_
  refine lv_icmp_lt (pc := 15) (tgt := 28) hX hB dX0_countWrongTry_15 (by decide) (fun hq => ?_) (fun hq => ?_)
  · have hf := zs_ip hf hq
    obtain rfl := Option.some.inj hf
    exact zs_vret (pc := 28) hX hB hR hK hP hD hS dX0_countWrongTry_28
  · have hf := zs_in hf hq
    refine lv_aload_n (pc := 18) hX hB dX0_countWrongTry_18 rfl (lv_at hl 0 rfl) ?_
    refine lv_iconst (pc := 19) (v := 0) hX hB dX0_countWrongTry_19 (by decide) ?_
    refine pf_X0_34 (pc := 20) (x := (0 : Int32)) (w2 := [(a_T, .inr (0, [.int v_T_number, .int v_T_enough, .int v_T_holders, .ref a_T_kinds, .ref a_T_extras, .ref a_T_factors, .int v_T_day, .int (0 : Int32), .int v_T_shut, .ref a_T_told, .ref a_T_past, .int v_T_pastCount]))]) hX hB hT hO hE hP hD hS 0 rfl (Nat.le_of_ble_eq_true rfl) rfl dX0_countWrongTry_20 (fun H locs hP hD hS => ?_)
    refine lv_aload_n (pc := 23) hX hB dX0_countWrongTry_23 rfl (lv_at hl 0 rfl) ?_
    refine lv_iconst (pc := 24) (v := 1) hX hB dX0_countWrongTry_24 (by decide) ?_
    refine pf_X0_37 (pc := 25) (x := (1 : Int32)) (w2 := [(a_T, .inr (0, [.int v_T_number, .int v_T_enough, .int v_T_holders, .ref a_T_kinds, .ref a_T_extras, .ref a_T_factors, .int v_T_day, .int (0 : Int32), .int (1 : Int32), .ref a_T_told, .ref a_T_past, .int v_T_pastCount]))]) hX hB hT hO hE hP hD hS 0 rfl (Nat.le_of_ble_eq_true rfl) rfl rfl dX0_countWrongTry_25 (fun H locs hP hD hS => ?_)
    obtain rfl := Option.some.inj hf
    exact zs_vret (pc := 28) hX hB hR hK hP hD hS dX0_countWrongTry_28

def f_X0_everyone (v_T_holders : Int32) : Option (Int32) :=
  some ((jshl (1 : Int32) v_T_holders) - (1 : Int32))
set_option maxHeartbeats 4000000 in
set_option maxRecDepth 100000 in
theorem c_X0_everyone (l : Launch) (g : GG) (sz : Nat) (a_T a_T_kinds a_T_extras a_T_factors a_T_told a_T_past : Nat) (v_T_number : Int32) (v_T_enough : Int32) (v_T_holders : Int32) (v_T_day : Int32) (v_T_tries : Int32) (v_T_shut : Int32) (v_T_pastCount : Int32) (o : Int32) (hf : f_X0_everyone v_T_holders = some o) : Met l yX0_everyone (Cond.code yX0_everyone cX0_everyone 1 (some .int) :: TB) { frames := 0, cells := 0, slots := 0, locals := 0 } (Pst g [(a_T, .inr (0, [.int v_T_number, .int v_T_enough, .int v_T_holders, .ref a_T_kinds, .ref a_T_extras, .ref a_T_factors, .int v_T_day, .int v_T_tries, .int v_T_shut, .ref a_T_told, .ref a_T_past, .int v_T_pastCount]))] [.ref a_T] sz) (Qst g [(a_T, .inr (0, [.int v_T_number, .int v_T_enough, .int v_T_holders, .ref a_T_kinds, .ref a_T_extras, .ref a_T_factors, .int v_T_day, .int v_T_tries, .int v_T_shut, .ref a_T_told, .ref a_T_past, .int v_T_pastCount]))] (some (.int o)) (va_A [(a_T, .inr (0, [.int v_T_number, .int v_T_enough, .int v_T_holders, .ref a_T_kinds, .ref a_T_extras, .ref a_T_factors, .int v_T_day, .int v_T_tries, .int v_T_shut, .ref a_T_told, .ref a_T_past, .int v_T_pastCount]))] sz)) 0 0 (va_A [(a_T, .inr (0, [.int v_T_number, .int v_T_enough, .int v_T_holders, .ref a_T_kinds, .ref a_T_extras, .ref a_T_factors, .int v_T_day, .int v_T_tries, .int v_T_shut, .ref a_T_told, .ref a_T_past, .int v_T_pastCount]))] sz) := by
  unfold f_X0_everyone at hf
  refine zs_met (own := RX0) (plainFor_of_name (by decide)) rfl (Nat.le_of_ble_eq_true rfl) ?_
  intro p e s m below meth c A ls hX hB hR hM hT hO hK hN hA hE hP hD hS hl
  have hl : lv_has ls 1 [(0, .ref a_T)] := hl
  refine lv_iconst (pc := 0) (v := 1) hX hB dX0_everyone_0 (by decide) ?_
  refine lv_aload_n (pc := 1) hX hB dX0_everyone_1 rfl (lv_at hl 0 rfl) ?_
  refine gf_X0_18 (pc := 2) (v := .int v_T_holders) hX hB hT hO hE hP 0 rfl rfl dX0_everyone_2 ?_
  refine zs_ishl (pc := 5) hX hB dX0_everyone_5 ?_
  refine lv_iconst (pc := 6) (v := 1) hX hB dX0_everyone_6 (by decide) ?_
  refine lv_isub (pc := 7) hX hB dX0_everyone_7 ?_
  obtain rfl := Option.some.inj hf
  exact zs_iret (pc := 8) hX hB hR hK hP hD hS dX0_everyone_8

def f_X0_goBack (v_T_day : Int32) (v_T_tries : Int32) (v_T_shut : Int32) (v_T_pastCount : Int32) (v_T_factors : Nat → Int32) (v_T_past : Nat → Int32) : Option (Int32 × Int32 × Int32 × Int32 × (Nat → Int32)) :=
  if ((v_T_pastCount - (1 : Int32)) * (6 : Int32)) < (0 : Int32) then (some (v_T_day, v_T_tries, v_T_shut, v_T_pastCount, v_T_factors)) else (if (48 : Int32) < (((v_T_pastCount - (1 : Int32)) * (6 : Int32)) + (6 : Int32)) then (some (v_T_day, v_T_tries, v_T_shut, v_T_pastCount, v_T_factors)) else (gd (inb ((v_T_pastCount - (1 : Int32)) * (6 : Int32)) 48) (gd (inb (((v_T_pastCount - (1 : Int32)) * (6 : Int32)) + (1 : Int32)) 48) (gd (inb (((v_T_pastCount - (1 : Int32)) * (6 : Int32)) + (2 : Int32)) 48) ((if (v_T_past (((v_T_pastCount - (1 : Int32)) * (6 : Int32)) + (2 : Int32)).toNatClampNeg) = (1 : Int32) then (some (1 : Int32)) else (some (0 : Int32))).bind (fun y1 => gd (bz y1) (gd (decide (¬ (((v_T_pastCount - (1 : Int32)) * (6 : Int32)) + (3 : Int32)) < 0 ∧ ¬ (0 : Int32) < 0 ∧ ¬ (3 : Int32) < 0 ∧ (((v_T_pastCount - (1 : Int32)) * (6 : Int32)) + (3 : Int32)).toNatClampNeg + (3 : Int32).toNatClampNeg ≤ 48 ∧ (0 : Int32).toNatClampNeg + (3 : Int32).toNatClampNeg ≤ 3)) (some (v_T_past ((v_T_pastCount - (1 : Int32)) * (6 : Int32)).toNatClampNeg, v_T_past (((v_T_pastCount - (1 : Int32)) * (6 : Int32)) + (1 : Int32)).toNatClampNeg, y1, v_T_pastCount - (1 : Int32), va_cpy v_T_past v_T_factors (((v_T_pastCount - (1 : Int32)) * (6 : Int32)) + (3 : Int32)).toNatClampNeg (0 : Int32).toNatClampNeg (3 : Int32).toNatClampNeg)))))))))
set_option maxHeartbeats 4000000 in
set_option maxRecDepth 100000 in
theorem c_X0_goBack (l : Launch) (g : GG) (sz : Nat) (a_T a_T_kinds a_T_extras a_T_told a_T_factors a_T_past : Nat) (v_T_number : Int32) (v_T_enough : Int32) (v_T_holders : Int32) (v_T_day : Int32) (v_T_tries : Int32) (v_T_shut : Int32) (v_T_pastCount : Int32) (v_T_factors : Nat → Int32) (v_T_past : Nat → Int32) (o : Int32 × Int32 × Int32 × Int32 × (Nat → Int32)) (hf : f_X0_goBack v_T_day v_T_tries v_T_shut v_T_pastCount v_T_factors v_T_past = some o) : Met l yX0_goBack (Cond.code yX0_goBack cX0_goBack 2 none :: TB) { frames := 1, cells := 0, slots := 0, locals := 40 } (Pst g [(a_T, .inr (0, [.int v_T_number, .int v_T_enough, .int v_T_holders, .ref a_T_kinds, .ref a_T_extras, .ref a_T_factors, .int v_T_day, .int v_T_tries, .int v_T_shut, .ref a_T_told, .ref a_T_past, .int v_T_pastCount])), (a_T_factors, .inl (gI g, 3, .inl v_T_factors)), (a_T_past, .inl (gI g, 48, .inl v_T_past))] [.ref a_T] sz) (Qst g [(a_T, .inr (0, [.int v_T_number, .int v_T_enough, .int v_T_holders, .ref a_T_kinds, .ref a_T_extras, .ref a_T_factors, .int o.1, .int o.2.1, .int o.2.2.1, .ref a_T_told, .ref a_T_past, .int o.2.2.2.1])), (a_T_factors, .inl (gI g, 3, .inl o.2.2.2.2)), (a_T_past, .inl (gI g, 48, .inl v_T_past))] (none) (va_A [(a_T, .inr (0, [.int v_T_number, .int v_T_enough, .int v_T_holders, .ref a_T_kinds, .ref a_T_extras, .ref a_T_factors, .int v_T_day, .int v_T_tries, .int v_T_shut, .ref a_T_told, .ref a_T_past, .int v_T_pastCount])), (a_T_factors, .inl (gI g, 3, .inl v_T_factors)), (a_T_past, .inl (gI g, 48, .inl v_T_past))] sz)) 0 0 (va_A [(a_T, .inr (0, [.int v_T_number, .int v_T_enough, .int v_T_holders, .ref a_T_kinds, .ref a_T_extras, .ref a_T_factors, .int v_T_day, .int v_T_tries, .int v_T_shut, .ref a_T_told, .ref a_T_past, .int v_T_pastCount])), (a_T_factors, .inl (gI g, 3, .inl v_T_factors)), (a_T_past, .inl (gI g, 48, .inl v_T_past))] sz) := by
  unfold f_X0_goBack at hf
  refine zs_met (own := RX0) (plainFor_of_name (by decide)) rfl (Nat.le_of_ble_eq_true rfl) ?_
  intro p e s m below meth c A ls hX hB hR hM hT hO hK hN hA hE hP hD hS hl
  have hl : lv_has ls 2 [(0, .ref a_T)] := hl
  refine lv_aload_n (pc := 0) hX hB dX0_goBack_0 rfl (lv_at hl 0 rfl) ?_
  refine gf_X0_51 (pc := 1) (v := .int v_T_pastCount) hX hB hT hO hE hP 0 rfl rfl dX0_goBack_1 ?_
  refine lv_iconst (pc := 4) (v := 1) hX hB dX0_goBack_4 (by decide) ?_
  refine lv_isub (pc := 5) hX hB dX0_goBack_5 ?_
  refine lv_bipush (pc := 6) (v := 6) hX hB dX0_goBack_6 (by decide) ?_
  refine lv_imul (pc := 8) hX hB dX0_goBack_8 ?_
  refine lv_istore_n (pc := 9) (lv' := [(1, .int ((v_T_pastCount - (1 : Int32)) * (6 : Int32))), (0, .ref a_T)]) hX hB dX0_goBack_9 rfl hl (by decide) rfl (fun ls hl => ?_)
  refine lv_iload_n (pc := 10) hX hB dX0_goBack_10 rfl (lv_at hl 0 rfl) ?_
  refine lv_if_lt (pc := 11) (tgt := 95) hX hB dX0_goBack_11 (by decide) (fun hq => ?_) (fun hq => ?_)
  · have hf := zs_ip hf hq
    obtain rfl := Option.some.inj hf
    exact zs_vret (pc := 95) hX hB hR hK hP hD hS dX0_goBack_95
  · have hf := zs_in hf hq
    refine lv_iload_n (pc := 14) hX hB dX0_goBack_14 rfl (lv_at hl 0 rfl) ?_
    refine lv_bipush (pc := 15) (v := 6) hX hB dX0_goBack_15 (by decide) ?_
    refine lv_iadd (pc := 17) hX hB dX0_goBack_17 ?_
    refine lv_aload_n (pc := 18) hX hB dX0_goBack_18 rfl (lv_at hl 1 rfl) ?_
    refine gf_X0_48 (pc := 19) (v := .ref a_T_past) hX hB hT hO hE hP 0 rfl rfl dX0_goBack_19 ?_
    refine va_alen (pc := 22) hX hB hE.1 hP 2 0 rfl rfl (v := (48 : Int32)) rfl dX0_goBack_22 ?_
    refine lv_icmp_gt (pc := 23) (tgt := 95) hX hB dX0_goBack_23 (by decide) (fun hq => ?_) (fun hq => ?_)
    · have hf := zs_ip hf hq
      obtain rfl := Option.some.inj hf
      exact zs_vret (pc := 95) hX hB hR hK hP hD hS dX0_goBack_95
    · have hf := zs_in hf hq
      refine lv_aload_n (pc := 26) hX hB dX0_goBack_26 rfl (lv_at hl 1 rfl) ?_
      refine lv_aload_n (pc := 27) hX hB dX0_goBack_27 rfl (lv_at hl 1 rfl) ?_
      refine gf_X0_48 (pc := 28) (v := .ref a_T_past) hX hB hT hO hE hP 0 rfl rfl dX0_goBack_28 ?_
      refine lv_iload_n (pc := 31) hX hB dX0_goBack_31 rfl (lv_at hl 0 rfl) ?_
      obtain ⟨hg, hf⟩ := zs_gd hf
      refine va_iald (pc := 32) hX hB hE.1 hP 2 0 rfl rfl (zs_inb hg) dX0_goBack_32 ?_
      refine pf_X0_31 (pc := 33) (x := v_T_past ((v_T_pastCount - (1 : Int32)) * (6 : Int32)).toNatClampNeg) (w2 := [(a_T, .inr (0, [.int v_T_number, .int v_T_enough, .int v_T_holders, .ref a_T_kinds, .ref a_T_extras, .ref a_T_factors, .int (v_T_past ((v_T_pastCount - (1 : Int32)) * (6 : Int32)).toNatClampNeg), .int v_T_tries, .int v_T_shut, .ref a_T_told, .ref a_T_past, .int v_T_pastCount])), (a_T_factors, .inl (gI g, 3, .inl v_T_factors)), (a_T_past, .inl (gI g, 48, .inl v_T_past))]) hX hB hT hO hE hP hD hS 0 rfl (Nat.le_of_ble_eq_true rfl) rfl dX0_goBack_33 (fun H locs hP hD hS => ?_)
      refine lv_aload_n (pc := 36) hX hB dX0_goBack_36 rfl (lv_at hl 1 rfl) ?_
      refine lv_aload_n (pc := 37) hX hB dX0_goBack_37 rfl (lv_at hl 1 rfl) ?_
      refine gf_X0_48 (pc := 38) (v := .ref a_T_past) hX hB hT hO hE hP 0 rfl rfl dX0_goBack_38 ?_
      refine lv_iload_n (pc := 41) hX hB dX0_goBack_41 rfl (lv_at hl 0 rfl) ?_
      refine lv_iconst (pc := 42) (v := 1) hX hB dX0_goBack_42 (by decide) ?_
      refine lv_iadd (pc := 43) hX hB dX0_goBack_43 ?_
      obtain ⟨hg, hf⟩ := zs_gd hf
      refine va_iald (pc := 44) hX hB hE.1 hP 2 0 rfl rfl (zs_inb hg) dX0_goBack_44 ?_
      refine pf_X0_34 (pc := 45) (x := v_T_past (((v_T_pastCount - (1 : Int32)) * (6 : Int32)) + (1 : Int32)).toNatClampNeg) (w2 := [(a_T, .inr (0, [.int v_T_number, .int v_T_enough, .int v_T_holders, .ref a_T_kinds, .ref a_T_extras, .ref a_T_factors, .int (v_T_past ((v_T_pastCount - (1 : Int32)) * (6 : Int32)).toNatClampNeg), .int (v_T_past (((v_T_pastCount - (1 : Int32)) * (6 : Int32)) + (1 : Int32)).toNatClampNeg), .int v_T_shut, .ref a_T_told, .ref a_T_past, .int v_T_pastCount])), (a_T_factors, .inl (gI g, 3, .inl v_T_factors)), (a_T_past, .inl (gI g, 48, .inl v_T_past))]) hX hB hT hO hE hP hD hS 0 rfl (Nat.le_of_ble_eq_true rfl) rfl dX0_goBack_45 (fun H locs hP hD hS => ?_)
      refine lv_aload_n (pc := 48) hX hB dX0_goBack_48 rfl (lv_at hl 1 rfl) ?_
      refine lv_aload_n (pc := 49) hX hB dX0_goBack_49 rfl (lv_at hl 1 rfl) ?_
      refine gf_X0_48 (pc := 50) (v := .ref a_T_past) hX hB hT hO hE hP 0 rfl rfl dX0_goBack_50 ?_
      refine lv_iload_n (pc := 53) hX hB dX0_goBack_53 rfl (lv_at hl 0 rfl) ?_
      refine lv_iconst (pc := 54) (v := 2) hX hB dX0_goBack_54 (by decide) ?_
      refine lv_iadd (pc := 55) hX hB dX0_goBack_55 ?_
      obtain ⟨hg, hf⟩ := zs_gd hf
      refine va_iald (pc := 56) hX hB hE.1 hP 2 0 rfl rfl (zs_inb hg) dX0_goBack_56 ?_
      refine lv_iconst (pc := 57) (v := 1) hX hB dX0_goBack_57 (by decide) ?_
      obtain ⟨y1, hj, hf⟩ := zs_bind hf
      refine zs_then (α := Unit) (fun _ H locs ls => CC g A s.heap 2 [(a_T, .inr (0, [.int v_T_number, .int v_T_enough, .int v_T_holders, .ref a_T_kinds, .ref a_T_extras, .ref a_T_factors, .int (v_T_past ((v_T_pastCount - (1 : Int32)) * (6 : Int32)).toNatClampNeg), .int (v_T_past (((v_T_pastCount - (1 : Int32)) * (6 : Int32)) + (1 : Int32)).toNatClampNeg), .int v_T_shut, .ref a_T_told, .ref a_T_past, .int v_T_pastCount])), (a_T_factors, .inl (gI g, 3, .inl v_T_factors)), (a_T_past, .inl (gI g, 48, .inl v_T_past))] [(0, .ref a_T), (1, .int ((v_T_pastCount - (1 : Int32)) * (6 : Int32)))] H locs ls) (fun _ ls => F0 m 66 ls [.int y1, .ref a_T]) (fun _ H locs ls hC => ?_) (fun X => ?_)
      · obtain ⟨hP, hD, hS, hl⟩ := hC
        obtain ⟨hg, hf⟩ := zs_gd hf
        refine pf_X0_37 (pc := 66) (x := y1) (w2 := [(a_T, .inr (0, [.int v_T_number, .int v_T_enough, .int v_T_holders, .ref a_T_kinds, .ref a_T_extras, .ref a_T_factors, .int (v_T_past ((v_T_pastCount - (1 : Int32)) * (6 : Int32)).toNatClampNeg), .int (v_T_past (((v_T_pastCount - (1 : Int32)) * (6 : Int32)) + (1 : Int32)).toNatClampNeg), .int y1, .ref a_T_told, .ref a_T_past, .int v_T_pastCount])), (a_T_factors, .inl (gI g, 3, .inl v_T_factors)), (a_T_past, .inl (gI g, 48, .inl v_T_past))]) hX hB hT hO hE hP hD hS 0 rfl (Nat.le_of_ble_eq_true rfl) hg rfl dX0_goBack_66 (fun H locs hP hD hS => ?_)
        refine lv_aload_n (pc := 69) hX hB dX0_goBack_69 rfl (lv_at hl 0 rfl) ?_
        refine gf_X0_48 (pc := 70) (v := .ref a_T_past) hX hB hT hO hE hP 0 rfl rfl dX0_goBack_70 ?_
        refine lv_iload_n (pc := 73) hX hB dX0_goBack_73 rfl (lv_at hl 1 rfl) ?_
        refine lv_iconst (pc := 74) (v := 3) hX hB dX0_goBack_74 (by decide) ?_
        refine lv_iadd (pc := 75) hX hB dX0_goBack_75 ?_
        refine lv_aload_n (pc := 76) hX hB dX0_goBack_76 rfl (lv_at hl 0 rfl) ?_
        refine gf_X0_28 (pc := 77) (v := .ref a_T_factors) hX hB hT hO hE hP 0 rfl rfl dX0_goBack_77 ?_
        refine lv_iconst (pc := 80) (v := 0) hX hB dX0_goBack_80 (by decide) ?_
        refine lv_iconst (pc := 81) (v := 3) hX hB dX0_goBack_81 (by decide) ?_
        obtain ⟨hg, hf⟩ := zs_gd hf
        obtain ⟨g1, g2, g3, g4, g5⟩ := of_decide_eq_true hg
        refine zs_copy (pc := 82) (w2 := [(a_T, .inr (0, [.int v_T_number, .int v_T_enough, .int v_T_holders, .ref a_T_kinds, .ref a_T_extras, .ref a_T_factors, .int (v_T_past ((v_T_pastCount - (1 : Int32)) * (6 : Int32)).toNatClampNeg), .int (v_T_past (((v_T_pastCount - (1 : Int32)) * (6 : Int32)) + (1 : Int32)).toNatClampNeg), .int y1, .ref a_T_told, .ref a_T_past, .int v_T_pastCount])), (a_T_factors, .inl (gI g, 3, .inl (va_cpy v_T_past v_T_factors (((v_T_pastCount - (1 : Int32)) * (6 : Int32)) + (3 : Int32)).toNatClampNeg (0 : Int32).toNatClampNeg (3 : Int32).toNatClampNeg))), (a_T_past, .inl (gI g, 48, .inl v_T_past))]) hX hB (hM.trans hl.1.symm) hO hT (tw_2_88) hE hP hD hS 2 1 rfl rfl g1 g2 g3 g4 g5 (Nat.le_of_ble_eq_true rfl) (Nat.le_of_ble_eq_true rfl) rfl dX0_goBack_82 (fun H locs hP hD hS => ?_)
        refine lv_aload_n (pc := 85) hX hB dX0_goBack_85 rfl (lv_at hl 0 rfl) ?_
        refine lv_dup (pc := 86) hX hB dX0_goBack_86 rfl ?_
        refine gf_X0_51 (pc := 87) (v := .int v_T_pastCount) hX hB hT hO hE hP 0 rfl rfl dX0_goBack_87 ?_
        refine lv_iconst (pc := 90) (v := 1) hX hB dX0_goBack_90 (by decide) ?_
        refine lv_isub (pc := 91) hX hB dX0_goBack_91 ?_
        refine pf_X0_51 (pc := 92) (x := v_T_pastCount - (1 : Int32)) (w2 := [(a_T, .inr (0, [.int v_T_number, .int v_T_enough, .int v_T_holders, .ref a_T_kinds, .ref a_T_extras, .ref a_T_factors, .int (v_T_past ((v_T_pastCount - (1 : Int32)) * (6 : Int32)).toNatClampNeg), .int (v_T_past (((v_T_pastCount - (1 : Int32)) * (6 : Int32)) + (1 : Int32)).toNatClampNeg), .int y1, .ref a_T_told, .ref a_T_past, .int (v_T_pastCount - (1 : Int32))])), (a_T_factors, .inl (gI g, 3, .inl (va_cpy v_T_past v_T_factors (((v_T_pastCount - (1 : Int32)) * (6 : Int32)) + (3 : Int32)).toNatClampNeg (0 : Int32).toNatClampNeg (3 : Int32).toNatClampNeg))), (a_T_past, .inl (gI g, 48, .inl v_T_past))]) hX hB hT hO hE hP hD hS 0 rfl (Nat.le_of_ble_eq_true rfl) rfl dX0_goBack_92 (fun H locs hP hD hS => ?_)
        obtain rfl := Option.some.inj hf
        exact zs_vret (pc := 95) hX hB hR hK hP hD hS dX0_goBack_95
      · have hf := hj
        refine lv_icmp_ne (pc := 58) (tgt := 65) hX hB dX0_goBack_58 (by decide) (fun hq => ?_) (fun hq => ?_)
        · have hf := zs_in hf hq
          refine lv_iconst (pc := 65) (v := 0) hX hB dX0_goBack_65 (by decide) ?_
          obtain rfl := Option.some.inj hf
          exact X () _ _ _ ⟨hP, hD, hS, lv_sub hl [1, 0] rfl⟩
        · have hf := zs_ip hf hq
          refine lv_iconst (pc := 61) (v := 1) hX hB dX0_goBack_61 (by decide) ?_
          refine lv_goto (pc := 62) (tgt := 66) hX hB dX0_goBack_62 (by decide) ?_
          obtain rfl := Option.some.inj hf
          exact X () _ _ _ ⟨hP, hD, hS, lv_sub hl [1, 0] rfl⟩

def f_X0_hasAll (v_T_holders : Int32) (p1 : Int32) : Option (Int32) :=
  if p1 < (0 : Int32) then (some (0 : Int32)) else ((f_X0_everyone v_T_holders).bind (fun o1 => if o1 < p1 then (some (0 : Int32)) else (some (1 : Int32))))
set_option maxHeartbeats 4000000 in
set_option maxRecDepth 100000 in
theorem c_X0_hasAll (l : Launch) (g : GG) (sz : Nat) (a_T a_T_kinds a_T_extras a_T_factors a_T_told a_T_past : Nat) (v_T_number : Int32) (v_T_enough : Int32) (v_T_holders : Int32) (v_T_day : Int32) (v_T_tries : Int32) (v_T_shut : Int32) (v_T_pastCount : Int32) (p1 : Int32) (o : Int32) (hf : f_X0_hasAll v_T_holders p1 = some o) : Met l yX0_hasAll (Cond.code yX0_hasAll cX0_hasAll 2 (some .boolean) :: TB) { frames := 1, cells := 0, slots := 0, locals := 20 } (Pst g [(a_T, .inr (0, [.int v_T_number, .int v_T_enough, .int v_T_holders, .ref a_T_kinds, .ref a_T_extras, .ref a_T_factors, .int v_T_day, .int v_T_tries, .int v_T_shut, .ref a_T_told, .ref a_T_past, .int v_T_pastCount]))] [.ref a_T, .int p1] sz) (Qst g [(a_T, .inr (0, [.int v_T_number, .int v_T_enough, .int v_T_holders, .ref a_T_kinds, .ref a_T_extras, .ref a_T_factors, .int v_T_day, .int v_T_tries, .int v_T_shut, .ref a_T_told, .ref a_T_past, .int v_T_pastCount]))] (some (.int o)) (va_A [(a_T, .inr (0, [.int v_T_number, .int v_T_enough, .int v_T_holders, .ref a_T_kinds, .ref a_T_extras, .ref a_T_factors, .int v_T_day, .int v_T_tries, .int v_T_shut, .ref a_T_told, .ref a_T_past, .int v_T_pastCount]))] sz)) 0 0 (va_A [(a_T, .inr (0, [.int v_T_number, .int v_T_enough, .int v_T_holders, .ref a_T_kinds, .ref a_T_extras, .ref a_T_factors, .int v_T_day, .int v_T_tries, .int v_T_shut, .ref a_T_told, .ref a_T_past, .int v_T_pastCount]))] sz) := by
  unfold f_X0_hasAll at hf
  refine zs_met (own := RX0) (plainFor_of_name (by decide)) rfl (Nat.le_of_ble_eq_true rfl) ?_
  intro p e s m below meth c A ls hX hB hR hM hT hO hK hN hA hE hP hD hS hl
  have hl : lv_has ls 2 [(0, .ref a_T), (1, .int p1)] := hl
  refine lv_iload_n (pc := 0) hX hB dX0_hasAll_0 rfl (lv_at hl 1 rfl) ?_
  refine lv_if_lt (pc := 1) (tgt := 16) hX hB dX0_hasAll_1 (by decide) (fun hq => ?_) (fun hq => ?_)
  · have hf := zs_ip hf hq
    refine lv_iconst (pc := 16) (v := 0) hX hB dX0_hasAll_16 (by decide) ?_
    obtain rfl := Option.some.inj hf
    exact zs_zret (v := (0 : Int32)) (pc := 17) hX hB hR hK rfl hP hD hS dX0_hasAll_17
  · have hf := zs_in hf hq
    refine lv_iload_n (pc := 4) hX hB dX0_hasAll_4 rfl (lv_at hl 1 rfl) ?_
    refine lv_aload_n (pc := 5) hX hB dX0_hasAll_5 rfl (lv_at hl 0 rfl) ?_
    obtain ⟨o1, hc, hf⟩ := zs_bind hf
    refine zs_V (q := (RX0, TX0, 12)) (ci := 0) (q0 := 0) (b := a_T) (pc := 6) (As := []) (rest := [.int p1]) (st1 := [.int o1, .int p1]) (wc := [(a_T, .inr (0, [.int v_T_number, .int v_T_enough, .int v_T_holders, .ref a_T_kinds, .ref a_T_extras, .ref a_T_factors, .int v_T_day, .int v_T_tries, .int v_T_shut, .ref a_T_told, .ref a_T_past, .int v_T_pastCount]))]) (wr := []) (w1 := [(a_T, .inr (0, [.int v_T_number, .int v_T_enough, .int v_T_holders, .ref a_T_kinds, .ref a_T_extras, .ref a_T_factors, .int v_T_day, .int v_T_tries, .int v_T_shut, .ref a_T_told, .ref a_T_past, .int v_T_pastCount]))]) (w2 := [(a_T, .inr (0, [.int v_T_number, .int v_T_enough, .int v_T_holders, .ref a_T_kinds, .ref a_T_extras, .ref a_T_factors, .int v_T_day, .int v_T_tries, .int v_T_shut, .ref a_T_told, .ref a_T_past, .int v_T_pastCount]))]) (ov := some (.int o1)) lb_X0_everyone lk_X0_73 hX hB hM hO hT hE hP hD hS hA (c_X0_everyone l g _ a_T a_T_kinds a_T_extras a_T_factors a_T_told a_T_past v_T_number v_T_enough v_T_holders v_T_day v_T_tries v_T_shut v_T_pastCount o1 hc) ⟨rfl, rfl⟩ ⟨Nat.le_of_ble_eq_true rfl, Nat.le_of_ble_eq_true rfl⟩ rfl rfl [0] [] [0] rfl rfl rfl rfl (by decide) rfl rfl rfl rfl hl.1 (Nat.le_of_ble_eq_true rfl) ⟨Nat.zero_le _, Nat.zero_le _⟩ rfl dX0_hasAll_6 (fun H locs hP hD hS => ?_)
    refine lv_icmp_gt (pc := 9) (tgt := 16) hX hB dX0_hasAll_9 (by decide) (fun hq => ?_) (fun hq => ?_)
    · have hf := zs_ip hf hq
      refine lv_iconst (pc := 16) (v := 0) hX hB dX0_hasAll_16 (by decide) ?_
      obtain rfl := Option.some.inj hf
      exact zs_zret (v := (0 : Int32)) (pc := 17) hX hB hR hK rfl hP hD hS dX0_hasAll_17
    · have hf := zs_in hf hq
      refine lv_iconst (pc := 12) (v := 1) hX hB dX0_hasAll_12 (by decide) ?_
      refine lv_goto (pc := 13) (tgt := 17) hX hB dX0_hasAll_13 (by decide) ?_
      obtain rfl := Option.some.inj hf
      exact zs_zret (v := (1 : Int32)) (pc := 17) hX hB hR hK rfl hP hD hS dX0_hasAll_17

def f_X0_hasHolder (v_T_holders : Int32) (p1 : Int32) : Option (Int32) :=
  if p1 < (0 : Int32) then (some (0 : Int32)) else (if v_T_holders ≤ p1 then (some (0 : Int32)) else (some (1 : Int32)))
set_option maxHeartbeats 4000000 in
set_option maxRecDepth 100000 in
theorem c_X0_hasHolder (l : Launch) (g : GG) (sz : Nat) (a_T a_T_kinds a_T_extras a_T_factors a_T_told a_T_past : Nat) (v_T_number : Int32) (v_T_enough : Int32) (v_T_holders : Int32) (v_T_day : Int32) (v_T_tries : Int32) (v_T_shut : Int32) (v_T_pastCount : Int32) (p1 : Int32) (o : Int32) (hf : f_X0_hasHolder v_T_holders p1 = some o) : Met l yX0_hasHolder (Cond.code yX0_hasHolder cX0_hasHolder 2 (some .boolean) :: TB) { frames := 0, cells := 0, slots := 0, locals := 0 } (Pst g [(a_T, .inr (0, [.int v_T_number, .int v_T_enough, .int v_T_holders, .ref a_T_kinds, .ref a_T_extras, .ref a_T_factors, .int v_T_day, .int v_T_tries, .int v_T_shut, .ref a_T_told, .ref a_T_past, .int v_T_pastCount]))] [.ref a_T, .int p1] sz) (Qst g [(a_T, .inr (0, [.int v_T_number, .int v_T_enough, .int v_T_holders, .ref a_T_kinds, .ref a_T_extras, .ref a_T_factors, .int v_T_day, .int v_T_tries, .int v_T_shut, .ref a_T_told, .ref a_T_past, .int v_T_pastCount]))] (some (.int o)) (va_A [(a_T, .inr (0, [.int v_T_number, .int v_T_enough, .int v_T_holders, .ref a_T_kinds, .ref a_T_extras, .ref a_T_factors, .int v_T_day, .int v_T_tries, .int v_T_shut, .ref a_T_told, .ref a_T_past, .int v_T_pastCount]))] sz)) 0 0 (va_A [(a_T, .inr (0, [.int v_T_number, .int v_T_enough, .int v_T_holders, .ref a_T_kinds, .ref a_T_extras, .ref a_T_factors, .int v_T_day, .int v_T_tries, .int v_T_shut, .ref a_T_told, .ref a_T_past, .int v_T_pastCount]))] sz) := by
  unfold f_X0_hasHolder at hf
  refine zs_met (own := RX0) (plainFor_of_name (by decide)) rfl (Nat.le_of_ble_eq_true rfl) ?_
  intro p e s m below meth c A ls hX hB hR hM hT hO hK hN hA hE hP hD hS hl
  have hl : lv_has ls 2 [(0, .ref a_T), (1, .int p1)] := hl
  refine lv_iload_n (pc := 0) hX hB dX0_hasHolder_0 rfl (lv_at hl 1 rfl) ?_
  refine lv_if_lt (pc := 1) (tgt := 16) hX hB dX0_hasHolder_1 (by decide) (fun hq => ?_) (fun hq => ?_)
  · have hf := zs_ip hf hq
    refine lv_iconst (pc := 16) (v := 0) hX hB dX0_hasHolder_16 (by decide) ?_
    obtain rfl := Option.some.inj hf
    exact zs_zret (v := (0 : Int32)) (pc := 17) hX hB hR hK rfl hP hD hS dX0_hasHolder_17
  · have hf := zs_in hf hq
    refine lv_iload_n (pc := 4) hX hB dX0_hasHolder_4 rfl (lv_at hl 1 rfl) ?_
    refine lv_aload_n (pc := 5) hX hB dX0_hasHolder_5 rfl (lv_at hl 0 rfl) ?_
    refine gf_X0_18 (pc := 6) (v := .int v_T_holders) hX hB hT hO hE hP 0 rfl rfl dX0_hasHolder_6 ?_
    refine lv_icmp_ge (pc := 9) (tgt := 16) hX hB dX0_hasHolder_9 (by decide) (fun hq => ?_) (fun hq => ?_)
    · have hf := zs_ip hf hq
      refine lv_iconst (pc := 16) (v := 0) hX hB dX0_hasHolder_16 (by decide) ?_
      obtain rfl := Option.some.inj hf
      exact zs_zret (v := (0 : Int32)) (pc := 17) hX hB hR hK rfl hP hD hS dX0_hasHolder_17
    · have hf := zs_in hf hq
      refine lv_iconst (pc := 12) (v := 1) hX hB dX0_hasHolder_12 (by decide) ?_
      refine lv_goto (pc := 13) (tgt := 17) hX hB dX0_hasHolder_13 (by decide) ?_
      obtain rfl := Option.some.inj hf
      exact zs_zret (v := (1 : Int32)) (pc := 17) hX hB hR hK rfl hP hD hS dX0_hasHolder_17

def f_X0_isFull (v_T_holders : Int32) : Option (Int32) :=
  if v_T_holders < (6 : Int32) then (some (0 : Int32)) else (some (1 : Int32))
set_option maxHeartbeats 4000000 in
set_option maxRecDepth 100000 in
theorem c_X0_isFull (l : Launch) (g : GG) (sz : Nat) (a_T a_T_kinds a_T_extras a_T_factors a_T_told a_T_past : Nat) (v_T_number : Int32) (v_T_enough : Int32) (v_T_holders : Int32) (v_T_day : Int32) (v_T_tries : Int32) (v_T_shut : Int32) (v_T_pastCount : Int32) (o : Int32) (hf : f_X0_isFull v_T_holders = some o) : Met l yX0_isFull (Cond.code yX0_isFull cX0_isFull 1 (some .boolean) :: TB) { frames := 0, cells := 0, slots := 0, locals := 0 } (Pst g [(a_T, .inr (0, [.int v_T_number, .int v_T_enough, .int v_T_holders, .ref a_T_kinds, .ref a_T_extras, .ref a_T_factors, .int v_T_day, .int v_T_tries, .int v_T_shut, .ref a_T_told, .ref a_T_past, .int v_T_pastCount]))] [.ref a_T] sz) (Qst g [(a_T, .inr (0, [.int v_T_number, .int v_T_enough, .int v_T_holders, .ref a_T_kinds, .ref a_T_extras, .ref a_T_factors, .int v_T_day, .int v_T_tries, .int v_T_shut, .ref a_T_told, .ref a_T_past, .int v_T_pastCount]))] (some (.int o)) (va_A [(a_T, .inr (0, [.int v_T_number, .int v_T_enough, .int v_T_holders, .ref a_T_kinds, .ref a_T_extras, .ref a_T_factors, .int v_T_day, .int v_T_tries, .int v_T_shut, .ref a_T_told, .ref a_T_past, .int v_T_pastCount]))] sz)) 0 0 (va_A [(a_T, .inr (0, [.int v_T_number, .int v_T_enough, .int v_T_holders, .ref a_T_kinds, .ref a_T_extras, .ref a_T_factors, .int v_T_day, .int v_T_tries, .int v_T_shut, .ref a_T_told, .ref a_T_past, .int v_T_pastCount]))] sz) := by
  unfold f_X0_isFull at hf
  refine zs_met (own := RX0) (plainFor_of_name (by decide)) rfl (Nat.le_of_ble_eq_true rfl) ?_
  intro p e s m below meth c A ls hX hB hR hM hT hO hK hN hA hE hP hD hS hl
  have hl : lv_has ls 1 [(0, .ref a_T)] := hl
  refine lv_aload_n (pc := 0) hX hB dX0_isFull_0 rfl (lv_at hl 0 rfl) ?_
  refine gf_X0_18 (pc := 1) (v := .int v_T_holders) hX hB hT hO hE hP 0 rfl rfl dX0_isFull_1 ?_
  refine lv_bipush (pc := 4) (v := 6) hX hB dX0_isFull_4 (by decide) ?_
  refine lv_icmp_lt (pc := 6) (tgt := 13) hX hB dX0_isFull_6 (by decide) (fun hq => ?_) (fun hq => ?_)
  · have hf := zs_ip hf hq
    refine lv_iconst (pc := 13) (v := 0) hX hB dX0_isFull_13 (by decide) ?_
    obtain rfl := Option.some.inj hf
    exact zs_zret (v := (0 : Int32)) (pc := 14) hX hB hR hK rfl hP hD hS dX0_isFull_14
  · have hf := zs_in hf hq
    refine lv_iconst (pc := 9) (v := 1) hX hB dX0_isFull_9 (by decide) ?_
    refine lv_goto (pc := 10) (tgt := 14) hX hB dX0_isFull_10 (by decide) ?_
    obtain rfl := Option.some.inj hf
    exact zs_zret (v := (1 : Int32)) (pc := 14) hX hB hR hK rfl hP hD hS dX0_isFull_14

def b_X0_mixInto_90 (v_T_told_numbers : Nat → Int32) (x5 : Int64 × Int32) : Option ((Int64 × Int32) ⊕ (Int64)) :=
  if (6 : Int32) ≤ x5.2 then (some (Sum.inr x5.1)) else ((f_X2_numberAt v_T_told_numbers x5.2).bind (fun o7 => some (Sum.inl (((31 : Int64) * x5.1) + o7.toInt64, x5.2 + (1 : Int32)))))
def b_X0_mixInto_44 (v_T_holders : Int32) (v_T_kinds : Nat → Int32) (v_T_extras : Nat → Int32) (x3 : Int64 × Int32) : Option ((Int64 × Int32) ⊕ (Int64)) :=
  if v_T_holders ≤ x3.2 then (some (Sum.inr x3.1)) else ((f_X0_kindOf v_T_kinds x3.2).bind (fun o8 => (f_X0_extraOf v_T_extras x3.2).bind (fun o9 => some (Sum.inl (((31 : Int64) * (((31 : Int64) * x3.1) + o8.toInt64)) + o9.toInt64, x3.2 + (1 : Int32))))))
def b_X0_mixInto_15 (v_T_factors : Nat → Int32) (x1 : Int64 × Int32) : Option ((Int64 × Int32) ⊕ (Int64)) :=
  if (3 : Int32) < x1.2 then (some (Sum.inr x1.1)) else ((f_X0_factor v_T_factors x1.2).bind (fun o10 => some (Sum.inl (((31 : Int64) * x1.1) + o10.toInt64, x1.2 + (1 : Int32)))))
def f_X0_mixInto (v_T_number : Int32) (v_T_holders : Int32) (v_T_kinds : Nat → Int32) (v_T_extras : Nat → Int32) (v_T_factors : Nat → Int32) (v_T_told_numbers : Nat → Int32) (p1 : Int64) : Option (Int64) :=
  (lp (b_X0_mixInto_15 v_T_factors) 200 (((31 : Int64) * p1) + v_T_number.toInt64, (1 : Int32))).bind (fun y2 => (lp (b_X0_mixInto_44 v_T_holders v_T_kinds v_T_extras) 200 (y2, (0 : Int32))).bind (fun y4 => (lp (b_X0_mixInto_90 v_T_told_numbers) 200 (y4, (0 : Int32))).bind (fun y6 => some y6)))
set_option maxHeartbeats 4000000 in
set_option maxRecDepth 100000 in
theorem c_X0_mixInto (l : Launch) (g : GG) (sz : Nat) (a_T a_T_past a_T_kinds a_T_extras a_T_factors a_T_told a_T_told_numbers : Nat) (v_T_number : Int32) (v_T_enough : Int32) (v_T_holders : Int32) (v_T_day : Int32) (v_T_tries : Int32) (v_T_shut : Int32) (v_T_pastCount : Int32) (v_T_kinds : Nat → Int32) (v_T_extras : Nat → Int32) (v_T_factors : Nat → Int32) (v_T_told_numbers : Nat → Int32) (p1 : Int64) (o : Int64) (hf : f_X0_mixInto v_T_number v_T_holders v_T_kinds v_T_extras v_T_factors v_T_told_numbers p1 = some o) : Met l yX0_mixInto (Cond.code yX0_mixInto cX0_mixInto 6 (some .long) :: TB) { frames := 1, cells := 0, slots := 0, locals := 21 } (Pst g [(a_T, .inr (0, [.int v_T_number, .int v_T_enough, .int v_T_holders, .ref a_T_kinds, .ref a_T_extras, .ref a_T_factors, .int v_T_day, .int v_T_tries, .int v_T_shut, .ref a_T_told, .ref a_T_past, .int v_T_pastCount])), (a_T_kinds, .inl (gI g, 6, .inl v_T_kinds)), (a_T_extras, .inl (gI g, 6, .inl v_T_extras)), (a_T_factors, .inl (gI g, 3, .inl v_T_factors)), (a_T_told, .inr (2, [.ref a_T_told_numbers])), (a_T_told_numbers, .inl (gI g, 6, .inl v_T_told_numbers))] [.ref a_T, .long p1] sz) (Qst g [(a_T, .inr (0, [.int v_T_number, .int v_T_enough, .int v_T_holders, .ref a_T_kinds, .ref a_T_extras, .ref a_T_factors, .int v_T_day, .int v_T_tries, .int v_T_shut, .ref a_T_told, .ref a_T_past, .int v_T_pastCount])), (a_T_kinds, .inl (gI g, 6, .inl v_T_kinds)), (a_T_extras, .inl (gI g, 6, .inl v_T_extras)), (a_T_factors, .inl (gI g, 3, .inl v_T_factors)), (a_T_told, .inr (2, [.ref a_T_told_numbers])), (a_T_told_numbers, .inl (gI g, 6, .inl v_T_told_numbers))] (some (.long o)) (va_A [(a_T, .inr (0, [.int v_T_number, .int v_T_enough, .int v_T_holders, .ref a_T_kinds, .ref a_T_extras, .ref a_T_factors, .int v_T_day, .int v_T_tries, .int v_T_shut, .ref a_T_told, .ref a_T_past, .int v_T_pastCount])), (a_T_kinds, .inl (gI g, 6, .inl v_T_kinds)), (a_T_extras, .inl (gI g, 6, .inl v_T_extras)), (a_T_factors, .inl (gI g, 3, .inl v_T_factors)), (a_T_told, .inr (2, [.ref a_T_told_numbers])), (a_T_told_numbers, .inl (gI g, 6, .inl v_T_told_numbers))] sz)) 0 0 (va_A [(a_T, .inr (0, [.int v_T_number, .int v_T_enough, .int v_T_holders, .ref a_T_kinds, .ref a_T_extras, .ref a_T_factors, .int v_T_day, .int v_T_tries, .int v_T_shut, .ref a_T_told, .ref a_T_past, .int v_T_pastCount])), (a_T_kinds, .inl (gI g, 6, .inl v_T_kinds)), (a_T_extras, .inl (gI g, 6, .inl v_T_extras)), (a_T_factors, .inl (gI g, 3, .inl v_T_factors)), (a_T_told, .inr (2, [.ref a_T_told_numbers])), (a_T_told_numbers, .inl (gI g, 6, .inl v_T_told_numbers))] sz) := by
  unfold f_X0_mixInto at hf
  refine zs_met (own := RX0) (plainFor_of_name (by decide)) rfl (Nat.le_of_ble_eq_true rfl) ?_
  intro p e s m below meth c A ls hX hB hR hM hT hO hK hN hA hE hP hD hS hl
  have hl : lv_has ls 6 [(0, .ref a_T), (1, .long p1)] := hl
  refine lv_ldc2 (pc := 0) (v := 31) hX hB hO (hT _ tw_3_160) dX0_mixInto_0 ?_
  refine lv_lload_n (pc := 3) hX hB dX0_mixInto_3 rfl (lv_at hl 1 rfl) ?_
  refine lv_lmul (pc := 4) hX hB dX0_mixInto_4 ?_
  refine lv_aload_n (pc := 5) hX hB dX0_mixInto_5 rfl (lv_at hl 0 rfl) ?_
  refine gf_X0_9 (pc := 6) (v := .int v_T_number) hX hB hT hO hE hP 0 rfl rfl dX0_mixInto_6 ?_
  refine lv_i2l (pc := 9) (v := v_T_number.toInt64) hX hB dX0_mixInto_9 rfl ?_
  refine lv_ladd (pc := 10) hX hB dX0_mixInto_10 ?_
  refine lv_lstore_n (pc := 11) (lv' := [(3, .long (((31 : Int64) * p1) + v_T_number.toInt64)), (0, .ref a_T), (1, .long p1)]) hX hB dX0_mixInto_11 rfl hl (by decide) rfl (fun ls hl => ?_)
  refine lv_iconst (pc := 12) (v := 1) hX hB dX0_mixInto_12 (by decide) ?_
  refine lv_istore (pc := 13) (lv' := [(5, .int (1 : Int32)), (3, .long (((31 : Int64) * p1) + v_T_number.toInt64)), (0, .ref a_T), (1, .long p1)]) hX hB dX0_mixInto_13 hl (by decide) rfl (fun ls hl => ?_)
  obtain ⟨y2, hj, hf⟩ := zs_bind hf
  refine zs_then (α := Unit) (fun _ H locs ls => CC g A s.heap 6 [(a_T, .inr (0, [.int v_T_number, .int v_T_enough, .int v_T_holders, .ref a_T_kinds, .ref a_T_extras, .ref a_T_factors, .int v_T_day, .int v_T_tries, .int v_T_shut, .ref a_T_told, .ref a_T_past, .int v_T_pastCount])), (a_T_kinds, .inl (gI g, 6, .inl v_T_kinds)), (a_T_extras, .inl (gI g, 6, .inl v_T_extras)), (a_T_factors, .inl (gI g, 3, .inl v_T_factors)), (a_T_told, .inr (2, [.ref a_T_told_numbers])), (a_T_told_numbers, .inl (gI g, 6, .inl v_T_told_numbers))] [(0, .ref a_T), (3, .long y2)] H locs ls) (fun _ ls => F0 m 41 ls []) (fun _ H locs ls hC => ?_) (fun X => ?_)
  · obtain ⟨hP, hD, hS, hl⟩ := hC
    refine lv_iconst (pc := 41) (v := 0) hX hB dX0_mixInto_41 (by decide) ?_
    refine lv_istore (pc := 42) (lv' := [(5, .int (0 : Int32)), (0, .ref a_T), (3, .long y2)]) hX hB dX0_mixInto_42 hl (by decide) rfl (fun ls hl => ?_)
    obtain ⟨y4, hj, hf⟩ := zs_bind hf
    refine zs_then (α := Unit) (fun _ H locs ls => CC g A s.heap 6 [(a_T, .inr (0, [.int v_T_number, .int v_T_enough, .int v_T_holders, .ref a_T_kinds, .ref a_T_extras, .ref a_T_factors, .int v_T_day, .int v_T_tries, .int v_T_shut, .ref a_T_told, .ref a_T_past, .int v_T_pastCount])), (a_T_kinds, .inl (gI g, 6, .inl v_T_kinds)), (a_T_extras, .inl (gI g, 6, .inl v_T_extras)), (a_T_factors, .inl (gI g, 3, .inl v_T_factors)), (a_T_told, .inr (2, [.ref a_T_told_numbers])), (a_T_told_numbers, .inl (gI g, 6, .inl v_T_told_numbers))] [(0, .ref a_T), (3, .long y4)] H locs ls) (fun _ ls => F0 m 87 ls []) (fun _ H locs ls hC => ?_) (fun X => ?_)
    · obtain ⟨hP, hD, hS, hl⟩ := hC
      refine lv_iconst (pc := 87) (v := 0) hX hB dX0_mixInto_87 (by decide) ?_
      refine lv_istore (pc := 88) (lv' := [(5, .int (0 : Int32)), (0, .ref a_T), (3, .long y4)]) hX hB dX0_mixInto_88 hl (by decide) rfl (fun ls hl => ?_)
      obtain ⟨y6, hj, hf⟩ := zs_bind hf
      refine zs_then (α := Unit) (fun _ H locs ls => CC g A s.heap 6 [(a_T, .inr (0, [.int v_T_number, .int v_T_enough, .int v_T_holders, .ref a_T_kinds, .ref a_T_extras, .ref a_T_factors, .int v_T_day, .int v_T_tries, .int v_T_shut, .ref a_T_told, .ref a_T_past, .int v_T_pastCount])), (a_T_kinds, .inl (gI g, 6, .inl v_T_kinds)), (a_T_extras, .inl (gI g, 6, .inl v_T_extras)), (a_T_factors, .inl (gI g, 3, .inl v_T_factors)), (a_T_told, .inr (2, [.ref a_T_told_numbers])), (a_T_told_numbers, .inl (gI g, 6, .inl v_T_told_numbers))] [(3, .long y6)] H locs ls) (fun _ ls => F0 m 120 ls []) (fun _ H locs ls hC => ?_) (fun X => ?_)
      · obtain ⟨hP, hD, hS, hl⟩ := hC
        refine lv_lload_n (pc := 120) hX hB dX0_mixInto_120 rfl (lv_at hl 0 rfl) ?_
        obtain rfl := Option.some.inj hf
        exact zs_lret (pc := 121) hX hB hR hK hP hD hS dX0_mixInto_121
      · refine zs_loop (fun x5 H locs ls => CC g A s.heap 6 [(a_T, .inr (0, [.int v_T_number, .int v_T_enough, .int v_T_holders, .ref a_T_kinds, .ref a_T_extras, .ref a_T_factors, .int v_T_day, .int v_T_tries, .int v_T_shut, .ref a_T_told, .ref a_T_past, .int v_T_pastCount])), (a_T_kinds, .inl (gI g, 6, .inl v_T_kinds)), (a_T_extras, .inl (gI g, 6, .inl v_T_extras)), (a_T_factors, .inl (gI g, 3, .inl v_T_factors)), (a_T_told, .inr (2, [.ref a_T_told_numbers])), (a_T_told_numbers, .inl (gI g, 6, .inl v_T_told_numbers))] [(0, .ref a_T), (3, .long x5.1), (5, .int x5.2)] H locs ls) hj (fun n x5 q hf hr ih H locs ls hC => ?_) ⟨hP, hD, hS, lv_sub hl [1, 2, 0] rfl⟩
        obtain ⟨hP, hD, hS, hl⟩ := hC
        unfold b_X0_mixInto_90 at hf
        refine lv_iload (pc := 90) hX hB dX0_mixInto_90 (lv_at hl 2 rfl) ?_
        refine lv_bipush (pc := 92) (v := 6) hX hB dX0_mixInto_92 (by decide) ?_
        refine lv_icmp_ge (pc := 94) (tgt := 120) hX hB dX0_mixInto_94 (by decide) (fun hq => ?_) (fun hq => ?_)
        · have hf := zs_ip hf hq
          obtain rfl := Option.some.inj hf
          obtain rfl := hr
          exact X () _ _ _ ⟨hP, hD, hS, lv_sub hl [1] rfl⟩
        · have hf := zs_in hf hq
          refine lv_ldc2 (pc := 97) (v := 31) hX hB hO (hT _ tw_3_160) dX0_mixInto_97 ?_
          refine lv_lload_n (pc := 100) hX hB dX0_mixInto_100 rfl (lv_at hl 1 rfl) ?_
          refine lv_lmul (pc := 101) hX hB dX0_mixInto_101 ?_
          refine lv_aload_n (pc := 102) hX hB dX0_mixInto_102 rfl (lv_at hl 0 rfl) ?_
          refine gf_X0_44 (pc := 103) (v := .ref a_T_told) hX hB hT hO hE hP 0 rfl rfl dX0_mixInto_103 ?_
          refine lv_iload (pc := 106) hX hB dX0_mixInto_106 (lv_at hl 2 rfl) ?_
          obtain ⟨o7, hc, hf⟩ := zs_bind hf
          refine zs_V (q := (RX2, TX2, 1)) (ci := 2) (q0 := 4) (b := a_T_told) (pc := 108) (As := [.int x5.2]) (rest := [.long ((31 : Int64) * x5.1)]) (st1 := [.int o7, .long ((31 : Int64) * x5.1)]) (wc := [(a_T_told, .inr (2, [.ref a_T_told_numbers])), (a_T_told_numbers, .inl (gI g, 6, .inl v_T_told_numbers))]) (wr := [(a_T, .inr (0, [.int v_T_number, .int v_T_enough, .int v_T_holders, .ref a_T_kinds, .ref a_T_extras, .ref a_T_factors, .int v_T_day, .int v_T_tries, .int v_T_shut, .ref a_T_told, .ref a_T_past, .int v_T_pastCount])), (a_T_kinds, .inl (gI g, 6, .inl v_T_kinds)), (a_T_extras, .inl (gI g, 6, .inl v_T_extras)), (a_T_factors, .inl (gI g, 3, .inl v_T_factors))]) (w1 := [(a_T_told, .inr (2, [.ref a_T_told_numbers])), (a_T_told_numbers, .inl (gI g, 6, .inl v_T_told_numbers))]) (w2 := [(a_T, .inr (0, [.int v_T_number, .int v_T_enough, .int v_T_holders, .ref a_T_kinds, .ref a_T_extras, .ref a_T_factors, .int v_T_day, .int v_T_tries, .int v_T_shut, .ref a_T_told, .ref a_T_past, .int v_T_pastCount])), (a_T_kinds, .inl (gI g, 6, .inl v_T_kinds)), (a_T_extras, .inl (gI g, 6, .inl v_T_extras)), (a_T_factors, .inl (gI g, 3, .inl v_T_factors)), (a_T_told, .inr (2, [.ref a_T_told_numbers])), (a_T_told_numbers, .inl (gI g, 6, .inl v_T_told_numbers))]) (ov := some (.int o7)) lb_X2_numberAt lk_X0_140 hX hB hM hO hT hE hP hD hS hA (c_X2_numberAt l g _ a_T_told a_T_told_numbers v_T_told_numbers x5.2 o7 hc) ⟨rfl, rfl⟩ ⟨Nat.le_of_ble_eq_true rfl, Nat.le_of_ble_eq_true rfl⟩ rfl rfl [4, 5] [0, 1, 2, 3] [0, 1, 2, 3, 4, 5] rfl rfl rfl rfl (by decide) rfl rfl rfl rfl hl.1 (Nat.le_of_ble_eq_true rfl) ⟨Nat.zero_le _, Nat.zero_le _⟩ rfl dX0_mixInto_108 (fun H locs hP hD hS => ?_)
          refine lv_i2l (pc := 111) (v := o7.toInt64) hX hB dX0_mixInto_111 rfl ?_
          refine lv_ladd (pc := 112) hX hB dX0_mixInto_112 ?_
          refine lv_lstore_n (pc := 113) (lv' := [(3, .long (((31 : Int64) * x5.1) + o7.toInt64)), (0, .ref a_T), (5, .int x5.2)]) hX hB dX0_mixInto_113 rfl hl (by decide) rfl (fun ls hl => ?_)
          refine lv_iinc (pc := 114) (v := x5.2 + (1 : Int32)) (lv' := [(5, .int (x5.2 + (1 : Int32))), (3, .long (((31 : Int64) * x5.1) + o7.toInt64)), (0, .ref a_T)]) hX hB dX0_mixInto_114 hl (k := 2) rfl rfl (by decide) rfl (fun ls hl => ?_)
          refine lv_goto (pc := 117) (tgt := 90) hX hB dX0_mixInto_117 (by decide) ?_
          obtain rfl := Option.some.inj hf
          exact ih _ hr _ _ _ ⟨hP, hD, hS, lv_sub hl [2, 1, 0] rfl⟩
    · refine zs_loop (fun x3 H locs ls => CC g A s.heap 6 [(a_T, .inr (0, [.int v_T_number, .int v_T_enough, .int v_T_holders, .ref a_T_kinds, .ref a_T_extras, .ref a_T_factors, .int v_T_day, .int v_T_tries, .int v_T_shut, .ref a_T_told, .ref a_T_past, .int v_T_pastCount])), (a_T_kinds, .inl (gI g, 6, .inl v_T_kinds)), (a_T_extras, .inl (gI g, 6, .inl v_T_extras)), (a_T_factors, .inl (gI g, 3, .inl v_T_factors)), (a_T_told, .inr (2, [.ref a_T_told_numbers])), (a_T_told_numbers, .inl (gI g, 6, .inl v_T_told_numbers))] [(0, .ref a_T), (3, .long x3.1), (5, .int x3.2)] H locs ls) hj (fun n x3 q hf hr ih H locs ls hC => ?_) ⟨hP, hD, hS, lv_sub hl [1, 2, 0] rfl⟩
      obtain ⟨hP, hD, hS, hl⟩ := hC
      unfold b_X0_mixInto_44 at hf
      refine lv_iload (pc := 44) hX hB dX0_mixInto_44 (lv_at hl 2 rfl) ?_
      refine lv_aload_n (pc := 46) hX hB dX0_mixInto_46 rfl (lv_at hl 0 rfl) ?_
      refine gf_X0_18 (pc := 47) (v := .int v_T_holders) hX hB hT hO hE hP 0 rfl rfl dX0_mixInto_47 ?_
      refine lv_icmp_ge (pc := 50) (tgt := 87) hX hB dX0_mixInto_50 (by decide) (fun hq => ?_) (fun hq => ?_)
      · have hf := zs_ip hf hq
        obtain rfl := Option.some.inj hf
        obtain rfl := hr
        exact X () _ _ _ ⟨hP, hD, hS, lv_sub hl [0, 1] rfl⟩
      · have hf := zs_in hf hq
        refine lv_ldc2 (pc := 53) (v := 31) hX hB hO (hT _ tw_3_160) dX0_mixInto_53 ?_
        refine lv_lload_n (pc := 56) hX hB dX0_mixInto_56 rfl (lv_at hl 1 rfl) ?_
        refine lv_lmul (pc := 57) hX hB dX0_mixInto_57 ?_
        refine lv_aload_n (pc := 58) hX hB dX0_mixInto_58 rfl (lv_at hl 0 rfl) ?_
        refine lv_iload (pc := 59) hX hB dX0_mixInto_59 (lv_at hl 2 rfl) ?_
        obtain ⟨o8, hc, hf⟩ := zs_bind hf
        refine zs_V (q := (RX0, TX0, 12)) (ci := 0) (q0 := 0) (b := a_T) (pc := 61) (As := [.int x3.2]) (rest := [.long ((31 : Int64) * x3.1)]) (st1 := [.int o8, .long ((31 : Int64) * x3.1)]) (wc := [(a_T, .inr (0, [.int v_T_number, .int v_T_enough, .int v_T_holders, .ref a_T_kinds, .ref a_T_extras, .ref a_T_factors, .int v_T_day, .int v_T_tries, .int v_T_shut, .ref a_T_told, .ref a_T_past, .int v_T_pastCount])), (a_T_kinds, .inl (gI g, 6, .inl v_T_kinds))]) (wr := [(a_T_extras, .inl (gI g, 6, .inl v_T_extras)), (a_T_factors, .inl (gI g, 3, .inl v_T_factors)), (a_T_told, .inr (2, [.ref a_T_told_numbers])), (a_T_told_numbers, .inl (gI g, 6, .inl v_T_told_numbers))]) (w1 := [(a_T, .inr (0, [.int v_T_number, .int v_T_enough, .int v_T_holders, .ref a_T_kinds, .ref a_T_extras, .ref a_T_factors, .int v_T_day, .int v_T_tries, .int v_T_shut, .ref a_T_told, .ref a_T_past, .int v_T_pastCount])), (a_T_kinds, .inl (gI g, 6, .inl v_T_kinds))]) (w2 := [(a_T, .inr (0, [.int v_T_number, .int v_T_enough, .int v_T_holders, .ref a_T_kinds, .ref a_T_extras, .ref a_T_factors, .int v_T_day, .int v_T_tries, .int v_T_shut, .ref a_T_told, .ref a_T_past, .int v_T_pastCount])), (a_T_kinds, .inl (gI g, 6, .inl v_T_kinds)), (a_T_extras, .inl (gI g, 6, .inl v_T_extras)), (a_T_factors, .inl (gI g, 3, .inl v_T_factors)), (a_T_told, .inr (2, [.ref a_T_told_numbers])), (a_T_told_numbers, .inl (gI g, 6, .inl v_T_told_numbers))]) (ov := some (.int o8)) lb_X0_kindOf lk_X0_90 hX hB hM hO hT hE hP hD hS hA (c_X0_kindOf l g _ a_T a_T_extras a_T_factors a_T_told a_T_past a_T_kinds v_T_number v_T_enough v_T_holders v_T_day v_T_tries v_T_shut v_T_pastCount v_T_kinds x3.2 o8 hc) ⟨rfl, rfl⟩ ⟨Nat.le_of_ble_eq_true rfl, Nat.le_of_ble_eq_true rfl⟩ rfl rfl [0, 1] [2, 3, 4, 5] [4, 5, 0, 1, 2, 3] rfl rfl rfl rfl (by decide) rfl rfl rfl rfl hl.1 (Nat.le_of_ble_eq_true rfl) ⟨Nat.zero_le _, Nat.zero_le _⟩ rfl dX0_mixInto_61 (fun H locs hP hD hS => ?_)
        refine lv_i2l (pc := 64) (v := o8.toInt64) hX hB dX0_mixInto_64 rfl ?_
        refine lv_ladd (pc := 65) hX hB dX0_mixInto_65 ?_
        refine lv_lstore_n (pc := 66) (lv' := [(3, .long (((31 : Int64) * x3.1) + o8.toInt64)), (0, .ref a_T), (5, .int x3.2)]) hX hB dX0_mixInto_66 rfl hl (by decide) rfl (fun ls hl => ?_)
        refine lv_ldc2 (pc := 67) (v := 31) hX hB hO (hT _ tw_3_160) dX0_mixInto_67 ?_
        refine lv_lload_n (pc := 70) hX hB dX0_mixInto_70 rfl (lv_at hl 0 rfl) ?_
        refine lv_lmul (pc := 71) hX hB dX0_mixInto_71 ?_
        refine lv_aload_n (pc := 72) hX hB dX0_mixInto_72 rfl (lv_at hl 1 rfl) ?_
        refine lv_iload (pc := 73) hX hB dX0_mixInto_73 (lv_at hl 2 rfl) ?_
        obtain ⟨o9, hc, hf⟩ := zs_bind hf
        refine zs_V (q := (RX0, TX0, 12)) (ci := 0) (q0 := 0) (b := a_T) (pc := 75) (As := [.int x3.2]) (rest := [.long ((31 : Int64) * (((31 : Int64) * x3.1) + o8.toInt64))]) (st1 := [.int o9, .long ((31 : Int64) * (((31 : Int64) * x3.1) + o8.toInt64))]) (wc := [(a_T, .inr (0, [.int v_T_number, .int v_T_enough, .int v_T_holders, .ref a_T_kinds, .ref a_T_extras, .ref a_T_factors, .int v_T_day, .int v_T_tries, .int v_T_shut, .ref a_T_told, .ref a_T_past, .int v_T_pastCount])), (a_T_extras, .inl (gI g, 6, .inl v_T_extras))]) (wr := [(a_T_kinds, .inl (gI g, 6, .inl v_T_kinds)), (a_T_factors, .inl (gI g, 3, .inl v_T_factors)), (a_T_told, .inr (2, [.ref a_T_told_numbers])), (a_T_told_numbers, .inl (gI g, 6, .inl v_T_told_numbers))]) (w1 := [(a_T, .inr (0, [.int v_T_number, .int v_T_enough, .int v_T_holders, .ref a_T_kinds, .ref a_T_extras, .ref a_T_factors, .int v_T_day, .int v_T_tries, .int v_T_shut, .ref a_T_told, .ref a_T_past, .int v_T_pastCount])), (a_T_extras, .inl (gI g, 6, .inl v_T_extras))]) (w2 := [(a_T, .inr (0, [.int v_T_number, .int v_T_enough, .int v_T_holders, .ref a_T_kinds, .ref a_T_extras, .ref a_T_factors, .int v_T_day, .int v_T_tries, .int v_T_shut, .ref a_T_told, .ref a_T_past, .int v_T_pastCount])), (a_T_kinds, .inl (gI g, 6, .inl v_T_kinds)), (a_T_extras, .inl (gI g, 6, .inl v_T_extras)), (a_T_factors, .inl (gI g, 3, .inl v_T_factors)), (a_T_told, .inr (2, [.ref a_T_told_numbers])), (a_T_told_numbers, .inl (gI g, 6, .inl v_T_told_numbers))]) (ov := some (.int o9)) lb_X0_extraOf lk_X0_87 hX hB hM hO hT hE hP hD hS hA (c_X0_extraOf l g _ a_T a_T_kinds a_T_factors a_T_told a_T_past a_T_extras v_T_number v_T_enough v_T_holders v_T_day v_T_tries v_T_shut v_T_pastCount v_T_extras x3.2 o9 hc) ⟨rfl, rfl⟩ ⟨Nat.le_of_ble_eq_true rfl, Nat.le_of_ble_eq_true rfl⟩ rfl rfl [0, 2] [1, 3, 4, 5] [4, 0, 5, 1, 2, 3] rfl rfl rfl rfl (by decide) rfl rfl rfl rfl hl.1 (Nat.le_of_ble_eq_true rfl) ⟨Nat.zero_le _, Nat.zero_le _⟩ rfl dX0_mixInto_75 (fun H locs hP hD hS => ?_)
        refine lv_i2l (pc := 78) (v := o9.toInt64) hX hB dX0_mixInto_78 rfl ?_
        refine lv_ladd (pc := 79) hX hB dX0_mixInto_79 ?_
        refine lv_lstore_n (pc := 80) (lv' := [(3, .long (((31 : Int64) * (((31 : Int64) * x3.1) + o8.toInt64)) + o9.toInt64)), (0, .ref a_T), (5, .int x3.2)]) hX hB dX0_mixInto_80 rfl hl (by decide) rfl (fun ls hl => ?_)
        refine lv_iinc (pc := 81) (v := x3.2 + (1 : Int32)) (lv' := [(5, .int (x3.2 + (1 : Int32))), (3, .long (((31 : Int64) * (((31 : Int64) * x3.1) + o8.toInt64)) + o9.toInt64)), (0, .ref a_T)]) hX hB dX0_mixInto_81 hl (k := 2) rfl rfl (by decide) rfl (fun ls hl => ?_)
        refine lv_goto (pc := 84) (tgt := 44) hX hB dX0_mixInto_84 (by decide) ?_
        obtain rfl := Option.some.inj hf
        exact ih _ hr _ _ _ ⟨hP, hD, hS, lv_sub hl [2, 1, 0] rfl⟩
  · refine zs_loop (fun x1 H locs ls => CC g A s.heap 6 [(a_T, .inr (0, [.int v_T_number, .int v_T_enough, .int v_T_holders, .ref a_T_kinds, .ref a_T_extras, .ref a_T_factors, .int v_T_day, .int v_T_tries, .int v_T_shut, .ref a_T_told, .ref a_T_past, .int v_T_pastCount])), (a_T_kinds, .inl (gI g, 6, .inl v_T_kinds)), (a_T_extras, .inl (gI g, 6, .inl v_T_extras)), (a_T_factors, .inl (gI g, 3, .inl v_T_factors)), (a_T_told, .inr (2, [.ref a_T_told_numbers])), (a_T_told_numbers, .inl (gI g, 6, .inl v_T_told_numbers))] [(0, .ref a_T), (3, .long x1.1), (5, .int x1.2)] H locs ls) hj (fun n x1 q hf hr ih H locs ls hC => ?_) ⟨hP, hD, hS, lv_sub hl [2, 1, 0] rfl⟩
    obtain ⟨hP, hD, hS, hl⟩ := hC
    unfold b_X0_mixInto_15 at hf
    refine lv_iload (pc := 15) hX hB dX0_mixInto_15 (lv_at hl 2 rfl) ?_
    refine lv_iconst (pc := 17) (v := 3) hX hB dX0_mixInto_17 (by decide) ?_
    refine lv_icmp_gt (pc := 18) (tgt := 41) hX hB dX0_mixInto_18 (by decide) (fun hq => ?_) (fun hq => ?_)
    · have hf := zs_ip hf hq
      obtain rfl := Option.some.inj hf
      obtain rfl := hr
      exact X () _ _ _ ⟨hP, hD, hS, lv_sub hl [0, 1] rfl⟩
    · have hf := zs_in hf hq
      refine lv_ldc2 (pc := 21) (v := 31) hX hB hO (hT _ tw_3_160) dX0_mixInto_21 ?_
      refine lv_lload_n (pc := 24) hX hB dX0_mixInto_24 rfl (lv_at hl 1 rfl) ?_
      refine lv_lmul (pc := 25) hX hB dX0_mixInto_25 ?_
      refine lv_aload_n (pc := 26) hX hB dX0_mixInto_26 rfl (lv_at hl 0 rfl) ?_
      refine lv_iload (pc := 27) hX hB dX0_mixInto_27 (lv_at hl 2 rfl) ?_
      obtain ⟨o10, hc, hf⟩ := zs_bind hf
      refine zs_V (q := (RX0, TX0, 12)) (ci := 0) (q0 := 0) (b := a_T) (pc := 29) (As := [.int x1.2]) (rest := [.long ((31 : Int64) * x1.1)]) (st1 := [.int o10, .long ((31 : Int64) * x1.1)]) (wc := [(a_T, .inr (0, [.int v_T_number, .int v_T_enough, .int v_T_holders, .ref a_T_kinds, .ref a_T_extras, .ref a_T_factors, .int v_T_day, .int v_T_tries, .int v_T_shut, .ref a_T_told, .ref a_T_past, .int v_T_pastCount])), (a_T_factors, .inl (gI g, 3, .inl v_T_factors))]) (wr := [(a_T_kinds, .inl (gI g, 6, .inl v_T_kinds)), (a_T_extras, .inl (gI g, 6, .inl v_T_extras)), (a_T_told, .inr (2, [.ref a_T_told_numbers])), (a_T_told_numbers, .inl (gI g, 6, .inl v_T_told_numbers))]) (w1 := [(a_T, .inr (0, [.int v_T_number, .int v_T_enough, .int v_T_holders, .ref a_T_kinds, .ref a_T_extras, .ref a_T_factors, .int v_T_day, .int v_T_tries, .int v_T_shut, .ref a_T_told, .ref a_T_past, .int v_T_pastCount])), (a_T_factors, .inl (gI g, 3, .inl v_T_factors))]) (w2 := [(a_T, .inr (0, [.int v_T_number, .int v_T_enough, .int v_T_holders, .ref a_T_kinds, .ref a_T_extras, .ref a_T_factors, .int v_T_day, .int v_T_tries, .int v_T_shut, .ref a_T_told, .ref a_T_past, .int v_T_pastCount])), (a_T_kinds, .inl (gI g, 6, .inl v_T_kinds)), (a_T_extras, .inl (gI g, 6, .inl v_T_extras)), (a_T_factors, .inl (gI g, 3, .inl v_T_factors)), (a_T_told, .inr (2, [.ref a_T_told_numbers])), (a_T_told_numbers, .inl (gI g, 6, .inl v_T_told_numbers))]) (ov := some (.int o10)) lb_X0_factor lk_X0_77 hX hB hM hO hT hE hP hD hS hA (c_X0_factor l g _ a_T a_T_kinds a_T_extras a_T_told a_T_past a_T_factors v_T_number v_T_enough v_T_holders v_T_day v_T_tries v_T_shut v_T_pastCount v_T_factors x1.2 o10 hc) ⟨rfl, rfl⟩ ⟨Nat.le_of_ble_eq_true rfl, Nat.le_of_ble_eq_true rfl⟩ rfl rfl [0, 3] [1, 2, 4, 5] [4, 0, 1, 5, 2, 3] rfl rfl rfl rfl (by decide) rfl rfl rfl rfl hl.1 (Nat.le_of_ble_eq_true rfl) ⟨Nat.zero_le _, Nat.zero_le _⟩ rfl dX0_mixInto_29 (fun H locs hP hD hS => ?_)
      refine lv_i2l (pc := 32) (v := o10.toInt64) hX hB dX0_mixInto_32 rfl ?_
      refine lv_ladd (pc := 33) hX hB dX0_mixInto_33 ?_
      refine lv_lstore_n (pc := 34) (lv' := [(3, .long (((31 : Int64) * x1.1) + o10.toInt64)), (0, .ref a_T), (5, .int x1.2)]) hX hB dX0_mixInto_34 rfl hl (by decide) rfl (fun ls hl => ?_)
      refine lv_iinc (pc := 35) (v := x1.2 + (1 : Int32)) (lv' := [(5, .int (x1.2 + (1 : Int32))), (3, .long (((31 : Int64) * x1.1) + o10.toInt64)), (0, .ref a_T)]) hX hB dX0_mixInto_35 hl (k := 2) rfl rfl (by decide) rfl (fun ls hl => ?_)
      refine lv_goto (pc := 38) (tgt := 15) hX hB dX0_mixInto_38 (by decide) ?_
      obtain rfl := Option.some.inj hf
      exact ih _ hr _ _ _ ⟨hP, hD, hS, lv_sub hl [2, 1, 0] rfl⟩

def f_X0_outcome (v_T_number : Int32) (v_T_enough : Int32) (v_T_kinds : Nat → Int32) (v_T_extras : Nat → Int32) (v_T_factors : Nat → Int32) (v_P3_numbers : Nat → Int32) (p1 : Int32) (p2 : Int32) : Option (Int32 × (Nat → Int32)) :=
  (f_X0_collect v_T_number v_T_enough v_T_kinds v_T_extras v_T_factors v_P3_numbers p1 p2).bind (fun o1 => (f_X2_foundBy o1 v_T_enough).bind (fun o2 => if o2 = (-1 : Int32) then (some ((0 : Int32), o1)) else (if o2 = v_T_number then (some ((1 : Int32), o1)) else (some ((2 : Int32), o1)))))
set_option maxHeartbeats 4000000 in
set_option maxRecDepth 100000 in
theorem c_X0_outcome (l : Launch) (g : GG) (sz : Nat) (a_T a_T_told a_T_past a_T_kinds a_T_extras a_T_factors a_P3 a_P3_numbers : Nat) (v_T_number : Int32) (v_T_enough : Int32) (v_T_holders : Int32) (v_T_day : Int32) (v_T_tries : Int32) (v_T_shut : Int32) (v_T_pastCount : Int32) (v_T_kinds : Nat → Int32) (v_T_extras : Nat → Int32) (v_T_factors : Nat → Int32) (v_P3_numbers : Nat → Int32) (p1 : Int32) (p2 : Int32) (o : Int32 × (Nat → Int32)) (hf : f_X0_outcome v_T_number v_T_enough v_T_kinds v_T_extras v_T_factors v_P3_numbers p1 p2 = some o) : Met l yX0_outcome (Cond.code yX0_outcome cX0_outcome 5 (some .int) :: TB) { frames := 4, cells := 0, slots := 0, locals := 94 } (Pst g [(a_T, .inr (0, [.int v_T_number, .int v_T_enough, .int v_T_holders, .ref a_T_kinds, .ref a_T_extras, .ref a_T_factors, .int v_T_day, .int v_T_tries, .int v_T_shut, .ref a_T_told, .ref a_T_past, .int v_T_pastCount])), (a_T_kinds, .inl (gI g, 6, .inl v_T_kinds)), (a_T_extras, .inl (gI g, 6, .inl v_T_extras)), (a_T_factors, .inl (gI g, 3, .inl v_T_factors)), (a_P3, .inr (2, [.ref a_P3_numbers])), (a_P3_numbers, .inl (gI g, 6, .inl v_P3_numbers))] [.ref a_T, .int p1, .int p2, .ref a_P3] sz) (Qst g [(a_T, .inr (0, [.int v_T_number, .int v_T_enough, .int v_T_holders, .ref a_T_kinds, .ref a_T_extras, .ref a_T_factors, .int v_T_day, .int v_T_tries, .int v_T_shut, .ref a_T_told, .ref a_T_past, .int v_T_pastCount])), (a_T_kinds, .inl (gI g, 6, .inl v_T_kinds)), (a_T_extras, .inl (gI g, 6, .inl v_T_extras)), (a_T_factors, .inl (gI g, 3, .inl v_T_factors)), (a_P3, .inr (2, [.ref a_P3_numbers])), (a_P3_numbers, .inl (gI g, 6, .inl o.2))] (some (.int o.1)) (va_A [(a_T, .inr (0, [.int v_T_number, .int v_T_enough, .int v_T_holders, .ref a_T_kinds, .ref a_T_extras, .ref a_T_factors, .int v_T_day, .int v_T_tries, .int v_T_shut, .ref a_T_told, .ref a_T_past, .int v_T_pastCount])), (a_T_kinds, .inl (gI g, 6, .inl v_T_kinds)), (a_T_extras, .inl (gI g, 6, .inl v_T_extras)), (a_T_factors, .inl (gI g, 3, .inl v_T_factors)), (a_P3, .inr (2, [.ref a_P3_numbers])), (a_P3_numbers, .inl (gI g, 6, .inl v_P3_numbers))] sz)) 0 0 (va_A [(a_T, .inr (0, [.int v_T_number, .int v_T_enough, .int v_T_holders, .ref a_T_kinds, .ref a_T_extras, .ref a_T_factors, .int v_T_day, .int v_T_tries, .int v_T_shut, .ref a_T_told, .ref a_T_past, .int v_T_pastCount])), (a_T_kinds, .inl (gI g, 6, .inl v_T_kinds)), (a_T_extras, .inl (gI g, 6, .inl v_T_extras)), (a_T_factors, .inl (gI g, 3, .inl v_T_factors)), (a_P3, .inr (2, [.ref a_P3_numbers])), (a_P3_numbers, .inl (gI g, 6, .inl v_P3_numbers))] sz) := by
  unfold f_X0_outcome at hf
  refine zs_met (own := RX0) (plainFor_of_name (by decide)) rfl (Nat.le_of_ble_eq_true rfl) ?_
  intro p e s m below meth c A ls hX hB hR hM hT hO hK hN hA hE hP hD hS hl
  have hl : lv_has ls 5 [(0, .ref a_T), (1, .int p1), (2, .int p2), (3, .ref a_P3)] := hl
  refine lv_aload_n (pc := 0) hX hB dX0_outcome_0 rfl (lv_at hl 0 rfl) ?_
  refine lv_iload_n (pc := 1) hX hB dX0_outcome_1 rfl (lv_at hl 1 rfl) ?_
  refine lv_iload_n (pc := 2) hX hB dX0_outcome_2 rfl (lv_at hl 2 rfl) ?_
  refine lv_aload_n (pc := 3) hX hB dX0_outcome_3 rfl (lv_at hl 3 rfl) ?_
  obtain ⟨o1, hc, hf⟩ := zs_bind hf
  refine zs_V (q := (RX0, TX0, 12)) (ci := 0) (q0 := 0) (b := a_T) (pc := 4) (As := [.int p1, .int p2, .ref a_P3]) (rest := []) (st1 := []) (wc := [(a_T, .inr (0, [.int v_T_number, .int v_T_enough, .int v_T_holders, .ref a_T_kinds, .ref a_T_extras, .ref a_T_factors, .int v_T_day, .int v_T_tries, .int v_T_shut, .ref a_T_told, .ref a_T_past, .int v_T_pastCount])), (a_T_kinds, .inl (gI g, 6, .inl v_T_kinds)), (a_T_extras, .inl (gI g, 6, .inl v_T_extras)), (a_T_factors, .inl (gI g, 3, .inl v_T_factors)), (a_P3, .inr (2, [.ref a_P3_numbers])), (a_P3_numbers, .inl (gI g, 6, .inl v_P3_numbers))]) (wr := []) (w1 := [(a_T, .inr (0, [.int v_T_number, .int v_T_enough, .int v_T_holders, .ref a_T_kinds, .ref a_T_extras, .ref a_T_factors, .int v_T_day, .int v_T_tries, .int v_T_shut, .ref a_T_told, .ref a_T_past, .int v_T_pastCount])), (a_T_kinds, .inl (gI g, 6, .inl v_T_kinds)), (a_T_extras, .inl (gI g, 6, .inl v_T_extras)), (a_T_factors, .inl (gI g, 3, .inl v_T_factors)), (a_P3, .inr (2, [.ref a_P3_numbers])), (a_P3_numbers, .inl (gI g, 6, .inl o1))]) (w2 := [(a_T, .inr (0, [.int v_T_number, .int v_T_enough, .int v_T_holders, .ref a_T_kinds, .ref a_T_extras, .ref a_T_factors, .int v_T_day, .int v_T_tries, .int v_T_shut, .ref a_T_told, .ref a_T_past, .int v_T_pastCount])), (a_T_kinds, .inl (gI g, 6, .inl v_T_kinds)), (a_T_extras, .inl (gI g, 6, .inl v_T_extras)), (a_T_factors, .inl (gI g, 3, .inl v_T_factors)), (a_P3, .inr (2, [.ref a_P3_numbers])), (a_P3_numbers, .inl (gI g, 6, .inl o1))]) (ov := none) lb_X0_collect lk_X0_113 hX hB hM hO hT hE hP hD hS hA (c_X0_collect l g _ a_T a_T_told a_T_past a_T_kinds a_T_extras a_T_factors a_P3 a_P3_numbers v_T_number v_T_enough v_T_holders v_T_day v_T_tries v_T_shut v_T_pastCount v_T_kinds v_T_extras v_T_factors v_P3_numbers p1 p2 o1 hc) ⟨rfl, rfl⟩ ⟨Nat.le_of_ble_eq_true rfl, Nat.le_of_ble_eq_true rfl⟩ rfl rfl [0, 1, 2, 3, 4, 5] [] [0, 1, 2, 3, 4, 5] rfl rfl rfl rfl (by decide) rfl rfl rfl rfl hl.1 (Nat.le_of_ble_eq_true rfl) ⟨Nat.zero_le _, Nat.zero_le _⟩ rfl dX0_outcome_4 (fun H locs hP hD hS => ?_)
  refine lv_aload_n (pc := 7) hX hB dX0_outcome_7 rfl (lv_at hl 3 rfl) ?_
  refine lv_aload_n (pc := 8) hX hB dX0_outcome_8 rfl (lv_at hl 0 rfl) ?_
  refine gf_X0_15 (pc := 9) (v := .int v_T_enough) hX hB hT hO hE hP 0 rfl rfl dX0_outcome_9 ?_
  obtain ⟨o2, hc, hf⟩ := zs_bind hf
  refine zs_V (q := (RX2, TX2, 1)) (ci := 2) (q0 := 4) (b := a_P3) (pc := 12) (As := [.int v_T_enough]) (rest := []) (st1 := [.int o2]) (wc := [(a_P3, .inr (2, [.ref a_P3_numbers])), (a_P3_numbers, .inl (gI g, 6, .inl o1))]) (wr := [(a_T, .inr (0, [.int v_T_number, .int v_T_enough, .int v_T_holders, .ref a_T_kinds, .ref a_T_extras, .ref a_T_factors, .int v_T_day, .int v_T_tries, .int v_T_shut, .ref a_T_told, .ref a_T_past, .int v_T_pastCount])), (a_T_kinds, .inl (gI g, 6, .inl v_T_kinds)), (a_T_extras, .inl (gI g, 6, .inl v_T_extras)), (a_T_factors, .inl (gI g, 3, .inl v_T_factors))]) (w1 := [(a_P3, .inr (2, [.ref a_P3_numbers])), (a_P3_numbers, .inl (gI g, 6, .inl o1))]) (w2 := [(a_T, .inr (0, [.int v_T_number, .int v_T_enough, .int v_T_holders, .ref a_T_kinds, .ref a_T_extras, .ref a_T_factors, .int v_T_day, .int v_T_tries, .int v_T_shut, .ref a_T_told, .ref a_T_past, .int v_T_pastCount])), (a_T_kinds, .inl (gI g, 6, .inl v_T_kinds)), (a_T_extras, .inl (gI g, 6, .inl v_T_extras)), (a_T_factors, .inl (gI g, 3, .inl v_T_factors)), (a_P3, .inr (2, [.ref a_P3_numbers])), (a_P3_numbers, .inl (gI g, 6, .inl o1))]) (ov := some (.int o2)) lb_X2_foundBy lk_X0_117 hX hB hM hO hT hE hP hD hS hA (c_X2_foundBy l g _ a_P3 a_P3_numbers o1 v_T_enough o2 hc) ⟨rfl, rfl⟩ ⟨Nat.le_of_ble_eq_true rfl, Nat.le_of_ble_eq_true rfl⟩ rfl rfl [4, 5] [0, 1, 2, 3] [0, 1, 2, 3, 4, 5] rfl rfl rfl rfl (by decide) rfl rfl rfl rfl hl.1 (Nat.le_of_ble_eq_true rfl) ⟨Nat.zero_le _, Nat.zero_le _⟩ rfl dX0_outcome_12 (fun H locs hP hD hS => ?_)
  refine lv_istore (pc := 15) (lv' := [(4, .int o2), (0, .ref a_T), (1, .int p1), (2, .int p2), (3, .ref a_P3)]) hX hB dX0_outcome_15 hl (by decide) rfl (fun ls hl => ?_)
  refine lv_iload (pc := 17) hX hB dX0_outcome_17 (lv_at hl 0 rfl) ?_
  refine lv_iconst (pc := 19) (v := -1) hX hB dX0_outcome_19 (by decide) ?_
  refine lv_icmp_ne (pc := 20) (tgt := 25) hX hB dX0_outcome_20 (by decide) (fun hq => ?_) (fun hq => ?_)
  · have hf := zs_in hf hq
    refine lv_iload (pc := 25) hX hB dX0_outcome_25 (lv_at hl 0 rfl) ?_
    refine lv_aload_n (pc := 27) hX hB dX0_outcome_27 rfl (lv_at hl 1 rfl) ?_
    refine gf_X0_9 (pc := 28) (v := .int v_T_number) hX hB hT hO hE hP 0 rfl rfl dX0_outcome_28 ?_
    refine lv_icmp_ne (pc := 31) (tgt := 38) hX hB dX0_outcome_31 (by decide) (fun hq => ?_) (fun hq => ?_)
    · have hf := zs_in hf hq
      refine lv_iconst (pc := 38) (v := 2) hX hB dX0_outcome_38 (by decide) ?_
      obtain rfl := Option.some.inj hf
      exact zs_iret (pc := 39) hX hB hR hK hP hD hS dX0_outcome_39
    · have hf := zs_ip hf hq
      refine lv_iconst (pc := 34) (v := 1) hX hB dX0_outcome_34 (by decide) ?_
      refine lv_goto (pc := 35) (tgt := 39) hX hB dX0_outcome_35 (by decide) ?_
      obtain rfl := Option.some.inj hf
      exact zs_iret (pc := 39) hX hB hR hK hP hD hS dX0_outcome_39
  · have hf := zs_ip hf hq
    refine lv_iconst (pc := 23) (v := 0) hX hB dX0_outcome_23 (by decide) ?_
    obtain rfl := Option.some.inj hf
    exact zs_iret (pc := 24) hX hB hR hK hP hD hS dX0_outcome_24

def f_X0_passDay (v_T_number : Int32) (v_T_enough : Int32) (v_T_day : Int32) (v_T_tries : Int32) (v_T_shut : Int32) (v_T_kinds : Nat → Int32) (v_T_extras : Nat → Int32) (v_T_factors : Nat → Int32) (v_P2_numbers : Nat → Int32) (p1 : Int32) : Option (Int32 × Int32 × Int32 × Int32 × (Nat → Int32)) :=
  (if v_T_shut = (0 : Int32) then ((f_X0_outcome v_T_number v_T_enough v_T_kinds v_T_extras v_T_factors v_P2_numbers p1 v_T_day).bind (fun o5 => some (o5.1, o5.2))) else (some ((3 : Int32), v_P2_numbers))).bind (fun y1 => (if y1.1 = (1 : Int32) then (some (0 : Int32)) else (some v_T_tries)).bind (fun y2 => (if y1.1 = (2 : Int32) then ((f_X0_countWrongTry y2 (0 : Int32)).bind (fun o4 => some (o4.1, o4.2))) else (some (y2, (0 : Int32)))).bind (fun y3 => some (y1.1, v_T_day + (1 : Int32), y3.1, y3.2, y1.2))))
set_option maxHeartbeats 4000000 in
set_option maxRecDepth 100000 in
theorem c_X0_passDay (l : Launch) (g : GG) (sz : Nat) (a_T a_T_told a_T_past a_T_kinds a_T_extras a_T_factors a_P2 a_P2_numbers : Nat) (v_T_number : Int32) (v_T_enough : Int32) (v_T_holders : Int32) (v_T_day : Int32) (v_T_tries : Int32) (v_T_shut : Int32) (v_T_pastCount : Int32) (v_T_kinds : Nat → Int32) (v_T_extras : Nat → Int32) (v_T_factors : Nat → Int32) (v_P2_numbers : Nat → Int32) (p1 : Int32) (o : Int32 × Int32 × Int32 × Int32 × (Nat → Int32)) (hf : f_X0_passDay v_T_number v_T_enough v_T_day v_T_tries v_T_shut v_T_kinds v_T_extras v_T_factors v_P2_numbers p1 = some o) : Met l yX0_passDay (Cond.code yX0_passDay cX0_passDay 4 (some .int) :: TB) { frames := 5, cells := 0, slots := 0, locals := 118 } (Pst g [(a_T, .inr (0, [.int v_T_number, .int v_T_enough, .int v_T_holders, .ref a_T_kinds, .ref a_T_extras, .ref a_T_factors, .int v_T_day, .int v_T_tries, .int v_T_shut, .ref a_T_told, .ref a_T_past, .int v_T_pastCount])), (a_T_kinds, .inl (gI g, 6, .inl v_T_kinds)), (a_T_extras, .inl (gI g, 6, .inl v_T_extras)), (a_T_factors, .inl (gI g, 3, .inl v_T_factors)), (a_P2, .inr (2, [.ref a_P2_numbers])), (a_P2_numbers, .inl (gI g, 6, .inl v_P2_numbers))] [.ref a_T, .int p1, .ref a_P2] sz) (Qst g [(a_T, .inr (0, [.int v_T_number, .int v_T_enough, .int v_T_holders, .ref a_T_kinds, .ref a_T_extras, .ref a_T_factors, .int o.2.1, .int o.2.2.1, .int o.2.2.2.1, .ref a_T_told, .ref a_T_past, .int v_T_pastCount])), (a_T_kinds, .inl (gI g, 6, .inl v_T_kinds)), (a_T_extras, .inl (gI g, 6, .inl v_T_extras)), (a_T_factors, .inl (gI g, 3, .inl v_T_factors)), (a_P2, .inr (2, [.ref a_P2_numbers])), (a_P2_numbers, .inl (gI g, 6, .inl o.2.2.2.2))] (some (.int o.1)) (va_A [(a_T, .inr (0, [.int v_T_number, .int v_T_enough, .int v_T_holders, .ref a_T_kinds, .ref a_T_extras, .ref a_T_factors, .int v_T_day, .int v_T_tries, .int v_T_shut, .ref a_T_told, .ref a_T_past, .int v_T_pastCount])), (a_T_kinds, .inl (gI g, 6, .inl v_T_kinds)), (a_T_extras, .inl (gI g, 6, .inl v_T_extras)), (a_T_factors, .inl (gI g, 3, .inl v_T_factors)), (a_P2, .inr (2, [.ref a_P2_numbers])), (a_P2_numbers, .inl (gI g, 6, .inl v_P2_numbers))] sz)) 0 0 (va_A [(a_T, .inr (0, [.int v_T_number, .int v_T_enough, .int v_T_holders, .ref a_T_kinds, .ref a_T_extras, .ref a_T_factors, .int v_T_day, .int v_T_tries, .int v_T_shut, .ref a_T_told, .ref a_T_past, .int v_T_pastCount])), (a_T_kinds, .inl (gI g, 6, .inl v_T_kinds)), (a_T_extras, .inl (gI g, 6, .inl v_T_extras)), (a_T_factors, .inl (gI g, 3, .inl v_T_factors)), (a_P2, .inr (2, [.ref a_P2_numbers])), (a_P2_numbers, .inl (gI g, 6, .inl v_P2_numbers))] sz) := by
  unfold f_X0_passDay at hf
  refine zs_met (own := RX0) (plainFor_of_name (by decide)) rfl (Nat.le_of_ble_eq_true rfl) ?_
  intro p e s m below meth c A ls hX hB hR hM hT hO hK hN hA hE hP hD hS hl
  have hl : lv_has ls 4 [(0, .ref a_T), (1, .int p1), (2, .ref a_P2)] := hl
  refine lv_aload_n (pc := 0) hX hB dX0_passDay_0 rfl (lv_at hl 0 rfl) ?_
  refine gf_X0_37 (pc := 1) (v := .int v_T_shut) hX hB hT hO hE hP 0 rfl rfl dX0_passDay_1 ?_
  obtain ⟨y1, hj, hf⟩ := zs_bind hf
  refine zs_then (α := Unit) (fun _ H locs ls => CC g A s.heap 4 [(a_T, .inr (0, [.int v_T_number, .int v_T_enough, .int v_T_holders, .ref a_T_kinds, .ref a_T_extras, .ref a_T_factors, .int v_T_day, .int v_T_tries, .int v_T_shut, .ref a_T_told, .ref a_T_past, .int v_T_pastCount])), (a_T_kinds, .inl (gI g, 6, .inl v_T_kinds)), (a_T_extras, .inl (gI g, 6, .inl v_T_extras)), (a_T_factors, .inl (gI g, 3, .inl v_T_factors)), (a_P2, .inr (2, [.ref a_P2_numbers])), (a_P2_numbers, .inl (gI g, 6, .inl y1.2))] [(0, .ref a_T)] H locs ls) (fun _ ls => F0 m 21 ls [.int y1.1]) (fun _ H locs ls hC => ?_) (fun X => ?_)
  · obtain ⟨hP, hD, hS, hl⟩ := hC
    refine lv_istore_n (pc := 21) (lv' := [(3, .int y1.1), (0, .ref a_T)]) hX hB dX0_passDay_21 rfl hl (by decide) rfl (fun ls hl => ?_)
    refine lv_aload_n (pc := 22) hX hB dX0_passDay_22 rfl (lv_at hl 1 rfl) ?_
    refine lv_iconst (pc := 23) (v := 0) hX hB dX0_passDay_23 (by decide) ?_
    refine pf_X0_37 (pc := 24) (x := (0 : Int32)) (w2 := [(a_T, .inr (0, [.int v_T_number, .int v_T_enough, .int v_T_holders, .ref a_T_kinds, .ref a_T_extras, .ref a_T_factors, .int v_T_day, .int v_T_tries, .int (0 : Int32), .ref a_T_told, .ref a_T_past, .int v_T_pastCount])), (a_T_kinds, .inl (gI g, 6, .inl v_T_kinds)), (a_T_extras, .inl (gI g, 6, .inl v_T_extras)), (a_T_factors, .inl (gI g, 3, .inl v_T_factors)), (a_P2, .inr (2, [.ref a_P2_numbers])), (a_P2_numbers, .inl (gI g, 6, .inl y1.2))]) hX hB hT hO hE hP hD hS 0 rfl (Nat.le_of_ble_eq_true rfl) rfl rfl dX0_passDay_24 (fun H locs hP hD hS => ?_)
    refine lv_iload_n (pc := 27) hX hB dX0_passDay_27 rfl (lv_at hl 0 rfl) ?_
    refine lv_iconst (pc := 28) (v := 1) hX hB dX0_passDay_28 (by decide) ?_
    obtain ⟨y2, hj, hf⟩ := zs_bind hf
    refine zs_then (α := Unit) (fun _ H locs ls => CC g A s.heap 4 [(a_T, .inr (0, [.int v_T_number, .int v_T_enough, .int v_T_holders, .ref a_T_kinds, .ref a_T_extras, .ref a_T_factors, .int v_T_day, .int y2, .int (0 : Int32), .ref a_T_told, .ref a_T_past, .int v_T_pastCount])), (a_T_kinds, .inl (gI g, 6, .inl v_T_kinds)), (a_T_extras, .inl (gI g, 6, .inl v_T_extras)), (a_T_factors, .inl (gI g, 3, .inl v_T_factors)), (a_P2, .inr (2, [.ref a_P2_numbers])), (a_P2_numbers, .inl (gI g, 6, .inl y1.2))] [(0, .ref a_T), (3, .int y1.1)] H locs ls) (fun _ ls => F0 m 37 ls []) (fun _ H locs ls hC => ?_) (fun X => ?_)
    · obtain ⟨hP, hD, hS, hl⟩ := hC
      refine lv_iload_n (pc := 37) hX hB dX0_passDay_37 rfl (lv_at hl 1 rfl) ?_
      refine lv_iconst (pc := 38) (v := 2) hX hB dX0_passDay_38 (by decide) ?_
      obtain ⟨y3, hj, hf⟩ := zs_bind hf
      refine zs_then (α := Unit) (fun _ H locs ls => CC g A s.heap 4 [(a_T, .inr (0, [.int v_T_number, .int v_T_enough, .int v_T_holders, .ref a_T_kinds, .ref a_T_extras, .ref a_T_factors, .int v_T_day, .int y3.1, .int y3.2, .ref a_T_told, .ref a_T_past, .int v_T_pastCount])), (a_T_kinds, .inl (gI g, 6, .inl v_T_kinds)), (a_T_extras, .inl (gI g, 6, .inl v_T_extras)), (a_T_factors, .inl (gI g, 3, .inl v_T_factors)), (a_P2, .inr (2, [.ref a_P2_numbers])), (a_P2_numbers, .inl (gI g, 6, .inl y1.2))] [(0, .ref a_T), (3, .int y1.1)] H locs ls) (fun _ ls => F0 m 46 ls []) (fun _ H locs ls hC => ?_) (fun X => ?_)
      · obtain ⟨hP, hD, hS, hl⟩ := hC
        refine lv_aload_n (pc := 46) hX hB dX0_passDay_46 rfl (lv_at hl 0 rfl) ?_
        refine lv_dup (pc := 47) hX hB dX0_passDay_47 rfl ?_
        refine gf_X0_31 (pc := 48) (v := .int v_T_day) hX hB hT hO hE hP 0 rfl rfl dX0_passDay_48 ?_
        refine lv_iconst (pc := 51) (v := 1) hX hB dX0_passDay_51 (by decide) ?_
        refine lv_iadd (pc := 52) hX hB dX0_passDay_52 ?_
        refine pf_X0_31 (pc := 53) (x := v_T_day + (1 : Int32)) (w2 := [(a_T, .inr (0, [.int v_T_number, .int v_T_enough, .int v_T_holders, .ref a_T_kinds, .ref a_T_extras, .ref a_T_factors, .int (v_T_day + (1 : Int32)), .int y3.1, .int y3.2, .ref a_T_told, .ref a_T_past, .int v_T_pastCount])), (a_T_kinds, .inl (gI g, 6, .inl v_T_kinds)), (a_T_extras, .inl (gI g, 6, .inl v_T_extras)), (a_T_factors, .inl (gI g, 3, .inl v_T_factors)), (a_P2, .inr (2, [.ref a_P2_numbers])), (a_P2_numbers, .inl (gI g, 6, .inl y1.2))]) hX hB hT hO hE hP hD hS 0 rfl (Nat.le_of_ble_eq_true rfl) rfl dX0_passDay_53 (fun H locs hP hD hS => ?_)
        refine lv_iload_n (pc := 56) hX hB dX0_passDay_56 rfl (lv_at hl 1 rfl) ?_
        obtain rfl := Option.some.inj hf
        exact zs_iret (pc := 57) hX hB hR hK hP hD hS dX0_passDay_57
      · have hf := hj
        refine lv_icmp_ne (pc := 39) (tgt := 46) hX hB dX0_passDay_39 (by decide) (fun hq => ?_) (fun hq => ?_)
        · have hf := zs_in hf hq
          obtain rfl := Option.some.inj hf
          exact X () _ _ _ ⟨hP, hD, hS, lv_sub hl [0, 1] rfl⟩
        · have hf := zs_ip hf hq
          refine lv_aload_n (pc := 42) hX hB dX0_passDay_42 rfl (lv_at hl 0 rfl) ?_
          obtain ⟨o4, hc, hf⟩ := zs_bind hf
          refine zs_V (q := (RX0, TX0, 12)) (ci := 0) (q0 := 0) (b := a_T) (pc := 43) (As := []) (rest := []) (st1 := []) (wc := [(a_T, .inr (0, [.int v_T_number, .int v_T_enough, .int v_T_holders, .ref a_T_kinds, .ref a_T_extras, .ref a_T_factors, .int v_T_day, .int y2, .int (0 : Int32), .ref a_T_told, .ref a_T_past, .int v_T_pastCount]))]) (wr := [(a_T_kinds, .inl (gI g, 6, .inl v_T_kinds)), (a_T_extras, .inl (gI g, 6, .inl v_T_extras)), (a_T_factors, .inl (gI g, 3, .inl v_T_factors)), (a_P2, .inr (2, [.ref a_P2_numbers])), (a_P2_numbers, .inl (gI g, 6, .inl y1.2))]) (w1 := [(a_T, .inr (0, [.int v_T_number, .int v_T_enough, .int v_T_holders, .ref a_T_kinds, .ref a_T_extras, .ref a_T_factors, .int v_T_day, .int o4.1, .int o4.2, .ref a_T_told, .ref a_T_past, .int v_T_pastCount]))]) (w2 := [(a_T, .inr (0, [.int v_T_number, .int v_T_enough, .int v_T_holders, .ref a_T_kinds, .ref a_T_extras, .ref a_T_factors, .int v_T_day, .int o4.1, .int o4.2, .ref a_T_told, .ref a_T_past, .int v_T_pastCount])), (a_T_kinds, .inl (gI g, 6, .inl v_T_kinds)), (a_T_extras, .inl (gI g, 6, .inl v_T_extras)), (a_T_factors, .inl (gI g, 3, .inl v_T_factors)), (a_P2, .inr (2, [.ref a_P2_numbers])), (a_P2_numbers, .inl (gI g, 6, .inl y1.2))]) (ov := none) lb_X0_countWrongTry lk_X0_124 hX hB hM hO hT hE hP hD hS hA (c_X0_countWrongTry l g _ a_T a_T_kinds a_T_extras a_T_factors a_T_told a_T_past v_T_number v_T_enough v_T_holders v_T_day y2 (0 : Int32) v_T_pastCount o4 hc) ⟨rfl, rfl⟩ ⟨Nat.le_of_ble_eq_true rfl, Nat.le_of_ble_eq_true rfl⟩ rfl rfl [0] [1, 2, 3, 4, 5] [5, 0, 1, 2, 3, 4] rfl rfl rfl rfl (by decide) rfl rfl rfl rfl hl.1 (Nat.le_of_ble_eq_true rfl) ⟨Nat.zero_le _, Nat.zero_le _⟩ rfl dX0_passDay_43 (fun H locs hP hD hS => ?_)
          obtain rfl := Option.some.inj hf
          exact X () _ _ _ ⟨hP, hD, hS, lv_sub hl [0, 1] rfl⟩
    · have hf := hj
      refine lv_icmp_ne (pc := 29) (tgt := 37) hX hB dX0_passDay_29 (by decide) (fun hq => ?_) (fun hq => ?_)
      · have hf := zs_in hf hq
        obtain rfl := Option.some.inj hf
        exact X () _ _ _ ⟨hP, hD, hS, lv_sub hl [1, 0] rfl⟩
      · have hf := zs_ip hf hq
        refine lv_aload_n (pc := 32) hX hB dX0_passDay_32 rfl (lv_at hl 1 rfl) ?_
        refine lv_iconst (pc := 33) (v := 0) hX hB dX0_passDay_33 (by decide) ?_
        refine pf_X0_34 (pc := 34) (x := (0 : Int32)) (w2 := [(a_T, .inr (0, [.int v_T_number, .int v_T_enough, .int v_T_holders, .ref a_T_kinds, .ref a_T_extras, .ref a_T_factors, .int v_T_day, .int (0 : Int32), .int (0 : Int32), .ref a_T_told, .ref a_T_past, .int v_T_pastCount])), (a_T_kinds, .inl (gI g, 6, .inl v_T_kinds)), (a_T_extras, .inl (gI g, 6, .inl v_T_extras)), (a_T_factors, .inl (gI g, 3, .inl v_T_factors)), (a_P2, .inr (2, [.ref a_P2_numbers])), (a_P2_numbers, .inl (gI g, 6, .inl y1.2))]) hX hB hT hO hE hP hD hS 0 rfl (Nat.le_of_ble_eq_true rfl) rfl dX0_passDay_34 (fun H locs hP hD hS => ?_)
        obtain rfl := Option.some.inj hf
        exact X () _ _ _ ⟨hP, hD, hS, lv_sub hl [1, 0] rfl⟩
  · have hf := hj
    refine lv_if_eq (pc := 4) (tgt := 11) hX hB dX0_passDay_4 (by decide) (fun hq => ?_) (fun hq => ?_)
    · have hf := zs_ip hf hq
      refine lv_aload_n (pc := 11) hX hB dX0_passDay_11 rfl (lv_at hl 0 rfl) ?_
      refine lv_iload_n (pc := 12) hX hB dX0_passDay_12 rfl (lv_at hl 1 rfl) ?_
      refine lv_aload_n (pc := 13) hX hB dX0_passDay_13 rfl (lv_at hl 0 rfl) ?_
      refine gf_X0_31 (pc := 14) (v := .int v_T_day) hX hB hT hO hE hP 0 rfl rfl dX0_passDay_14 ?_
      refine lv_aload_n (pc := 17) hX hB dX0_passDay_17 rfl (lv_at hl 2 rfl) ?_
      obtain ⟨o5, hc, hf⟩ := zs_bind hf
      refine zs_V (q := (RX0, TX0, 12)) (ci := 0) (q0 := 0) (b := a_T) (pc := 18) (As := [.int p1, .int v_T_day, .ref a_P2]) (rest := []) (st1 := [.int o5.1]) (wc := [(a_T, .inr (0, [.int v_T_number, .int v_T_enough, .int v_T_holders, .ref a_T_kinds, .ref a_T_extras, .ref a_T_factors, .int v_T_day, .int v_T_tries, .int v_T_shut, .ref a_T_told, .ref a_T_past, .int v_T_pastCount])), (a_T_kinds, .inl (gI g, 6, .inl v_T_kinds)), (a_T_extras, .inl (gI g, 6, .inl v_T_extras)), (a_T_factors, .inl (gI g, 3, .inl v_T_factors)), (a_P2, .inr (2, [.ref a_P2_numbers])), (a_P2_numbers, .inl (gI g, 6, .inl v_P2_numbers))]) (wr := []) (w1 := [(a_T, .inr (0, [.int v_T_number, .int v_T_enough, .int v_T_holders, .ref a_T_kinds, .ref a_T_extras, .ref a_T_factors, .int v_T_day, .int v_T_tries, .int v_T_shut, .ref a_T_told, .ref a_T_past, .int v_T_pastCount])), (a_T_kinds, .inl (gI g, 6, .inl v_T_kinds)), (a_T_extras, .inl (gI g, 6, .inl v_T_extras)), (a_T_factors, .inl (gI g, 3, .inl v_T_factors)), (a_P2, .inr (2, [.ref a_P2_numbers])), (a_P2_numbers, .inl (gI g, 6, .inl o5.2))]) (w2 := [(a_T, .inr (0, [.int v_T_number, .int v_T_enough, .int v_T_holders, .ref a_T_kinds, .ref a_T_extras, .ref a_T_factors, .int v_T_day, .int v_T_tries, .int v_T_shut, .ref a_T_told, .ref a_T_past, .int v_T_pastCount])), (a_T_kinds, .inl (gI g, 6, .inl v_T_kinds)), (a_T_extras, .inl (gI g, 6, .inl v_T_extras)), (a_T_factors, .inl (gI g, 3, .inl v_T_factors)), (a_P2, .inr (2, [.ref a_P2_numbers])), (a_P2_numbers, .inl (gI g, 6, .inl o5.2))]) (ov := some (.int o5.1)) lb_X0_outcome lk_X0_120 hX hB hM hO hT hE hP hD hS hA (c_X0_outcome l g _ a_T a_T_told a_T_past a_T_kinds a_T_extras a_T_factors a_P2 a_P2_numbers v_T_number v_T_enough v_T_holders v_T_day v_T_tries v_T_shut v_T_pastCount v_T_kinds v_T_extras v_T_factors v_P2_numbers p1 v_T_day o5 hc) ⟨rfl, rfl⟩ ⟨Nat.le_of_ble_eq_true rfl, Nat.le_of_ble_eq_true rfl⟩ rfl rfl [0, 1, 2, 3, 4, 5] [] [0, 1, 2, 3, 4, 5] rfl rfl rfl rfl (by decide) rfl rfl rfl rfl hl.1 (Nat.le_of_ble_eq_true rfl) ⟨Nat.zero_le _, Nat.zero_le _⟩ rfl dX0_passDay_18 (fun H locs hP hD hS => ?_)
      obtain rfl := Option.some.inj hf
      exact X () _ _ _ ⟨hP, hD, hS, lv_sub hl [0] rfl⟩
    · have hf := zs_in hf hq
      refine lv_iconst (pc := 7) (v := 3) hX hB dX0_passDay_7 (by decide) ?_
      refine lv_goto (pc := 8) (tgt := 21) hX hB dX0_passDay_8 (by decide) ?_
      obtain rfl := Option.some.inj hf
      exact X () _ _ _ ⟨hP, hD, hS, lv_sub hl [0] rfl⟩

def b_X0_putShares_2 (v_T_number : Int32) (v_T_enough : Int32) (v_T_factors : Nat → Int32) (p1 : Int32) (x1 : Int32 × (Nat → Int32)) : Option ((Int32 × (Nat → Int32)) ⊕ ((Nat → Int32))) :=
  if (6 : Int32) ≤ x1.1 then (some (Sum.inr x1.2)) else ((f_X3_isIn p1 x1.1).bind (fun o3 => if o3 = (0 : Int32) then (some (Sum.inl (x1.1 + (1 : Int32), x1.2))) else ((f_X0_shareOf v_T_number v_T_enough v_T_factors x1.1).bind (fun o4 => (f_X2_put x1.2 x1.1 o4).bind (fun o5 => some (Sum.inl (x1.1 + (1 : Int32), o5)))))))
def f_X0_putShares (v_T_number : Int32) (v_T_enough : Int32) (v_T_factors : Nat → Int32) (v_P2_numbers : Nat → Int32) (p1 : Int32) : Option ((Nat → Int32)) :=
  (lp (b_X0_putShares_2 v_T_number v_T_enough v_T_factors p1) 200 ((0 : Int32), v_P2_numbers)).bind (fun y2 => some y2)
set_option maxHeartbeats 4000000 in
set_option maxRecDepth 100000 in
theorem c_X0_putShares (l : Launch) (g : GG) (sz : Nat) (a_T a_T_kinds a_T_extras a_T_told a_T_past a_T_factors a_P2 a_P2_numbers : Nat) (v_T_number : Int32) (v_T_enough : Int32) (v_T_holders : Int32) (v_T_day : Int32) (v_T_tries : Int32) (v_T_shut : Int32) (v_T_pastCount : Int32) (v_T_factors : Nat → Int32) (v_P2_numbers : Nat → Int32) (p1 : Int32) (o : (Nat → Int32)) (hf : f_X0_putShares v_T_number v_T_enough v_T_factors v_P2_numbers p1 = some o) : Met l yX0_putShares (Cond.code yX0_putShares cX0_putShares 4 none :: TB) { frames := 2, cells := 0, slots := 0, locals := 44 } (Pst g [(a_T, .inr (0, [.int v_T_number, .int v_T_enough, .int v_T_holders, .ref a_T_kinds, .ref a_T_extras, .ref a_T_factors, .int v_T_day, .int v_T_tries, .int v_T_shut, .ref a_T_told, .ref a_T_past, .int v_T_pastCount])), (a_T_factors, .inl (gI g, 3, .inl v_T_factors)), (a_P2, .inr (2, [.ref a_P2_numbers])), (a_P2_numbers, .inl (gI g, 6, .inl v_P2_numbers))] [.ref a_T, .int p1, .ref a_P2] sz) (Qst g [(a_T, .inr (0, [.int v_T_number, .int v_T_enough, .int v_T_holders, .ref a_T_kinds, .ref a_T_extras, .ref a_T_factors, .int v_T_day, .int v_T_tries, .int v_T_shut, .ref a_T_told, .ref a_T_past, .int v_T_pastCount])), (a_T_factors, .inl (gI g, 3, .inl v_T_factors)), (a_P2, .inr (2, [.ref a_P2_numbers])), (a_P2_numbers, .inl (gI g, 6, .inl o))] (none) (va_A [(a_T, .inr (0, [.int v_T_number, .int v_T_enough, .int v_T_holders, .ref a_T_kinds, .ref a_T_extras, .ref a_T_factors, .int v_T_day, .int v_T_tries, .int v_T_shut, .ref a_T_told, .ref a_T_past, .int v_T_pastCount])), (a_T_factors, .inl (gI g, 3, .inl v_T_factors)), (a_P2, .inr (2, [.ref a_P2_numbers])), (a_P2_numbers, .inl (gI g, 6, .inl v_P2_numbers))] sz)) 0 0 (va_A [(a_T, .inr (0, [.int v_T_number, .int v_T_enough, .int v_T_holders, .ref a_T_kinds, .ref a_T_extras, .ref a_T_factors, .int v_T_day, .int v_T_tries, .int v_T_shut, .ref a_T_told, .ref a_T_past, .int v_T_pastCount])), (a_T_factors, .inl (gI g, 3, .inl v_T_factors)), (a_P2, .inr (2, [.ref a_P2_numbers])), (a_P2_numbers, .inl (gI g, 6, .inl v_P2_numbers))] sz) := by
  unfold f_X0_putShares at hf
  refine zs_met (own := RX0) (plainFor_of_name (by decide)) rfl (Nat.le_of_ble_eq_true rfl) ?_
  intro p e s m below meth c A ls hX hB hR hM hT hO hK hN hA hE hP hD hS hl
  have hl : lv_has ls 4 [(0, .ref a_T), (1, .int p1), (2, .ref a_P2)] := hl
  refine lv_iconst (pc := 0) (v := 0) hX hB dX0_putShares_0 (by decide) ?_
  refine lv_istore_n (pc := 1) (lv' := [(3, .int (0 : Int32)), (0, .ref a_T), (1, .int p1), (2, .ref a_P2)]) hX hB dX0_putShares_1 rfl hl (by decide) rfl (fun ls hl => ?_)
  obtain ⟨y2, hj, hf⟩ := zs_bind hf
  refine zs_then (α := Unit) (fun _ H locs ls => CC g A s.heap 4 [(a_T, .inr (0, [.int v_T_number, .int v_T_enough, .int v_T_holders, .ref a_T_kinds, .ref a_T_extras, .ref a_T_factors, .int v_T_day, .int v_T_tries, .int v_T_shut, .ref a_T_told, .ref a_T_past, .int v_T_pastCount])), (a_T_factors, .inl (gI g, 3, .inl v_T_factors)), (a_P2, .inr (2, [.ref a_P2_numbers])), (a_P2_numbers, .inl (gI g, 6, .inl y2))] [] H locs ls) (fun _ ls => F0 m 32 ls []) (fun _ H locs ls hC => ?_) (fun X => ?_)
  · obtain ⟨hP, hD, hS, hl⟩ := hC
    obtain rfl := Option.some.inj hf
    exact zs_vret (pc := 32) hX hB hR hK hP hD hS dX0_putShares_32
  · refine zs_loop (fun x1 H locs ls => CC g A s.heap 4 [(a_T, .inr (0, [.int v_T_number, .int v_T_enough, .int v_T_holders, .ref a_T_kinds, .ref a_T_extras, .ref a_T_factors, .int v_T_day, .int v_T_tries, .int v_T_shut, .ref a_T_told, .ref a_T_past, .int v_T_pastCount])), (a_T_factors, .inl (gI g, 3, .inl v_T_factors)), (a_P2, .inr (2, [.ref a_P2_numbers])), (a_P2_numbers, .inl (gI g, 6, .inl x1.2))] [(0, .ref a_T), (1, .int p1), (2, .ref a_P2), (3, .int x1.1)] H locs ls) hj (fun n x1 q hf hr ih H locs ls hC => ?_) ⟨hP, hD, hS, lv_sub hl [1, 2, 3, 0] rfl⟩
    obtain ⟨hP, hD, hS, hl⟩ := hC
    unfold b_X0_putShares_2 at hf
    refine lv_iload_n (pc := 2) hX hB dX0_putShares_2 rfl (lv_at hl 3 rfl) ?_
    refine lv_bipush (pc := 3) (v := 6) hX hB dX0_putShares_3 (by decide) ?_
    refine lv_icmp_ge (pc := 5) (tgt := 32) hX hB dX0_putShares_5 (by decide) (fun hq => ?_) (fun hq => ?_)
    · have hf := zs_ip hf hq
      obtain rfl := Option.some.inj hf
      obtain rfl := hr
      exact X () _ _ _ ⟨hP, hD, hS, lv_sub hl [] rfl⟩
    · have hf := zs_in hf hq
      refine lv_iload_n (pc := 8) hX hB dX0_putShares_8 rfl (lv_at hl 1 rfl) ?_
      refine lv_iload_n (pc := 9) hX hB dX0_putShares_9 rfl (lv_at hl 3 rfl) ?_
      obtain ⟨o3, hc, hf⟩ := zs_bind hf
      refine zs_SN (pc := 10) (As := [.int p1, .int x1.1]) (rest := []) (st1 := [.int o3]) (wc := []) (wr := [(a_T, .inr (0, [.int v_T_number, .int v_T_enough, .int v_T_holders, .ref a_T_kinds, .ref a_T_extras, .ref a_T_factors, .int v_T_day, .int v_T_tries, .int v_T_shut, .ref a_T_told, .ref a_T_past, .int v_T_pastCount])), (a_T_factors, .inl (gI g, 3, .inl v_T_factors)), (a_P2, .inr (2, [.ref a_P2_numbers])), (a_P2_numbers, .inl (gI g, 6, .inl x1.2))]) (w1 := []) (w2 := [(a_T, .inr (0, [.int v_T_number, .int v_T_enough, .int v_T_holders, .ref a_T_kinds, .ref a_T_extras, .ref a_T_factors, .int v_T_day, .int v_T_tries, .int v_T_shut, .ref a_T_told, .ref a_T_past, .int v_T_pastCount])), (a_T_factors, .inl (gI g, 3, .inl v_T_factors)), (a_P2, .inr (2, [.ref a_P2_numbers])), (a_P2_numbers, .inl (gI g, 6, .inl x1.2))]) (ov := some (.int o3)) lb_X3_isIn lk_X0_97 hX hB hM hO hT hE hP hD hS hA (c_X3_isIn l g _ p1 x1.1 o3 hc) ⟨rfl, rfl⟩ ⟨Nat.le_of_ble_eq_true rfl, Nat.le_of_ble_eq_true rfl⟩ [] [0, 1, 2, 3] [0, 1, 2, 3] rfl rfl rfl rfl (by decide) rfl rfl rfl rfl hl.1 (Nat.le_of_ble_eq_true rfl) ⟨Nat.zero_le _, Nat.zero_le _⟩ rfl dX0_putShares_10 (fun H locs hP hD hS => ?_)
      refine lv_if_eq (pc := 13) (tgt := 26) hX hB dX0_putShares_13 (by decide) (fun hq => ?_) (fun hq => ?_)
      · have hf := zs_ip hf hq
        refine lv_iinc (pc := 26) (v := x1.1 + (1 : Int32)) (lv' := [(3, .int (x1.1 + (1 : Int32))), (0, .ref a_T), (1, .int p1), (2, .ref a_P2)]) hX hB dX0_putShares_26 hl (k := 3) rfl rfl (by decide) rfl (fun ls hl => ?_)
        refine lv_goto (pc := 29) (tgt := 2) hX hB dX0_putShares_29 (by decide) ?_
        obtain rfl := Option.some.inj hf
        exact ih _ hr _ _ _ ⟨hP, hD, hS, lv_sub hl [1, 2, 3, 0] rfl⟩
      · have hf := zs_in hf hq
        refine lv_aload_n (pc := 16) hX hB dX0_putShares_16 rfl (lv_at hl 2 rfl) ?_
        refine lv_iload_n (pc := 17) hX hB dX0_putShares_17 rfl (lv_at hl 3 rfl) ?_
        refine lv_aload_n (pc := 18) hX hB dX0_putShares_18 rfl (lv_at hl 0 rfl) ?_
        refine lv_iload_n (pc := 19) hX hB dX0_putShares_19 rfl (lv_at hl 3 rfl) ?_
        obtain ⟨o4, hc, hf⟩ := zs_bind hf
        refine zs_V (q := (RX0, TX0, 12)) (ci := 0) (q0 := 0) (b := a_T) (pc := 20) (As := [.int x1.1]) (rest := [.int x1.1, .ref a_P2]) (st1 := [.int o4, .int x1.1, .ref a_P2]) (wc := [(a_T, .inr (0, [.int v_T_number, .int v_T_enough, .int v_T_holders, .ref a_T_kinds, .ref a_T_extras, .ref a_T_factors, .int v_T_day, .int v_T_tries, .int v_T_shut, .ref a_T_told, .ref a_T_past, .int v_T_pastCount])), (a_T_factors, .inl (gI g, 3, .inl v_T_factors))]) (wr := [(a_P2, .inr (2, [.ref a_P2_numbers])), (a_P2_numbers, .inl (gI g, 6, .inl x1.2))]) (w1 := [(a_T, .inr (0, [.int v_T_number, .int v_T_enough, .int v_T_holders, .ref a_T_kinds, .ref a_T_extras, .ref a_T_factors, .int v_T_day, .int v_T_tries, .int v_T_shut, .ref a_T_told, .ref a_T_past, .int v_T_pastCount])), (a_T_factors, .inl (gI g, 3, .inl v_T_factors))]) (w2 := [(a_T, .inr (0, [.int v_T_number, .int v_T_enough, .int v_T_holders, .ref a_T_kinds, .ref a_T_extras, .ref a_T_factors, .int v_T_day, .int v_T_tries, .int v_T_shut, .ref a_T_told, .ref a_T_past, .int v_T_pastCount])), (a_T_factors, .inl (gI g, 3, .inl v_T_factors)), (a_P2, .inr (2, [.ref a_P2_numbers])), (a_P2_numbers, .inl (gI g, 6, .inl x1.2))]) (ov := some (.int o4)) lb_X0_shareOf lk_X0_84 hX hB hM hO hT hE hP hD hS hA (c_X0_shareOf l g _ a_T a_T_kinds a_T_extras a_T_told a_T_past a_T_factors v_T_number v_T_enough v_T_holders v_T_day v_T_tries v_T_shut v_T_pastCount v_T_factors x1.1 o4 hc) ⟨rfl, rfl⟩ ⟨Nat.le_of_ble_eq_true rfl, Nat.le_of_ble_eq_true rfl⟩ rfl rfl [0, 1] [2, 3] [2, 3, 0, 1] rfl rfl rfl rfl (by decide) rfl rfl rfl rfl hl.1 (Nat.le_of_ble_eq_true rfl) ⟨Nat.zero_le _, Nat.zero_le _⟩ rfl dX0_putShares_20 (fun H locs hP hD hS => ?_)
        obtain ⟨o5, hc, hf⟩ := zs_bind hf
        refine zs_V (q := (RX2, TX2, 1)) (ci := 2) (q0 := 2) (b := a_P2) (pc := 23) (As := [.int x1.1, .int o4]) (rest := []) (st1 := []) (wc := [(a_P2, .inr (2, [.ref a_P2_numbers])), (a_P2_numbers, .inl (gI g, 6, .inl x1.2))]) (wr := [(a_T, .inr (0, [.int v_T_number, .int v_T_enough, .int v_T_holders, .ref a_T_kinds, .ref a_T_extras, .ref a_T_factors, .int v_T_day, .int v_T_tries, .int v_T_shut, .ref a_T_told, .ref a_T_past, .int v_T_pastCount])), (a_T_factors, .inl (gI g, 3, .inl v_T_factors))]) (w1 := [(a_P2, .inr (2, [.ref a_P2_numbers])), (a_P2_numbers, .inl (gI g, 6, .inl o5))]) (w2 := [(a_T, .inr (0, [.int v_T_number, .int v_T_enough, .int v_T_holders, .ref a_T_kinds, .ref a_T_extras, .ref a_T_factors, .int v_T_day, .int v_T_tries, .int v_T_shut, .ref a_T_told, .ref a_T_past, .int v_T_pastCount])), (a_T_factors, .inl (gI g, 3, .inl v_T_factors)), (a_P2, .inr (2, [.ref a_P2_numbers])), (a_P2_numbers, .inl (gI g, 6, .inl o5))]) (ov := none) lb_X2_put lk_X0_100 hX hB hM hO hT hE hP hD hS hA (c_X2_put l g _ a_P2 a_P2_numbers x1.2 x1.1 o4 o5 hc) ⟨rfl, rfl⟩ ⟨Nat.le_of_ble_eq_true rfl, Nat.le_of_ble_eq_true rfl⟩ rfl rfl [2, 3] [0, 1] [0, 1, 2, 3] rfl rfl rfl rfl (by decide) rfl rfl rfl rfl hl.1 (Nat.le_of_ble_eq_true rfl) ⟨Nat.zero_le _, Nat.zero_le _⟩ rfl dX0_putShares_23 (fun H locs hP hD hS => ?_)
        refine lv_iinc (pc := 26) (v := x1.1 + (1 : Int32)) (lv' := [(3, .int (x1.1 + (1 : Int32))), (0, .ref a_T), (1, .int p1), (2, .ref a_P2)]) hX hB dX0_putShares_26 hl (k := 3) rfl rfl (by decide) rfl (fun ls hl => ?_)
        refine lv_goto (pc := 29) (tgt := 2) hX hB dX0_putShares_29 (by decide) ?_
        obtain rfl := Option.some.inj hf
        exact ih _ hr _ _ _ ⟨hP, hD, hS, lv_sub hl [1, 2, 3, 0] rfl⟩

def f_X0_remember (v_T_day : Int32) (v_T_tries : Int32) (v_T_shut : Int32) (v_T_pastCount : Int32) (v_T_factors : Nat → Int32) (v_T_past : Nat → Int32) : Option (Int32 × (Nat → Int32)) :=
  (if v_T_pastCount < (8 : Int32) then (some (v_T_pastCount, v_T_past)) else (gd (decide (¬ (6 : Int32) < 0 ∧ ¬ (0 : Int32) < 0 ∧ ¬ (42 : Int32) < 0 ∧ (6 : Int32).toNatClampNeg + (42 : Int32).toNatClampNeg ≤ 48 ∧ (0 : Int32).toNatClampNeg + (42 : Int32).toNatClampNeg ≤ 48)) (some ((7 : Int32), va_cpy v_T_past v_T_past (6 : Int32).toNatClampNeg (0 : Int32).toNatClampNeg (42 : Int32).toNatClampNeg)))).bind (fun y1 => if (y1.1 * (6 : Int32)) < (0 : Int32) then (some (y1.1, y1.2)) else (if (48 : Int32) < ((y1.1 * (6 : Int32)) + (6 : Int32)) then (some (y1.1, y1.2)) else (gd (inb (y1.1 * (6 : Int32)) 48) (gd (inb ((y1.1 * (6 : Int32)) + (1 : Int32)) 48) ((if v_T_shut = (0 : Int32) then (some (0 : Int32)) else (some (1 : Int32))).bind (fun y2 => gd (inb ((y1.1 * (6 : Int32)) + (2 : Int32)) 48) (gd (decide (¬ (0 : Int32) < 0 ∧ ¬ ((y1.1 * (6 : Int32)) + (3 : Int32)) < 0 ∧ ¬ (3 : Int32) < 0 ∧ (0 : Int32).toNatClampNeg + (3 : Int32).toNatClampNeg ≤ 3 ∧ ((y1.1 * (6 : Int32)) + (3 : Int32)).toNatClampNeg + (3 : Int32).toNatClampNeg ≤ 48)) (some (y1.1 + (1 : Int32), va_cpy v_T_factors (upd (upd (upd y1.2 (y1.1 * (6 : Int32)).toNatClampNeg v_T_day) ((y1.1 * (6 : Int32)) + (1 : Int32)).toNatClampNeg v_T_tries) ((y1.1 * (6 : Int32)) + (2 : Int32)).toNatClampNeg y2) (0 : Int32).toNatClampNeg ((y1.1 * (6 : Int32)) + (3 : Int32)).toNatClampNeg (3 : Int32).toNatClampNeg)))))))))
set_option maxHeartbeats 4000000 in
set_option maxRecDepth 100000 in
theorem c_X0_remember (l : Launch) (g : GG) (sz : Nat) (a_T a_T_kinds a_T_extras a_T_told a_T_factors a_T_past : Nat) (v_T_number : Int32) (v_T_enough : Int32) (v_T_holders : Int32) (v_T_day : Int32) (v_T_tries : Int32) (v_T_shut : Int32) (v_T_pastCount : Int32) (v_T_factors : Nat → Int32) (v_T_past : Nat → Int32) (o : Int32 × (Nat → Int32)) (hf : f_X0_remember v_T_day v_T_tries v_T_shut v_T_pastCount v_T_factors v_T_past = some o) : Met l yX0_remember (Cond.code yX0_remember cX0_remember 2 none :: TB) { frames := 1, cells := 0, slots := 0, locals := 40 } (Pst g [(a_T, .inr (0, [.int v_T_number, .int v_T_enough, .int v_T_holders, .ref a_T_kinds, .ref a_T_extras, .ref a_T_factors, .int v_T_day, .int v_T_tries, .int v_T_shut, .ref a_T_told, .ref a_T_past, .int v_T_pastCount])), (a_T_factors, .inl (gI g, 3, .inl v_T_factors)), (a_T_past, .inl (gI g, 48, .inl v_T_past))] [.ref a_T] sz) (Qst g [(a_T, .inr (0, [.int v_T_number, .int v_T_enough, .int v_T_holders, .ref a_T_kinds, .ref a_T_extras, .ref a_T_factors, .int v_T_day, .int v_T_tries, .int v_T_shut, .ref a_T_told, .ref a_T_past, .int o.1])), (a_T_factors, .inl (gI g, 3, .inl v_T_factors)), (a_T_past, .inl (gI g, 48, .inl o.2))] (none) (va_A [(a_T, .inr (0, [.int v_T_number, .int v_T_enough, .int v_T_holders, .ref a_T_kinds, .ref a_T_extras, .ref a_T_factors, .int v_T_day, .int v_T_tries, .int v_T_shut, .ref a_T_told, .ref a_T_past, .int v_T_pastCount])), (a_T_factors, .inl (gI g, 3, .inl v_T_factors)), (a_T_past, .inl (gI g, 48, .inl v_T_past))] sz)) 0 0 (va_A [(a_T, .inr (0, [.int v_T_number, .int v_T_enough, .int v_T_holders, .ref a_T_kinds, .ref a_T_extras, .ref a_T_factors, .int v_T_day, .int v_T_tries, .int v_T_shut, .ref a_T_told, .ref a_T_past, .int v_T_pastCount])), (a_T_factors, .inl (gI g, 3, .inl v_T_factors)), (a_T_past, .inl (gI g, 48, .inl v_T_past))] sz) := by
  unfold f_X0_remember at hf
  refine zs_met (own := RX0) (plainFor_of_name (by decide)) rfl (Nat.le_of_ble_eq_true rfl) ?_
  intro p e s m below meth c A ls hX hB hR hM hT hO hK hN hA hE hP hD hS hl
  have hl : lv_has ls 2 [(0, .ref a_T)] := hl
  refine lv_aload_n (pc := 0) hX hB dX0_remember_0 rfl (lv_at hl 0 rfl) ?_
  refine gf_X0_51 (pc := 1) (v := .int v_T_pastCount) hX hB hT hO hE hP 0 rfl rfl dX0_remember_1 ?_
  refine lv_bipush (pc := 4) (v := 8) hX hB dX0_remember_4 (by decide) ?_
  obtain ⟨y1, hj, hf⟩ := zs_bind hf
  refine zs_then (α := Unit) (fun _ H locs ls => CC g A s.heap 2 [(a_T, .inr (0, [.int v_T_number, .int v_T_enough, .int v_T_holders, .ref a_T_kinds, .ref a_T_extras, .ref a_T_factors, .int v_T_day, .int v_T_tries, .int v_T_shut, .ref a_T_told, .ref a_T_past, .int y1.1])), (a_T_factors, .inl (gI g, 3, .inl v_T_factors)), (a_T_past, .inl (gI g, 48, .inl y1.2))] [(0, .ref a_T)] H locs ls) (fun _ ls => F0 m 31 ls []) (fun _ H locs ls hC => ?_) (fun X => ?_)
  · obtain ⟨hP, hD, hS, hl⟩ := hC
    refine lv_aload_n (pc := 31) hX hB dX0_remember_31 rfl (lv_at hl 0 rfl) ?_
    refine gf_X0_51 (pc := 32) (v := .int y1.1) hX hB hT hO hE hP 0 rfl rfl dX0_remember_32 ?_
    refine lv_bipush (pc := 35) (v := 6) hX hB dX0_remember_35 (by decide) ?_
    refine lv_imul (pc := 37) hX hB dX0_remember_37 ?_
    refine lv_istore_n (pc := 38) (lv' := [(1, .int (y1.1 * (6 : Int32))), (0, .ref a_T)]) hX hB dX0_remember_38 rfl hl (by decide) rfl (fun ls hl => ?_)
    refine lv_iload_n (pc := 39) hX hB dX0_remember_39 rfl (lv_at hl 0 rfl) ?_
    refine lv_if_lt (pc := 40) (tgt := 123) hX hB dX0_remember_40 (by decide) (fun hq => ?_) (fun hq => ?_)
    · have hf := zs_ip hf hq
      obtain rfl := Option.some.inj hf
      exact zs_vret (pc := 123) hX hB hR hK hP hD hS dX0_remember_123
    · have hf := zs_in hf hq
      refine lv_iload_n (pc := 43) hX hB dX0_remember_43 rfl (lv_at hl 0 rfl) ?_
      refine lv_bipush (pc := 44) (v := 6) hX hB dX0_remember_44 (by decide) ?_
      refine lv_iadd (pc := 46) hX hB dX0_remember_46 ?_
      refine lv_aload_n (pc := 47) hX hB dX0_remember_47 rfl (lv_at hl 1 rfl) ?_
      refine gf_X0_48 (pc := 48) (v := .ref a_T_past) hX hB hT hO hE hP 0 rfl rfl dX0_remember_48 ?_
      refine va_alen (pc := 51) hX hB hE.1 hP 2 0 rfl rfl (v := (48 : Int32)) rfl dX0_remember_51 ?_
      refine lv_icmp_gt (pc := 52) (tgt := 123) hX hB dX0_remember_52 (by decide) (fun hq => ?_) (fun hq => ?_)
      · have hf := zs_ip hf hq
        obtain rfl := Option.some.inj hf
        exact zs_vret (pc := 123) hX hB hR hK hP hD hS dX0_remember_123
      · have hf := zs_in hf hq
        refine lv_aload_n (pc := 55) hX hB dX0_remember_55 rfl (lv_at hl 1 rfl) ?_
        refine gf_X0_48 (pc := 56) (v := .ref a_T_past) hX hB hT hO hE hP 0 rfl rfl dX0_remember_56 ?_
        refine lv_iload_n (pc := 59) hX hB dX0_remember_59 rfl (lv_at hl 0 rfl) ?_
        refine lv_aload_n (pc := 60) hX hB dX0_remember_60 rfl (lv_at hl 1 rfl) ?_
        refine gf_X0_31 (pc := 61) (v := .int v_T_day) hX hB hT hO hE hP 0 rfl rfl dX0_remember_61 ?_
        obtain ⟨hg, hf⟩ := zs_gd hf
        refine zs_iast (pc := 64) (w2 := [(a_T, .inr (0, [.int v_T_number, .int v_T_enough, .int v_T_holders, .ref a_T_kinds, .ref a_T_extras, .ref a_T_factors, .int v_T_day, .int v_T_tries, .int v_T_shut, .ref a_T_told, .ref a_T_past, .int y1.1])), (a_T_factors, .inl (gI g, 3, .inl v_T_factors)), (a_T_past, .inl (gI g, 48, .inl (upd y1.2 (y1.1 * (6 : Int32)).toNatClampNeg v_T_day)))]) hX hB hE hP hD hS 2 rfl (zs_inb hg) rfl dX0_remember_64 (fun H locs hP hD hS => ?_)
        refine lv_aload_n (pc := 65) hX hB dX0_remember_65 rfl (lv_at hl 1 rfl) ?_
        refine gf_X0_48 (pc := 66) (v := .ref a_T_past) hX hB hT hO hE hP 0 rfl rfl dX0_remember_66 ?_
        refine lv_iload_n (pc := 69) hX hB dX0_remember_69 rfl (lv_at hl 0 rfl) ?_
        refine lv_iconst (pc := 70) (v := 1) hX hB dX0_remember_70 (by decide) ?_
        refine lv_iadd (pc := 71) hX hB dX0_remember_71 ?_
        refine lv_aload_n (pc := 72) hX hB dX0_remember_72 rfl (lv_at hl 1 rfl) ?_
        refine gf_X0_34 (pc := 73) (v := .int v_T_tries) hX hB hT hO hE hP 0 rfl rfl dX0_remember_73 ?_
        obtain ⟨hg, hf⟩ := zs_gd hf
        refine zs_iast (pc := 76) (w2 := [(a_T, .inr (0, [.int v_T_number, .int v_T_enough, .int v_T_holders, .ref a_T_kinds, .ref a_T_extras, .ref a_T_factors, .int v_T_day, .int v_T_tries, .int v_T_shut, .ref a_T_told, .ref a_T_past, .int y1.1])), (a_T_factors, .inl (gI g, 3, .inl v_T_factors)), (a_T_past, .inl (gI g, 48, .inl (upd (upd y1.2 (y1.1 * (6 : Int32)).toNatClampNeg v_T_day) ((y1.1 * (6 : Int32)) + (1 : Int32)).toNatClampNeg v_T_tries)))]) hX hB hE hP hD hS 2 rfl (zs_inb hg) rfl dX0_remember_76 (fun H locs hP hD hS => ?_)
        refine lv_aload_n (pc := 77) hX hB dX0_remember_77 rfl (lv_at hl 1 rfl) ?_
        refine gf_X0_48 (pc := 78) (v := .ref a_T_past) hX hB hT hO hE hP 0 rfl rfl dX0_remember_78 ?_
        refine lv_iload_n (pc := 81) hX hB dX0_remember_81 rfl (lv_at hl 0 rfl) ?_
        refine lv_iconst (pc := 82) (v := 2) hX hB dX0_remember_82 (by decide) ?_
        refine lv_iadd (pc := 83) hX hB dX0_remember_83 ?_
        refine lv_aload_n (pc := 84) hX hB dX0_remember_84 rfl (lv_at hl 1 rfl) ?_
        refine gf_X0_37 (pc := 85) (v := .int v_T_shut) hX hB hT hO hE hP 0 rfl rfl dX0_remember_85 ?_
        obtain ⟨y2, hj, hf⟩ := zs_bind hf
        refine zs_then (α := Unit) (fun _ H locs ls => CC g A s.heap 2 [(a_T, .inr (0, [.int v_T_number, .int v_T_enough, .int v_T_holders, .ref a_T_kinds, .ref a_T_extras, .ref a_T_factors, .int v_T_day, .int v_T_tries, .int v_T_shut, .ref a_T_told, .ref a_T_past, .int y1.1])), (a_T_factors, .inl (gI g, 3, .inl v_T_factors)), (a_T_past, .inl (gI g, 48, .inl (upd (upd y1.2 (y1.1 * (6 : Int32)).toNatClampNeg v_T_day) ((y1.1 * (6 : Int32)) + (1 : Int32)).toNatClampNeg v_T_tries)))] [(0, .ref a_T), (1, .int (y1.1 * (6 : Int32)))] H locs ls) (fun _ ls => F0 m 96 ls [.int y2, .int ((y1.1 * (6 : Int32)) + (2 : Int32)), .ref a_T_past]) (fun _ H locs ls hC => ?_) (fun X => ?_)
        · obtain ⟨hP, hD, hS, hl⟩ := hC
          obtain ⟨hg, hf⟩ := zs_gd hf
          refine zs_iast (pc := 96) (w2 := [(a_T, .inr (0, [.int v_T_number, .int v_T_enough, .int v_T_holders, .ref a_T_kinds, .ref a_T_extras, .ref a_T_factors, .int v_T_day, .int v_T_tries, .int v_T_shut, .ref a_T_told, .ref a_T_past, .int y1.1])), (a_T_factors, .inl (gI g, 3, .inl v_T_factors)), (a_T_past, .inl (gI g, 48, .inl (upd (upd (upd y1.2 (y1.1 * (6 : Int32)).toNatClampNeg v_T_day) ((y1.1 * (6 : Int32)) + (1 : Int32)).toNatClampNeg v_T_tries) ((y1.1 * (6 : Int32)) + (2 : Int32)).toNatClampNeg y2)))]) hX hB hE hP hD hS 2 rfl (zs_inb hg) rfl dX0_remember_96 (fun H locs hP hD hS => ?_)
          refine lv_aload_n (pc := 97) hX hB dX0_remember_97 rfl (lv_at hl 0 rfl) ?_
          refine gf_X0_28 (pc := 98) (v := .ref a_T_factors) hX hB hT hO hE hP 0 rfl rfl dX0_remember_98 ?_
          refine lv_iconst (pc := 101) (v := 0) hX hB dX0_remember_101 (by decide) ?_
          refine lv_aload_n (pc := 102) hX hB dX0_remember_102 rfl (lv_at hl 0 rfl) ?_
          refine gf_X0_48 (pc := 103) (v := .ref a_T_past) hX hB hT hO hE hP 0 rfl rfl dX0_remember_103 ?_
          refine lv_iload_n (pc := 106) hX hB dX0_remember_106 rfl (lv_at hl 1 rfl) ?_
          refine lv_iconst (pc := 107) (v := 3) hX hB dX0_remember_107 (by decide) ?_
          refine lv_iadd (pc := 108) hX hB dX0_remember_108 ?_
          refine lv_iconst (pc := 109) (v := 3) hX hB dX0_remember_109 (by decide) ?_
          obtain ⟨hg, hf⟩ := zs_gd hf
          obtain ⟨g1, g2, g3, g4, g5⟩ := of_decide_eq_true hg
          refine zs_copy (pc := 110) (w2 := [(a_T, .inr (0, [.int v_T_number, .int v_T_enough, .int v_T_holders, .ref a_T_kinds, .ref a_T_extras, .ref a_T_factors, .int v_T_day, .int v_T_tries, .int v_T_shut, .ref a_T_told, .ref a_T_past, .int y1.1])), (a_T_factors, .inl (gI g, 3, .inl v_T_factors)), (a_T_past, .inl (gI g, 48, .inl (va_cpy v_T_factors (upd (upd (upd y1.2 (y1.1 * (6 : Int32)).toNatClampNeg v_T_day) ((y1.1 * (6 : Int32)) + (1 : Int32)).toNatClampNeg v_T_tries) ((y1.1 * (6 : Int32)) + (2 : Int32)).toNatClampNeg y2) (0 : Int32).toNatClampNeg ((y1.1 * (6 : Int32)) + (3 : Int32)).toNatClampNeg (3 : Int32).toNatClampNeg)))]) hX hB (hM.trans hl.1.symm) hO hT (tw_2_88) hE hP hD hS 1 2 rfl rfl g1 g2 g3 g4 g5 (Nat.le_of_ble_eq_true rfl) (Nat.le_of_ble_eq_true rfl) rfl dX0_remember_110 (fun H locs hP hD hS => ?_)
          refine lv_aload_n (pc := 113) hX hB dX0_remember_113 rfl (lv_at hl 0 rfl) ?_
          refine lv_dup (pc := 114) hX hB dX0_remember_114 rfl ?_
          refine gf_X0_51 (pc := 115) (v := .int y1.1) hX hB hT hO hE hP 0 rfl rfl dX0_remember_115 ?_
          refine lv_iconst (pc := 118) (v := 1) hX hB dX0_remember_118 (by decide) ?_
          refine lv_iadd (pc := 119) hX hB dX0_remember_119 ?_
          refine pf_X0_51 (pc := 120) (x := y1.1 + (1 : Int32)) (w2 := [(a_T, .inr (0, [.int v_T_number, .int v_T_enough, .int v_T_holders, .ref a_T_kinds, .ref a_T_extras, .ref a_T_factors, .int v_T_day, .int v_T_tries, .int v_T_shut, .ref a_T_told, .ref a_T_past, .int (y1.1 + (1 : Int32))])), (a_T_factors, .inl (gI g, 3, .inl v_T_factors)), (a_T_past, .inl (gI g, 48, .inl (va_cpy v_T_factors (upd (upd (upd y1.2 (y1.1 * (6 : Int32)).toNatClampNeg v_T_day) ((y1.1 * (6 : Int32)) + (1 : Int32)).toNatClampNeg v_T_tries) ((y1.1 * (6 : Int32)) + (2 : Int32)).toNatClampNeg y2) (0 : Int32).toNatClampNeg ((y1.1 * (6 : Int32)) + (3 : Int32)).toNatClampNeg (3 : Int32).toNatClampNeg)))]) hX hB hT hO hE hP hD hS 0 rfl (Nat.le_of_ble_eq_true rfl) rfl dX0_remember_120 (fun H locs hP hD hS => ?_)
          obtain rfl := Option.some.inj hf
          exact zs_vret (pc := 123) hX hB hR hK hP hD hS dX0_remember_123
        · have hf := hj
          refine lv_if_eq (pc := 88) (tgt := 95) hX hB dX0_remember_88 (by decide) (fun hq => ?_) (fun hq => ?_)
          · have hf := zs_ip hf hq
            refine lv_iconst (pc := 95) (v := 0) hX hB dX0_remember_95 (by decide) ?_
            obtain rfl := Option.some.inj hf
            exact X () _ _ _ ⟨hP, hD, hS, lv_sub hl [1, 0] rfl⟩
          · have hf := zs_in hf hq
            refine lv_iconst (pc := 91) (v := 1) hX hB dX0_remember_91 (by decide) ?_
            refine lv_goto (pc := 92) (tgt := 96) hX hB dX0_remember_92 (by decide) ?_
            obtain rfl := Option.some.inj hf
            exact X () _ _ _ ⟨hP, hD, hS, lv_sub hl [1, 0] rfl⟩
  · have hf := hj
    refine lv_icmp_lt (pc := 6) (tgt := 31) hX hB dX0_remember_6 (by decide) (fun hq => ?_) (fun hq => ?_)
    · have hf := zs_ip hf hq
      obtain rfl := Option.some.inj hf
      exact X () _ _ _ ⟨hP, hD, hS, lv_sub hl [0] rfl⟩
    · have hf := zs_in hf hq
      refine lv_aload_n (pc := 9) hX hB dX0_remember_9 rfl (lv_at hl 0 rfl) ?_
      refine gf_X0_48 (pc := 10) (v := .ref a_T_past) hX hB hT hO hE hP 0 rfl rfl dX0_remember_10 ?_
      refine lv_bipush (pc := 13) (v := 6) hX hB dX0_remember_13 (by decide) ?_
      refine lv_aload_n (pc := 15) hX hB dX0_remember_15 rfl (lv_at hl 0 rfl) ?_
      refine gf_X0_48 (pc := 16) (v := .ref a_T_past) hX hB hT hO hE hP 0 rfl rfl dX0_remember_16 ?_
      refine lv_iconst (pc := 19) (v := 0) hX hB dX0_remember_19 (by decide) ?_
      refine lv_bipush (pc := 20) (v := 42) hX hB dX0_remember_20 (by decide) ?_
      obtain ⟨hg, hf⟩ := zs_gd hf
      obtain ⟨g1, g2, g3, g4, g5⟩ := of_decide_eq_true hg
      refine zs_copy (pc := 22) (w2 := [(a_T, .inr (0, [.int v_T_number, .int v_T_enough, .int v_T_holders, .ref a_T_kinds, .ref a_T_extras, .ref a_T_factors, .int v_T_day, .int v_T_tries, .int v_T_shut, .ref a_T_told, .ref a_T_past, .int v_T_pastCount])), (a_T_factors, .inl (gI g, 3, .inl v_T_factors)), (a_T_past, .inl (gI g, 48, .inl (va_cpy v_T_past v_T_past (6 : Int32).toNatClampNeg (0 : Int32).toNatClampNeg (42 : Int32).toNatClampNeg)))]) hX hB (hM.trans hl.1.symm) hO hT (tw_2_88) hE hP hD hS 2 2 rfl rfl g1 g2 g3 g4 g5 (Nat.le_of_ble_eq_true rfl) (Nat.le_of_ble_eq_true rfl) rfl dX0_remember_22 (fun H locs hP hD hS => ?_)
      refine lv_aload_n (pc := 25) hX hB dX0_remember_25 rfl (lv_at hl 0 rfl) ?_
      refine lv_bipush (pc := 26) (v := 7) hX hB dX0_remember_26 (by decide) ?_
      refine pf_X0_51 (pc := 28) (x := (7 : Int32)) (w2 := [(a_T, .inr (0, [.int v_T_number, .int v_T_enough, .int v_T_holders, .ref a_T_kinds, .ref a_T_extras, .ref a_T_factors, .int v_T_day, .int v_T_tries, .int v_T_shut, .ref a_T_told, .ref a_T_past, .int (7 : Int32)])), (a_T_factors, .inl (gI g, 3, .inl v_T_factors)), (a_T_past, .inl (gI g, 48, .inl (va_cpy v_T_past v_T_past (6 : Int32).toNatClampNeg (0 : Int32).toNatClampNeg (42 : Int32).toNatClampNeg)))]) hX hB hT hO hE hP hD hS 0 rfl (Nat.le_of_ble_eq_true rfl) rfl dX0_remember_28 (fun H locs hP hD hS => ?_)
      obtain rfl := Option.some.inj hf
      exact X () _ _ _ ⟨hP, hD, hS, lv_sub hl [0] rfl⟩
