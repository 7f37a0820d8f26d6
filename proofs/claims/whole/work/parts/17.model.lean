def f_X4_add (v_T_st : Nat → Int32) (p1 : Int32) (p2 : Int32) : Option ((Nat → Int32)) :=
  gd (inb (8 : Int32) 27) (gd (inb ((9 : Int32) + (v_T_st (8 : Int32).toNatClampNeg)) 27) (gd (inb (8 : Int32) 27) (gd (inb ((15 : Int32) + ((upd v_T_st ((9 : Int32) + (v_T_st (8 : Int32).toNatClampNeg)).toNatClampNeg p1) (8 : Int32).toNatClampNeg)) 27) (gd (inb (8 : Int32) 27) (gd (inb (8 : Int32) 27) (some (upd (upd (upd v_T_st ((9 : Int32) + (v_T_st (8 : Int32).toNatClampNeg)).toNatClampNeg p1) ((15 : Int32) + ((upd v_T_st ((9 : Int32) + (v_T_st (8 : Int32).toNatClampNeg)).toNatClampNeg p1) (8 : Int32).toNatClampNeg)).toNatClampNeg p2) (8 : Int32).toNatClampNeg (((upd (upd v_T_st ((9 : Int32) + (v_T_st (8 : Int32).toNatClampNeg)).toNatClampNeg p1) ((15 : Int32) + ((upd v_T_st ((9 : Int32) + (v_T_st (8 : Int32).toNatClampNeg)).toNatClampNeg p1) (8 : Int32).toNatClampNeg)).toNatClampNeg p2) (8 : Int32).toNatClampNeg) + (1 : Int32)))))))))
set_option maxHeartbeats 4000000 in
set_option maxRecDepth 100000 in
theorem c_X4_add (l : Launch) (g : GG) (sz : Nat) (a_T a_T_refused a_T_text a_T_row a_T_points a_T_used a_T_ahead a_T_isKept a_T_kept a_T_keptAhead a_T_keptMany a_T_st : Nat) (v_T_above : Int64) (v_T_below : Int64) (v_T_bytes : Int32) (v_T_place : Int32) (v_T_token : Int32) (v_T_value : Int32) (v_T_begins : Int32) (v_T_toldHolders : Int32) (v_T_undoMany : Int32) (v_T_drawn : Int64) (v_T_st : Nat → Int32) (p1 : Int32) (p2 : Int32) (o : (Nat → Int32)) (hf : f_X4_add v_T_st p1 p2 = some o) : Met l yX4_add (Cond.code yX4_add cX4_add 3 none :: TB) { frames := 0, cells := 0, slots := 0, locals := 0 } (Pst g [(a_T, .inr (4, [.ref a_T_st, .long v_T_above, .long v_T_below, .ref a_T_refused, .ref a_T_text, .int v_T_bytes, .int v_T_place, .int v_T_token, .int v_T_value, .int v_T_begins, .ref a_T_row, .int v_T_toldHolders, .ref a_T_points, .ref a_T_used, .ref a_T_ahead, .int v_T_undoMany, .long v_T_drawn, .ref a_T_isKept, .ref a_T_kept, .ref a_T_keptAhead, .ref a_T_keptMany])), (a_T_st, .inl (gI g, 27, .inl v_T_st))] [.ref a_T, .int p1, .int p2] sz) (Qst g [(a_T, .inr (4, [.ref a_T_st, .long v_T_above, .long v_T_below, .ref a_T_refused, .ref a_T_text, .int v_T_bytes, .int v_T_place, .int v_T_token, .int v_T_value, .int v_T_begins, .ref a_T_row, .int v_T_toldHolders, .ref a_T_points, .ref a_T_used, .ref a_T_ahead, .int v_T_undoMany, .long v_T_drawn, .ref a_T_isKept, .ref a_T_kept, .ref a_T_keptAhead, .ref a_T_keptMany])), (a_T_st, .inl (gI g, 27, .inl o))] (none) (va_A [(a_T, .inr (4, [.ref a_T_st, .long v_T_above, .long v_T_below, .ref a_T_refused, .ref a_T_text, .int v_T_bytes, .int v_T_place, .int v_T_token, .int v_T_value, .int v_T_begins, .ref a_T_row, .int v_T_toldHolders, .ref a_T_points, .ref a_T_used, .ref a_T_ahead, .int v_T_undoMany, .long v_T_drawn, .ref a_T_isKept, .ref a_T_kept, .ref a_T_keptAhead, .ref a_T_keptMany])), (a_T_st, .inl (gI g, 27, .inl v_T_st))] sz)) 0 0 (va_A [(a_T, .inr (4, [.ref a_T_st, .long v_T_above, .long v_T_below, .ref a_T_refused, .ref a_T_text, .int v_T_bytes, .int v_T_place, .int v_T_token, .int v_T_value, .int v_T_begins, .ref a_T_row, .int v_T_toldHolders, .ref a_T_points, .ref a_T_used, .ref a_T_ahead, .int v_T_undoMany, .long v_T_drawn, .ref a_T_isKept, .ref a_T_kept, .ref a_T_keptAhead, .ref a_T_keptMany])), (a_T_st, .inl (gI g, 27, .inl v_T_st))] sz) := by
  unfold f_X4_add at hf
  refine zs_met (own := RX4) (plainFor_of_name (by decide)) rfl (Nat.le_of_ble_eq_true rfl) ?_
  intro p e s m below meth c A ls hX hB hR hM hT hO hK hN hA hE hP hD hS hl
  have hl : lv_has ls 3 [(0, .ref a_T), (1, .int p1), (2, .int p2)] := hl
  refine lv_aload_n (pc := 0) hX hB dX4_add_0 rfl (lv_at hl 0 rfl) ?_
  refine gf_X4_7 (pc := 1) (v := .ref a_T_st) hX hB hT hO hE hP 0 rfl rfl dX4_add_1 ?_
  refine lv_bipush (pc := 4) (v := 9) hX hB dX4_add_4 (by decide) ?_
  refine lv_aload_n (pc := 6) hX hB dX4_add_6 rfl (lv_at hl 0 rfl) ?_
  refine gf_X4_7 (pc := 7) (v := .ref a_T_st) hX hB hT hO hE hP 0 rfl rfl dX4_add_7 ?_
  refine lv_bipush (pc := 10) (v := 8) hX hB dX4_add_10 (by decide) ?_
  obtain ⟨hg, hf⟩ := zs_gd hf
  refine va_iald (pc := 12) hX hB hE.1 hP 1 0 rfl rfl (zs_inb hg) dX4_add_12 ?_
  refine lv_iadd (pc := 13) hX hB dX4_add_13 ?_
  refine lv_iload_n (pc := 14) hX hB dX4_add_14 rfl (lv_at hl 1 rfl) ?_
  obtain ⟨hg, hf⟩ := zs_gd hf
  refine zs_iast (pc := 15) (w2 := [(a_T, .inr (4, [.ref a_T_st, .long v_T_above, .long v_T_below, .ref a_T_refused, .ref a_T_text, .int v_T_bytes, .int v_T_place, .int v_T_token, .int v_T_value, .int v_T_begins, .ref a_T_row, .int v_T_toldHolders, .ref a_T_points, .ref a_T_used, .ref a_T_ahead, .int v_T_undoMany, .long v_T_drawn, .ref a_T_isKept, .ref a_T_kept, .ref a_T_keptAhead, .ref a_T_keptMany])), (a_T_st, .inl (gI g, 27, .inl (upd v_T_st ((9 : Int32) + (v_T_st (8 : Int32).toNatClampNeg)).toNatClampNeg p1)))]) hX hB hE hP hD hS 1 rfl (zs_inb hg) rfl dX4_add_15 (fun H locs hP hD hS => ?_)
  refine lv_aload_n (pc := 16) hX hB dX4_add_16 rfl (lv_at hl 0 rfl) ?_
  refine gf_X4_7 (pc := 17) (v := .ref a_T_st) hX hB hT hO hE hP 0 rfl rfl dX4_add_17 ?_
  refine lv_bipush (pc := 20) (v := 15) hX hB dX4_add_20 (by decide) ?_
  refine lv_aload_n (pc := 22) hX hB dX4_add_22 rfl (lv_at hl 0 rfl) ?_
  refine gf_X4_7 (pc := 23) (v := .ref a_T_st) hX hB hT hO hE hP 0 rfl rfl dX4_add_23 ?_
  refine lv_bipush (pc := 26) (v := 8) hX hB dX4_add_26 (by decide) ?_
  obtain ⟨hg, hf⟩ := zs_gd hf
  refine va_iald (pc := 28) hX hB hE.1 hP 1 0 rfl rfl (zs_inb hg) dX4_add_28 ?_
  refine lv_iadd (pc := 29) hX hB dX4_add_29 ?_
  refine lv_iload_n (pc := 30) hX hB dX4_add_30 rfl (lv_at hl 2 rfl) ?_
  obtain ⟨hg, hf⟩ := zs_gd hf
  refine zs_iast (pc := 31) (w2 := [(a_T, .inr (4, [.ref a_T_st, .long v_T_above, .long v_T_below, .ref a_T_refused, .ref a_T_text, .int v_T_bytes, .int v_T_place, .int v_T_token, .int v_T_value, .int v_T_begins, .ref a_T_row, .int v_T_toldHolders, .ref a_T_points, .ref a_T_used, .ref a_T_ahead, .int v_T_undoMany, .long v_T_drawn, .ref a_T_isKept, .ref a_T_kept, .ref a_T_keptAhead, .ref a_T_keptMany])), (a_T_st, .inl (gI g, 27, .inl (upd (upd v_T_st ((9 : Int32) + (v_T_st (8 : Int32).toNatClampNeg)).toNatClampNeg p1) ((15 : Int32) + ((upd v_T_st ((9 : Int32) + (v_T_st (8 : Int32).toNatClampNeg)).toNatClampNeg p1) (8 : Int32).toNatClampNeg)).toNatClampNeg p2)))]) hX hB hE hP hD hS 1 rfl (zs_inb hg) rfl dX4_add_31 (fun H locs hP hD hS => ?_)
  refine lv_aload_n (pc := 32) hX hB dX4_add_32 rfl (lv_at hl 0 rfl) ?_
  refine gf_X4_7 (pc := 33) (v := .ref a_T_st) hX hB hT hO hE hP 0 rfl rfl dX4_add_33 ?_
  refine lv_bipush (pc := 36) (v := 8) hX hB dX4_add_36 (by decide) ?_
  refine lv_dup2_11 (pc := 38) hX hB dX4_add_38 rfl rfl ?_
  obtain ⟨hg, hf⟩ := zs_gd hf
  refine va_iald (pc := 39) hX hB hE.1 hP 1 0 rfl rfl (zs_inb hg) dX4_add_39 ?_
  refine lv_iconst (pc := 40) (v := 1) hX hB dX4_add_40 (by decide) ?_
  refine lv_iadd (pc := 41) hX hB dX4_add_41 ?_
  obtain ⟨hg, hf⟩ := zs_gd hf
  refine zs_iast (pc := 42) (w2 := [(a_T, .inr (4, [.ref a_T_st, .long v_T_above, .long v_T_below, .ref a_T_refused, .ref a_T_text, .int v_T_bytes, .int v_T_place, .int v_T_token, .int v_T_value, .int v_T_begins, .ref a_T_row, .int v_T_toldHolders, .ref a_T_points, .ref a_T_used, .ref a_T_ahead, .int v_T_undoMany, .long v_T_drawn, .ref a_T_isKept, .ref a_T_kept, .ref a_T_keptAhead, .ref a_T_keptMany])), (a_T_st, .inl (gI g, 27, .inl (upd (upd (upd v_T_st ((9 : Int32) + (v_T_st (8 : Int32).toNatClampNeg)).toNatClampNeg p1) ((15 : Int32) + ((upd v_T_st ((9 : Int32) + (v_T_st (8 : Int32).toNatClampNeg)).toNatClampNeg p1) (8 : Int32).toNatClampNeg)).toNatClampNeg p2) (8 : Int32).toNatClampNeg (((upd (upd v_T_st ((9 : Int32) + (v_T_st (8 : Int32).toNatClampNeg)).toNatClampNeg p1) ((15 : Int32) + ((upd v_T_st ((9 : Int32) + (v_T_st (8 : Int32).toNatClampNeg)).toNatClampNeg p1) (8 : Int32).toNatClampNeg)).toNatClampNeg p2) (8 : Int32).toNatClampNeg) + (1 : Int32)))))]) hX hB hE hP hD hS 1 rfl (zs_inb hg) rfl dX4_add_42 (fun H locs hP hD hS => ?_)
  obtain rfl := Option.some.inj hf
  exact zs_vret (pc := 43) hX hB hR hK hP hD hS dX4_add_43

def f_X4_has (p1 : Int32) (p2 : Int32) : Option (Int32) :=
  if ((jshr p1 p2) &&& (1 : Int32)) = (1 : Int32) then (some (1 : Int32)) else (some (0 : Int32))
set_option maxHeartbeats 4000000 in
set_option maxRecDepth 100000 in
theorem c_X4_has (l : Launch) (g : GG) (sz : Nat) (p1 : Int32) (p2 : Int32) (o : Int32) (hf : f_X4_has p1 p2 = some o) : Met l yX4_has (Cond.code yX4_has cX4_has 2 (some .boolean) :: TB) { frames := 0, cells := 0, slots := 0, locals := 0 } (Pst g [] [.int p1, .int p2] sz) (Qst g [] (some (.int o)) (va_A [] sz)) 0 0 (va_A [] sz) := by
  unfold f_X4_has at hf
  refine zs_met (own := RX4) (plainFor_of_name (by decide)) rfl (Nat.le_of_ble_eq_true rfl) ?_
  intro p e s m below meth c A ls hX hB hR hM hT hO hK hN hA hE hP hD hS hl
  have hl : lv_has ls 2 [(0, .int p1), (1, .int p2)] := hl
  refine lv_iload_n (pc := 0) hX hB dX4_has_0 rfl (lv_at hl 0 rfl) ?_
  refine lv_iload_n (pc := 1) hX hB dX4_has_1 rfl (lv_at hl 1 rfl) ?_
  refine zs_ishr (pc := 2) hX hB dX4_has_2 ?_
  refine lv_iconst (pc := 3) (v := 1) hX hB dX4_has_3 (by decide) ?_
  refine lv_iand (pc := 4) hX hB dX4_has_4 ?_
  refine lv_iconst (pc := 5) (v := 1) hX hB dX4_has_5 (by decide) ?_
  refine lv_icmp_ne (pc := 6) (tgt := 13) hX hB dX4_has_6 (by decide) (fun hq => ?_) (fun hq => ?_)
  · have hf := zs_in hf hq
    refine lv_iconst (pc := 13) (v := 0) hX hB dX4_has_13 (by decide) ?_
    obtain rfl := Option.some.inj hf
    exact zs_zret (v := (0 : Int32)) (pc := 14) hX hB hR hK rfl hP hD hS dX4_has_14
  · have hf := zs_ip hf hq
    refine lv_iconst (pc := 9) (v := 1) hX hB dX4_has_9 (by decide) ?_
    refine lv_goto (pc := 10) (tgt := 14) hX hB dX4_has_10 (by decide) ?_
    obtain rfl := Option.some.inj hf
    exact zs_zret (v := (1 : Int32)) (pc := 14) hX hB hR hK rfl hP hD hS dX4_has_14

def b_X4_takeTold_2 (v_T_st : Nat → Int32) (p1 : Int32) (x1 : Int32 × (Nat → Int32)) : Option ((Int32 × (Nat → Int32)) ⊕ ((Nat → Int32))) :=
  if (6 : Int32) ≤ x1.1 then (some (Sum.inr x1.2)) else ((f_X4_has p1 x1.1).bind (fun o3 => (if o3 = (0 : Int32) then (gd (inb ((21 : Int32) + x1.1) 27) (some (v_T_st ((21 : Int32) + x1.1).toNatClampNeg))) else (some (-1 : Int32))).bind (fun y4 => gd (inb x1.1 6) (some (Sum.inl (x1.1 + (1 : Int32), upd x1.2 x1.1.toNatClampNeg y4))))))
def f_X4_takeTold (v_T_st : Nat → Int32) (v_T_points : Nat → Int32) (p1 : Int32) : Option ((Nat → Int32)) :=
  (lp (b_X4_takeTold_2 v_T_st p1) 200 ((0 : Int32), v_T_points)).bind (fun y2 => some y2)
set_option maxHeartbeats 4000000 in
set_option maxRecDepth 100000 in
theorem c_X4_takeTold (l : Launch) (g : GG) (sz : Nat) (a_T a_T_refused a_T_text a_T_row a_T_used a_T_ahead a_T_isKept a_T_kept a_T_keptAhead a_T_keptMany a_T_st a_T_points : Nat) (v_T_above : Int64) (v_T_below : Int64) (v_T_bytes : Int32) (v_T_place : Int32) (v_T_token : Int32) (v_T_value : Int32) (v_T_begins : Int32) (v_T_toldHolders : Int32) (v_T_undoMany : Int32) (v_T_drawn : Int64) (v_T_st : Nat → Int32) (v_T_points : Nat → Int32) (p1 : Int32) (o : (Nat → Int32)) (hf : f_X4_takeTold v_T_st v_T_points p1 = some o) : Met l yX4_takeTold (Cond.code yX4_takeTold cX4_takeTold 3 none :: TB) { frames := 1, cells := 0, slots := 0, locals := 21 } (Pst g [(a_T, .inr (4, [.ref a_T_st, .long v_T_above, .long v_T_below, .ref a_T_refused, .ref a_T_text, .int v_T_bytes, .int v_T_place, .int v_T_token, .int v_T_value, .int v_T_begins, .ref a_T_row, .int v_T_toldHolders, .ref a_T_points, .ref a_T_used, .ref a_T_ahead, .int v_T_undoMany, .long v_T_drawn, .ref a_T_isKept, .ref a_T_kept, .ref a_T_keptAhead, .ref a_T_keptMany])), (a_T_st, .inl (gI g, 27, .inl v_T_st)), (a_T_points, .inl (gI g, 6, .inl v_T_points))] [.ref a_T, .int p1] sz) (Qst g [(a_T, .inr (4, [.ref a_T_st, .long v_T_above, .long v_T_below, .ref a_T_refused, .ref a_T_text, .int v_T_bytes, .int v_T_place, .int v_T_token, .int v_T_value, .int v_T_begins, .ref a_T_row, .int v_T_toldHolders, .ref a_T_points, .ref a_T_used, .ref a_T_ahead, .int v_T_undoMany, .long v_T_drawn, .ref a_T_isKept, .ref a_T_kept, .ref a_T_keptAhead, .ref a_T_keptMany])), (a_T_st, .inl (gI g, 27, .inl v_T_st)), (a_T_points, .inl (gI g, 6, .inl o))] (none) (va_A [(a_T, .inr (4, [.ref a_T_st, .long v_T_above, .long v_T_below, .ref a_T_refused, .ref a_T_text, .int v_T_bytes, .int v_T_place, .int v_T_token, .int v_T_value, .int v_T_begins, .ref a_T_row, .int v_T_toldHolders, .ref a_T_points, .ref a_T_used, .ref a_T_ahead, .int v_T_undoMany, .long v_T_drawn, .ref a_T_isKept, .ref a_T_kept, .ref a_T_keptAhead, .ref a_T_keptMany])), (a_T_st, .inl (gI g, 27, .inl v_T_st)), (a_T_points, .inl (gI g, 6, .inl v_T_points))] sz)) 0 0 (va_A [(a_T, .inr (4, [.ref a_T_st, .long v_T_above, .long v_T_below, .ref a_T_refused, .ref a_T_text, .int v_T_bytes, .int v_T_place, .int v_T_token, .int v_T_value, .int v_T_begins, .ref a_T_row, .int v_T_toldHolders, .ref a_T_points, .ref a_T_used, .ref a_T_ahead, .int v_T_undoMany, .long v_T_drawn, .ref a_T_isKept, .ref a_T_kept, .ref a_T_keptAhead, .ref a_T_keptMany])), (a_T_st, .inl (gI g, 27, .inl v_T_st)), (a_T_points, .inl (gI g, 6, .inl v_T_points))] sz) := by
  unfold f_X4_takeTold at hf
  refine zs_met (own := RX4) (plainFor_of_name (by decide)) rfl (Nat.le_of_ble_eq_true rfl) ?_
  intro p e s m below meth c A ls hX hB hR hM hT hO hK hN hA hE hP hD hS hl
  have hl : lv_has ls 3 [(0, .ref a_T), (1, .int p1)] := hl
  refine lv_iconst (pc := 0) (v := 0) hX hB dX4_takeTold_0 (by decide) ?_
  refine lv_istore_n (pc := 1) (lv' := [(2, .int (0 : Int32)), (0, .ref a_T), (1, .int p1)]) hX hB dX4_takeTold_1 rfl hl (by decide) rfl (fun ls hl => ?_)
  obtain ⟨y2, hj, hf⟩ := zs_bind hf
  refine zs_then (α := Unit) (fun _ H locs ls => CC g A s.heap 3 [(a_T, .inr (4, [.ref a_T_st, .long v_T_above, .long v_T_below, .ref a_T_refused, .ref a_T_text, .int v_T_bytes, .int v_T_place, .int v_T_token, .int v_T_value, .int v_T_begins, .ref a_T_row, .int v_T_toldHolders, .ref a_T_points, .ref a_T_used, .ref a_T_ahead, .int v_T_undoMany, .long v_T_drawn, .ref a_T_isKept, .ref a_T_kept, .ref a_T_keptAhead, .ref a_T_keptMany])), (a_T_st, .inl (gI g, 27, .inl v_T_st)), (a_T_points, .inl (gI g, 6, .inl y2))] [] H locs ls) (fun _ ls => F0 m 41 ls []) (fun _ H locs ls hC => ?_) (fun X => ?_)
  · obtain ⟨hP, hD, hS, hl⟩ := hC
    obtain rfl := Option.some.inj hf
    exact zs_vret (pc := 41) hX hB hR hK hP hD hS dX4_takeTold_41
  · refine zs_loop (fun x1 H locs ls => CC g A s.heap 3 [(a_T, .inr (4, [.ref a_T_st, .long v_T_above, .long v_T_below, .ref a_T_refused, .ref a_T_text, .int v_T_bytes, .int v_T_place, .int v_T_token, .int v_T_value, .int v_T_begins, .ref a_T_row, .int v_T_toldHolders, .ref a_T_points, .ref a_T_used, .ref a_T_ahead, .int v_T_undoMany, .long v_T_drawn, .ref a_T_isKept, .ref a_T_kept, .ref a_T_keptAhead, .ref a_T_keptMany])), (a_T_st, .inl (gI g, 27, .inl v_T_st)), (a_T_points, .inl (gI g, 6, .inl x1.2))] [(0, .ref a_T), (1, .int p1), (2, .int x1.1)] H locs ls) hj (fun n x1 q hf hr ih H locs ls hC => ?_) ⟨hP, hD, hS, lv_sub hl [1, 2, 0] rfl⟩
    obtain ⟨hP, hD, hS, hl⟩ := hC
    unfold b_X4_takeTold_2 at hf
    refine lv_iload_n (pc := 2) hX hB dX4_takeTold_2 rfl (lv_at hl 2 rfl) ?_
    refine lv_bipush (pc := 3) (v := 6) hX hB dX4_takeTold_3 (by decide) ?_
    refine lv_icmp_ge (pc := 5) (tgt := 41) hX hB dX4_takeTold_5 (by decide) (fun hq => ?_) (fun hq => ?_)
    · have hf := zs_ip hf hq
      obtain rfl := Option.some.inj hf
      obtain rfl := hr
      exact X () _ _ _ ⟨hP, hD, hS, lv_sub hl [] rfl⟩
    · have hf := zs_in hf hq
      refine lv_aload_n (pc := 8) hX hB dX4_takeTold_8 rfl (lv_at hl 0 rfl) ?_
      refine gf_X4_26 (pc := 9) (v := .ref a_T_points) hX hB hT hO hE hP 0 rfl rfl dX4_takeTold_9 ?_
      refine lv_iload_n (pc := 12) hX hB dX4_takeTold_12 rfl (lv_at hl 2 rfl) ?_
      refine lv_iload_n (pc := 13) hX hB dX4_takeTold_13 rfl (lv_at hl 1 rfl) ?_
      refine lv_iload_n (pc := 14) hX hB dX4_takeTold_14 rfl (lv_at hl 2 rfl) ?_
      obtain ⟨o3, hc, hf⟩ := zs_bind hf
      refine zs_S (pc := 15) (As := [.int p1, .int x1.1]) (rest := [.int x1.1, .ref a_T_points]) (st1 := [.int o3, .int x1.1, .ref a_T_points]) (wc := []) (wr := [(a_T, .inr (4, [.ref a_T_st, .long v_T_above, .long v_T_below, .ref a_T_refused, .ref a_T_text, .int v_T_bytes, .int v_T_place, .int v_T_token, .int v_T_value, .int v_T_begins, .ref a_T_row, .int v_T_toldHolders, .ref a_T_points, .ref a_T_used, .ref a_T_ahead, .int v_T_undoMany, .long v_T_drawn, .ref a_T_isKept, .ref a_T_kept, .ref a_T_keptAhead, .ref a_T_keptMany])), (a_T_st, .inl (gI g, 27, .inl v_T_st)), (a_T_points, .inl (gI g, 6, .inl x1.2))]) (w1 := []) (w2 := [(a_T, .inr (4, [.ref a_T_st, .long v_T_above, .long v_T_below, .ref a_T_refused, .ref a_T_text, .int v_T_bytes, .int v_T_place, .int v_T_token, .int v_T_value, .int v_T_begins, .ref a_T_row, .int v_T_toldHolders, .ref a_T_points, .ref a_T_used, .ref a_T_ahead, .int v_T_undoMany, .long v_T_drawn, .ref a_T_isKept, .ref a_T_kept, .ref a_T_keptAhead, .ref a_T_keptMany])), (a_T_st, .inl (gI g, 27, .inl v_T_st)), (a_T_points, .inl (gI g, 6, .inl x1.2))]) (ov := some (.int o3)) lb_X4_has lk_X4_141 hX hB hM hO hT hE hP hD hS hA (c_X4_has l g _ p1 x1.1 o3 hc) ⟨rfl, rfl⟩ ⟨Nat.le_of_ble_eq_true rfl, Nat.le_of_ble_eq_true rfl⟩ [] [0, 1, 2] [0, 1, 2] rfl rfl rfl rfl (by decide) rfl rfl rfl rfl hl.1 (Nat.le_of_ble_eq_true rfl) ⟨Nat.zero_le _, Nat.zero_le _⟩ rfl dX4_takeTold_15 (fun H locs hP hD hS => ?_)
      obtain ⟨y4, hj, hf⟩ := zs_bind hf
      refine zs_then (α := Unit) (fun _ H locs ls => CC g A s.heap 3 [(a_T, .inr (4, [.ref a_T_st, .long v_T_above, .long v_T_below, .ref a_T_refused, .ref a_T_text, .int v_T_bytes, .int v_T_place, .int v_T_token, .int v_T_value, .int v_T_begins, .ref a_T_row, .int v_T_toldHolders, .ref a_T_points, .ref a_T_used, .ref a_T_ahead, .int v_T_undoMany, .long v_T_drawn, .ref a_T_isKept, .ref a_T_kept, .ref a_T_keptAhead, .ref a_T_keptMany])), (a_T_st, .inl (gI g, 27, .inl v_T_st)), (a_T_points, .inl (gI g, 6, .inl x1.2))] [(0, .ref a_T), (1, .int p1), (2, .int x1.1)] H locs ls) (fun _ ls => F0 m 34 ls [.int y4, .int x1.1, .ref a_T_points]) (fun _ H locs ls hC => ?_) (fun X => ?_)
      · obtain ⟨hP, hD, hS, hl⟩ := hC
        obtain ⟨hg, hf⟩ := zs_gd hf
        refine zs_iast (pc := 34) (w2 := [(a_T, .inr (4, [.ref a_T_st, .long v_T_above, .long v_T_below, .ref a_T_refused, .ref a_T_text, .int v_T_bytes, .int v_T_place, .int v_T_token, .int v_T_value, .int v_T_begins, .ref a_T_row, .int v_T_toldHolders, .ref a_T_points, .ref a_T_used, .ref a_T_ahead, .int v_T_undoMany, .long v_T_drawn, .ref a_T_isKept, .ref a_T_kept, .ref a_T_keptAhead, .ref a_T_keptMany])), (a_T_st, .inl (gI g, 27, .inl v_T_st)), (a_T_points, .inl (gI g, 6, .inl (upd x1.2 x1.1.toNatClampNeg y4)))]) hX hB hE hP hD hS 2 rfl (zs_inb hg) rfl dX4_takeTold_34 (fun H locs hP hD hS => ?_)
        refine lv_iinc (pc := 35) (v := x1.1 + (1 : Int32)) (lv' := [(2, .int (x1.1 + (1 : Int32))), (0, .ref a_T), (1, .int p1)]) hX hB dX4_takeTold_35 hl (k := 2) rfl rfl (by decide) rfl (fun ls hl => ?_)
        refine lv_goto (pc := 38) (tgt := 2) hX hB dX4_takeTold_38 (by decide) ?_
        obtain rfl := Option.some.inj hf
        exact ih _ hr _ _ _ ⟨hP, hD, hS, lv_sub hl [1, 2, 0] rfl⟩
      · have hf := hj
        refine lv_if_eq (pc := 18) (tgt := 25) hX hB dX4_takeTold_18 (by decide) (fun hq => ?_) (fun hq => ?_)
        · have hf := zs_ip hf hq
          refine lv_aload_n (pc := 25) hX hB dX4_takeTold_25 rfl (lv_at hl 0 rfl) ?_
          refine gf_X4_7 (pc := 26) (v := .ref a_T_st) hX hB hT hO hE hP 0 rfl rfl dX4_takeTold_26 ?_
          refine lv_bipush (pc := 29) (v := 21) hX hB dX4_takeTold_29 (by decide) ?_
          refine lv_iload_n (pc := 31) hX hB dX4_takeTold_31 rfl (lv_at hl 2 rfl) ?_
          refine lv_iadd (pc := 32) hX hB dX4_takeTold_32 ?_
          obtain ⟨hg, hf⟩ := zs_gd hf
          refine va_iald (pc := 33) hX hB hE.1 hP 1 0 rfl rfl (zs_inb hg) dX4_takeTold_33 ?_
          obtain rfl := Option.some.inj hf
          exact X () _ _ _ ⟨hP, hD, hS, lv_sub hl [0, 1, 2] rfl⟩
        · have hf := zs_in hf hq
          refine lv_iconst (pc := 21) (v := -1) hX hB dX4_takeTold_21 (by decide) ?_
          refine lv_goto (pc := 22) (tgt := 34) hX hB dX4_takeTold_22 (by decide) ?_
          obtain rfl := Option.some.inj hf
          exact X () _ _ _ ⟨hP, hD, hS, lv_sub hl [0, 1, 2] rfl⟩

def b_X4_pointMany_4 (v_T_points : Nat → Int32) (x1 : Int32 × Int32) : Option ((Int32 × Int32) ⊕ (Int32)) :=
  if (6 : Int32) ≤ x1.2 then (some (Sum.inr x1.1)) else (gd (inb x1.2 6) (if (v_T_points x1.2.toNatClampNeg) < (0 : Int32) then (some (Sum.inl (x1.1 + (0 : Int32), x1.2 + (1 : Int32)))) else (some (Sum.inl (x1.1 + (1 : Int32), x1.2 + (1 : Int32))))))
def f_X4_pointMany (v_T_points : Nat → Int32) : Option (Int32) :=
  (lp (b_X4_pointMany_4 v_T_points) 200 ((0 : Int32), (0 : Int32))).bind (fun y2 => some y2)
set_option maxHeartbeats 4000000 in
set_option maxRecDepth 100000 in
theorem c_X4_pointMany (l : Launch) (g : GG) (sz : Nat) (a_T a_T_st a_T_refused a_T_text a_T_row a_T_used a_T_ahead a_T_isKept a_T_kept a_T_keptAhead a_T_keptMany a_T_points : Nat) (v_T_above : Int64) (v_T_below : Int64) (v_T_bytes : Int32) (v_T_place : Int32) (v_T_token : Int32) (v_T_value : Int32) (v_T_begins : Int32) (v_T_toldHolders : Int32) (v_T_undoMany : Int32) (v_T_drawn : Int64) (v_T_points : Nat → Int32) (o : Int32) (hf : f_X4_pointMany v_T_points = some o) : Met l yX4_pointMany (Cond.code yX4_pointMany cX4_pointMany 3 (some .int) :: TB) { frames := 0, cells := 0, slots := 0, locals := 0 } (Pst g [(a_T, .inr (4, [.ref a_T_st, .long v_T_above, .long v_T_below, .ref a_T_refused, .ref a_T_text, .int v_T_bytes, .int v_T_place, .int v_T_token, .int v_T_value, .int v_T_begins, .ref a_T_row, .int v_T_toldHolders, .ref a_T_points, .ref a_T_used, .ref a_T_ahead, .int v_T_undoMany, .long v_T_drawn, .ref a_T_isKept, .ref a_T_kept, .ref a_T_keptAhead, .ref a_T_keptMany])), (a_T_points, .inl (gI g, 6, .inl v_T_points))] [.ref a_T] sz) (Qst g [(a_T, .inr (4, [.ref a_T_st, .long v_T_above, .long v_T_below, .ref a_T_refused, .ref a_T_text, .int v_T_bytes, .int v_T_place, .int v_T_token, .int v_T_value, .int v_T_begins, .ref a_T_row, .int v_T_toldHolders, .ref a_T_points, .ref a_T_used, .ref a_T_ahead, .int v_T_undoMany, .long v_T_drawn, .ref a_T_isKept, .ref a_T_kept, .ref a_T_keptAhead, .ref a_T_keptMany])), (a_T_points, .inl (gI g, 6, .inl v_T_points))] (some (.int o)) (va_A [(a_T, .inr (4, [.ref a_T_st, .long v_T_above, .long v_T_below, .ref a_T_refused, .ref a_T_text, .int v_T_bytes, .int v_T_place, .int v_T_token, .int v_T_value, .int v_T_begins, .ref a_T_row, .int v_T_toldHolders, .ref a_T_points, .ref a_T_used, .ref a_T_ahead, .int v_T_undoMany, .long v_T_drawn, .ref a_T_isKept, .ref a_T_kept, .ref a_T_keptAhead, .ref a_T_keptMany])), (a_T_points, .inl (gI g, 6, .inl v_T_points))] sz)) 0 0 (va_A [(a_T, .inr (4, [.ref a_T_st, .long v_T_above, .long v_T_below, .ref a_T_refused, .ref a_T_text, .int v_T_bytes, .int v_T_place, .int v_T_token, .int v_T_value, .int v_T_begins, .ref a_T_row, .int v_T_toldHolders, .ref a_T_points, .ref a_T_used, .ref a_T_ahead, .int v_T_undoMany, .long v_T_drawn, .ref a_T_isKept, .ref a_T_kept, .ref a_T_keptAhead, .ref a_T_keptMany])), (a_T_points, .inl (gI g, 6, .inl v_T_points))] sz) := by
  unfold f_X4_pointMany at hf
  refine zs_met (own := RX4) (plainFor_of_name (by decide)) rfl (Nat.le_of_ble_eq_true rfl) ?_
  intro p e s m below meth c A ls hX hB hR hM hT hO hK hN hA hE hP hD hS hl
  have hl : lv_has ls 3 [(0, .ref a_T)] := hl
  refine lv_iconst (pc := 0) (v := 0) hX hB dX4_pointMany_0 (by decide) ?_
  refine lv_istore_n (pc := 1) (lv' := [(1, .int (0 : Int32)), (0, .ref a_T)]) hX hB dX4_pointMany_1 rfl hl (by decide) rfl (fun ls hl => ?_)
  refine lv_iconst (pc := 2) (v := 0) hX hB dX4_pointMany_2 (by decide) ?_
  refine lv_istore_n (pc := 3) (lv' := [(2, .int (0 : Int32)), (1, .int (0 : Int32)), (0, .ref a_T)]) hX hB dX4_pointMany_3 rfl hl (by decide) rfl (fun ls hl => ?_)
  obtain ⟨y2, hj, hf⟩ := zs_bind hf
  refine zs_then (α := Unit) (fun _ H locs ls => CC g A s.heap 3 [(a_T, .inr (4, [.ref a_T_st, .long v_T_above, .long v_T_below, .ref a_T_refused, .ref a_T_text, .int v_T_bytes, .int v_T_place, .int v_T_token, .int v_T_value, .int v_T_begins, .ref a_T_row, .int v_T_toldHolders, .ref a_T_points, .ref a_T_used, .ref a_T_ahead, .int v_T_undoMany, .long v_T_drawn, .ref a_T_isKept, .ref a_T_kept, .ref a_T_keptAhead, .ref a_T_keptMany])), (a_T_points, .inl (gI g, 6, .inl v_T_points))] [(1, .int y2)] H locs ls) (fun _ ls => F0 m 33 ls []) (fun _ H locs ls hC => ?_) (fun X => ?_)
  · obtain ⟨hP, hD, hS, hl⟩ := hC
    refine lv_iload_n (pc := 33) hX hB dX4_pointMany_33 rfl (lv_at hl 0 rfl) ?_
    obtain rfl := Option.some.inj hf
    exact zs_iret (pc := 34) hX hB hR hK hP hD hS dX4_pointMany_34
  · refine zs_loop (fun x1 H locs ls => CC g A s.heap 3 [(a_T, .inr (4, [.ref a_T_st, .long v_T_above, .long v_T_below, .ref a_T_refused, .ref a_T_text, .int v_T_bytes, .int v_T_place, .int v_T_token, .int v_T_value, .int v_T_begins, .ref a_T_row, .int v_T_toldHolders, .ref a_T_points, .ref a_T_used, .ref a_T_ahead, .int v_T_undoMany, .long v_T_drawn, .ref a_T_isKept, .ref a_T_kept, .ref a_T_keptAhead, .ref a_T_keptMany])), (a_T_points, .inl (gI g, 6, .inl v_T_points))] [(0, .ref a_T), (1, .int x1.1), (2, .int x1.2)] H locs ls) hj (fun n x1 q hf hr ih H locs ls hC => ?_) ⟨hP, hD, hS, lv_sub hl [2, 1, 0] rfl⟩
    obtain ⟨hP, hD, hS, hl⟩ := hC
    unfold b_X4_pointMany_4 at hf
    refine lv_iload_n (pc := 4) hX hB dX4_pointMany_4 rfl (lv_at hl 2 rfl) ?_
    refine lv_bipush (pc := 5) (v := 6) hX hB dX4_pointMany_5 (by decide) ?_
    refine lv_icmp_ge (pc := 7) (tgt := 33) hX hB dX4_pointMany_7 (by decide) (fun hq => ?_) (fun hq => ?_)
    · have hf := zs_ip hf hq
      obtain rfl := Option.some.inj hf
      obtain rfl := hr
      exact X () _ _ _ ⟨hP, hD, hS, lv_sub hl [1] rfl⟩
    · have hf := zs_in hf hq
      refine lv_iload_n (pc := 10) hX hB dX4_pointMany_10 rfl (lv_at hl 1 rfl) ?_
      refine lv_aload_n (pc := 11) hX hB dX4_pointMany_11 rfl (lv_at hl 0 rfl) ?_
      refine gf_X4_26 (pc := 12) (v := .ref a_T_points) hX hB hT hO hE hP 0 rfl rfl dX4_pointMany_12 ?_
      refine lv_iload_n (pc := 15) hX hB dX4_pointMany_15 rfl (lv_at hl 2 rfl) ?_
      obtain ⟨hg, hf⟩ := zs_gd hf
      refine va_iald (pc := 16) hX hB hE.1 hP 1 0 rfl rfl (zs_inb hg) dX4_pointMany_16 ?_
      refine lv_if_lt (pc := 17) (tgt := 24) hX hB dX4_pointMany_17 (by decide) (fun hq => ?_) (fun hq => ?_)
      · have hf := zs_ip hf hq
        refine lv_iconst (pc := 24) (v := 0) hX hB dX4_pointMany_24 (by decide) ?_
        refine lv_iadd (pc := 25) hX hB dX4_pointMany_25 ?_
        refine lv_istore_n (pc := 26) (lv' := [(1, .int (x1.1 + (0 : Int32))), (0, .ref a_T), (2, .int x1.2)]) hX hB dX4_pointMany_26 rfl hl (by decide) rfl (fun ls hl => ?_)
        refine lv_iinc (pc := 27) (v := x1.2 + (1 : Int32)) (lv' := [(2, .int (x1.2 + (1 : Int32))), (1, .int (x1.1 + (0 : Int32))), (0, .ref a_T)]) hX hB dX4_pointMany_27 hl (k := 2) rfl rfl (by decide) rfl (fun ls hl => ?_)
        refine lv_goto (pc := 30) (tgt := 4) hX hB dX4_pointMany_30 (by decide) ?_
        obtain rfl := Option.some.inj hf
        exact ih _ hr _ _ _ ⟨hP, hD, hS, lv_sub hl [2, 1, 0] rfl⟩
      · have hf := zs_in hf hq
        refine lv_iconst (pc := 20) (v := 1) hX hB dX4_pointMany_20 (by decide) ?_
        refine lv_goto (pc := 21) (tgt := 25) hX hB dX4_pointMany_21 (by decide) ?_
        refine lv_iadd (pc := 25) hX hB dX4_pointMany_25 ?_
        refine lv_istore_n (pc := 26) (lv' := [(1, .int (x1.1 + (1 : Int32))), (0, .ref a_T), (2, .int x1.2)]) hX hB dX4_pointMany_26 rfl hl (by decide) rfl (fun ls hl => ?_)
        refine lv_iinc (pc := 27) (v := x1.2 + (1 : Int32)) (lv' := [(2, .int (x1.2 + (1 : Int32))), (1, .int (x1.1 + (1 : Int32))), (0, .ref a_T)]) hX hB dX4_pointMany_27 hl (k := 2) rfl rfl (by decide) rfl (fun ls hl => ?_)
        refine lv_goto (pc := 30) (tgt := 4) hX hB dX4_pointMany_30 (by decide) ?_
        obtain rfl := Option.some.inj hf
        exact ih _ hr _ _ _ ⟨hP, hD, hS, lv_sub hl [2, 1, 0] rfl⟩

def b_X4_inverse_4 (p1 : Int32) (x1 : Int32 × Int32) : Option ((Int32 × Int32) ⊕ (Int32)) :=
  if (95 : Int32) ≤ x1.2 then (some (Sum.inr x1.1)) else (some (Sum.inl (jrem (x1.1 * p1) (97 : Int32), x1.2 + (1 : Int32))))
def f_X4_inverse (p1 : Int32) : Option (Int32) :=
  (lp (b_X4_inverse_4 p1) 200 ((1 : Int32), (0 : Int32))).bind (fun y2 => some y2)
set_option maxHeartbeats 4000000 in
set_option maxRecDepth 100000 in
theorem c_X4_inverse (l : Launch) (g : GG) (sz : Nat) (p1 : Int32) (o : Int32) (hf : f_X4_inverse p1 = some o) : Met l yX4_inverse (Cond.code yX4_inverse cX4_inverse 3 (some .int) :: TB) { frames := 0, cells := 0, slots := 0, locals := 0 } (Pst g [] [.int p1] sz) (Qst g [] (some (.int o)) (va_A [] sz)) 0 0 (va_A [] sz) := by
  unfold f_X4_inverse at hf
  refine zs_met (own := RX4) (plainFor_of_name (by decide)) rfl (Nat.le_of_ble_eq_true rfl) ?_
  intro p e s m below meth c A ls hX hB hR hM hT hO hK hN hA hE hP hD hS hl
  have hl : lv_has ls 3 [(0, .int p1)] := hl
  refine lv_iconst (pc := 0) (v := 1) hX hB dX4_inverse_0 (by decide) ?_
  refine lv_istore_n (pc := 1) (lv' := [(1, .int (1 : Int32)), (0, .int p1)]) hX hB dX4_inverse_1 rfl hl (by decide) rfl (fun ls hl => ?_)
  refine lv_iconst (pc := 2) (v := 0) hX hB dX4_inverse_2 (by decide) ?_
  refine lv_istore_n (pc := 3) (lv' := [(2, .int (0 : Int32)), (1, .int (1 : Int32)), (0, .int p1)]) hX hB dX4_inverse_3 rfl hl (by decide) rfl (fun ls hl => ?_)
  obtain ⟨y2, hj, hf⟩ := zs_bind hf
  refine zs_then (α := Unit) (fun _ H locs ls => CC g A s.heap 3 [] [(1, .int y2)] H locs ls) (fun _ ls => F0 m 23 ls []) (fun _ H locs ls hC => ?_) (fun X => ?_)
  · obtain ⟨hP, hD, hS, hl⟩ := hC
    refine lv_iload_n (pc := 23) hX hB dX4_inverse_23 rfl (lv_at hl 0 rfl) ?_
    obtain rfl := Option.some.inj hf
    exact zs_iret (pc := 24) hX hB hR hK hP hD hS dX4_inverse_24
  · refine zs_loop (fun x1 H locs ls => CC g A s.heap 3 [] [(0, .int p1), (1, .int x1.1), (2, .int x1.2)] H locs ls) hj (fun n x1 q hf hr ih H locs ls hC => ?_) ⟨hP, hD, hS, lv_sub hl [2, 1, 0] rfl⟩
    obtain ⟨hP, hD, hS, hl⟩ := hC
    unfold b_X4_inverse_4 at hf
    refine lv_iload_n (pc := 4) hX hB dX4_inverse_4 rfl (lv_at hl 2 rfl) ?_
    refine lv_bipush (pc := 5) (v := 95) hX hB dX4_inverse_5 (by decide) ?_
    refine lv_icmp_ge (pc := 7) (tgt := 23) hX hB dX4_inverse_7 (by decide) (fun hq => ?_) (fun hq => ?_)
    · have hf := zs_ip hf hq
      obtain rfl := Option.some.inj hf
      obtain rfl := hr
      exact X () _ _ _ ⟨hP, hD, hS, lv_sub hl [1] rfl⟩
    · have hf := zs_in hf hq
      refine lv_iload_n (pc := 10) hX hB dX4_inverse_10 rfl (lv_at hl 1 rfl) ?_
      refine lv_iload_n (pc := 11) hX hB dX4_inverse_11 rfl (lv_at hl 0 rfl) ?_
      refine lv_imul (pc := 12) hX hB dX4_inverse_12 ?_
      refine lv_bipush (pc := 13) (v := 97) hX hB dX4_inverse_13 (by decide) ?_
      refine zs_irem (pc := 15) hX hB dX4_inverse_15 (by decide) ?_
      refine lv_istore_n (pc := 16) (lv' := [(1, .int (jrem (x1.1 * p1) (97 : Int32))), (0, .int p1), (2, .int x1.2)]) hX hB dX4_inverse_16 rfl hl (by decide) rfl (fun ls hl => ?_)
      refine lv_iinc (pc := 17) (v := x1.2 + (1 : Int32)) (lv' := [(2, .int (x1.2 + (1 : Int32))), (1, .int (jrem (x1.1 * p1) (97 : Int32))), (0, .int p1)]) hX hB dX4_inverse_17 hl (k := 2) rfl rfl (by decide) rfl (fun ls hl => ?_)
      refine lv_goto (pc := 20) (tgt := 4) hX hB dX4_inverse_20 (by decide) ?_
      obtain rfl := Option.some.inj hf
      exact ih _ hr _ _ _ ⟨hP, hD, hS, lv_sub hl [2, 1, 0] rfl⟩

def b_X4_valueAt_73 (p1 : Int32) (y2 : Int32 × (Nat → Int32)) (x3 : Int32 × Int32) (x5 : Int32 × Int32) : Option ((Int32 × Int32) ⊕ (Int32)) :=
  if y2.1 ≤ x5.2 then (some (Sum.inr x5.1)) else (if x5.2 = x3.2 then (some (Sum.inl (x5.1, x5.2 + (1 : Int32)))) else (gd (inb x5.2 4) (nm (jrem (((p1 - (y2.2 x5.2.toNatClampNeg)) - (1 : Int32)) + (97 : Int32)) (97 : Int32)) (fun w7 => gd (inb x3.2 4) (gd (inb x5.2 4) (nm (jrem (((y2.2 x3.2.toNatClampNeg) - (y2.2 x5.2.toNatClampNeg)) + (97 : Int32)) (97 : Int32)) (fun w8 => (f_X4_inverse w8).bind (fun o9 => some (Sum.inl (jrem ((jrem (x5.1 * w7) (97 : Int32)) * o9) (97 : Int32), x5.2 + (1 : Int32)))))))))))
def b_X4_valueAt_50 (v_T_points : Nat → Int32) (p1 : Int32) (y2 : Int32 × (Nat → Int32)) (x3 : Int32 × Int32) : Option ((Int32 × Int32) ⊕ (Int32)) :=
  if y2.1 ≤ x3.2 then (some (Sum.inr x3.1)) else (gd (inb x3.2 4) (gd (inb (y2.2 x3.2.toNatClampNeg) 6) ((lp (b_X4_valueAt_73 p1 y2 x3) 200 (v_T_points (y2.2 x3.2.toNatClampNeg).toNatClampNeg, (0 : Int32))).bind (fun y6 => some (Sum.inl (jrem (x3.1 + y6) (97 : Int32), x3.2 + (1 : Int32)))))))
def b_X4_valueAt_4 (v_T_st : Nat → Int32) (v_T_points : Nat → Int32) (x1 : Int32 × Int32 × (Nat → Int32)) : Option ((Int32 × Int32 × (Nat → Int32)) ⊕ (Int32 × (Nat → Int32))) :=
  if (6 : Int32) ≤ x1.2.1 then (some (Sum.inr (x1.1, x1.2.2))) else (gd (inb (1 : Int32) 27) (if (v_T_st (1 : Int32).toNatClampNeg) ≤ x1.1 then (some (Sum.inr (x1.1, x1.2.2))) else (gd (inb x1.2.1 6) (if (v_T_points x1.2.1.toNatClampNeg) < (0 : Int32) then (some (Sum.inl (x1.1, x1.2.1 + (1 : Int32), x1.2.2))) else (gd (inb x1.1 4) (some (Sum.inl (x1.1 + (1 : Int32), x1.2.1 + (1 : Int32), upd x1.2.2 x1.1.toNatClampNeg x1.2.1))))))))
def f_X4_valueAt (v_T_st : Nat → Int32) (v_T_points : Nat → Int32) (v_T_used : Nat → Int32) (p1 : Int32) : Option (Int32 × (Nat → Int32)) :=
  (lp (b_X4_valueAt_4 v_T_st v_T_points) 200 ((0 : Int32), (0 : Int32), v_T_used)).bind (fun y2 => (lp (b_X4_valueAt_50 v_T_points p1 y2) 200 ((0 : Int32), (0 : Int32))).bind (fun y4 => some (y4, y2.2)))
set_option maxHeartbeats 4000000 in
set_option maxRecDepth 100000 in
theorem c_X4_valueAt (l : Launch) (g : GG) (sz : Nat) (a_T a_T_refused a_T_text a_T_row a_T_ahead a_T_isKept a_T_kept a_T_keptAhead a_T_keptMany a_T_st a_T_points a_T_used : Nat) (v_T_above : Int64) (v_T_below : Int64) (v_T_bytes : Int32) (v_T_place : Int32) (v_T_token : Int32) (v_T_value : Int32) (v_T_begins : Int32) (v_T_toldHolders : Int32) (v_T_undoMany : Int32) (v_T_drawn : Int64) (v_T_st : Nat → Int32) (v_T_points : Nat → Int32) (v_T_used : Nat → Int32) (p1 : Int32) (o : Int32 × (Nat → Int32)) (hf : f_X4_valueAt v_T_st v_T_points v_T_used p1 = some o) : Met l yX4_valueAt (Cond.code yX4_valueAt cX4_valueAt 9 (some .int) :: TB) { frames := 1, cells := 0, slots := 0, locals := 22 } (Pst g [(a_T, .inr (4, [.ref a_T_st, .long v_T_above, .long v_T_below, .ref a_T_refused, .ref a_T_text, .int v_T_bytes, .int v_T_place, .int v_T_token, .int v_T_value, .int v_T_begins, .ref a_T_row, .int v_T_toldHolders, .ref a_T_points, .ref a_T_used, .ref a_T_ahead, .int v_T_undoMany, .long v_T_drawn, .ref a_T_isKept, .ref a_T_kept, .ref a_T_keptAhead, .ref a_T_keptMany])), (a_T_st, .inl (gI g, 27, .inl v_T_st)), (a_T_points, .inl (gI g, 6, .inl v_T_points)), (a_T_used, .inl (gI g, 4, .inl v_T_used))] [.ref a_T, .int p1] sz) (Qst g [(a_T, .inr (4, [.ref a_T_st, .long v_T_above, .long v_T_below, .ref a_T_refused, .ref a_T_text, .int v_T_bytes, .int v_T_place, .int v_T_token, .int v_T_value, .int v_T_begins, .ref a_T_row, .int v_T_toldHolders, .ref a_T_points, .ref a_T_used, .ref a_T_ahead, .int v_T_undoMany, .long v_T_drawn, .ref a_T_isKept, .ref a_T_kept, .ref a_T_keptAhead, .ref a_T_keptMany])), (a_T_st, .inl (gI g, 27, .inl v_T_st)), (a_T_points, .inl (gI g, 6, .inl v_T_points)), (a_T_used, .inl (gI g, 4, .inl o.2))] (some (.int o.1)) (va_A [(a_T, .inr (4, [.ref a_T_st, .long v_T_above, .long v_T_below, .ref a_T_refused, .ref a_T_text, .int v_T_bytes, .int v_T_place, .int v_T_token, .int v_T_value, .int v_T_begins, .ref a_T_row, .int v_T_toldHolders, .ref a_T_points, .ref a_T_used, .ref a_T_ahead, .int v_T_undoMany, .long v_T_drawn, .ref a_T_isKept, .ref a_T_kept, .ref a_T_keptAhead, .ref a_T_keptMany])), (a_T_st, .inl (gI g, 27, .inl v_T_st)), (a_T_points, .inl (gI g, 6, .inl v_T_points)), (a_T_used, .inl (gI g, 4, .inl v_T_used))] sz)) 0 0 (va_A [(a_T, .inr (4, [.ref a_T_st, .long v_T_above, .long v_T_below, .ref a_T_refused, .ref a_T_text, .int v_T_bytes, .int v_T_place, .int v_T_token, .int v_T_value, .int v_T_begins, .ref a_T_row, .int v_T_toldHolders, .ref a_T_points, .ref a_T_used, .ref a_T_ahead, .int v_T_undoMany, .long v_T_drawn, .ref a_T_isKept, .ref a_T_kept, .ref a_T_keptAhead, .ref a_T_keptMany])), (a_T_st, .inl (gI g, 27, .inl v_T_st)), (a_T_points, .inl (gI g, 6, .inl v_T_points)), (a_T_used, .inl (gI g, 4, .inl v_T_used))] sz) := by
  unfold f_X4_valueAt at hf
  refine zs_met (own := RX4) (plainFor_of_name (by decide)) rfl (Nat.le_of_ble_eq_true rfl) ?_
  intro p e s m below meth c A ls hX hB hR hM hT hO hK hN hA hE hP hD hS hl
  have hl : lv_has ls 9 [(0, .ref a_T), (1, .int p1)] := hl
  refine lv_iconst (pc := 0) (v := 0) hX hB dX4_valueAt_0 (by decide) ?_
  refine lv_istore_n (pc := 1) (lv' := [(2, .int (0 : Int32)), (0, .ref a_T), (1, .int p1)]) hX hB dX4_valueAt_1 rfl hl (by decide) rfl (fun ls hl => ?_)
  refine lv_iconst (pc := 2) (v := 0) hX hB dX4_valueAt_2 (by decide) ?_
  refine lv_istore_n (pc := 3) (lv' := [(3, .int (0 : Int32)), (2, .int (0 : Int32)), (0, .ref a_T), (1, .int p1)]) hX hB dX4_valueAt_3 rfl hl (by decide) rfl (fun ls hl => ?_)
  obtain ⟨y2, hj, hf⟩ := zs_bind hf
  refine zs_then (α := Unit) (fun _ H locs ls => CC g A s.heap 9 [(a_T, .inr (4, [.ref a_T_st, .long v_T_above, .long v_T_below, .ref a_T_refused, .ref a_T_text, .int v_T_bytes, .int v_T_place, .int v_T_token, .int v_T_value, .int v_T_begins, .ref a_T_row, .int v_T_toldHolders, .ref a_T_points, .ref a_T_used, .ref a_T_ahead, .int v_T_undoMany, .long v_T_drawn, .ref a_T_isKept, .ref a_T_kept, .ref a_T_keptAhead, .ref a_T_keptMany])), (a_T_st, .inl (gI g, 27, .inl v_T_st)), (a_T_points, .inl (gI g, 6, .inl v_T_points)), (a_T_used, .inl (gI g, 4, .inl y2.2))] [(0, .ref a_T), (1, .int p1), (2, .int y2.1)] H locs ls) (fun _ ls => F0 m 45 ls []) (fun _ H locs ls hC => ?_) (fun X => ?_)
  · obtain ⟨hP, hD, hS, hl⟩ := hC
    refine lv_iconst (pc := 45) (v := 0) hX hB dX4_valueAt_45 (by decide) ?_
    refine lv_istore_n (pc := 46) (lv' := [(3, .int (0 : Int32)), (0, .ref a_T), (1, .int p1), (2, .int y2.1)]) hX hB dX4_valueAt_46 rfl hl (by decide) rfl (fun ls hl => ?_)
    refine lv_iconst (pc := 47) (v := 0) hX hB dX4_valueAt_47 (by decide) ?_
    refine lv_istore (pc := 48) (lv' := [(4, .int (0 : Int32)), (3, .int (0 : Int32)), (0, .ref a_T), (1, .int p1), (2, .int y2.1)]) hX hB dX4_valueAt_48 hl (by decide) rfl (fun ls hl => ?_)
    obtain ⟨y4, hj, hf⟩ := zs_bind hf
    refine zs_then (α := Unit) (fun _ H locs ls => CC g A s.heap 9 [(a_T, .inr (4, [.ref a_T_st, .long v_T_above, .long v_T_below, .ref a_T_refused, .ref a_T_text, .int v_T_bytes, .int v_T_place, .int v_T_token, .int v_T_value, .int v_T_begins, .ref a_T_row, .int v_T_toldHolders, .ref a_T_points, .ref a_T_used, .ref a_T_ahead, .int v_T_undoMany, .long v_T_drawn, .ref a_T_isKept, .ref a_T_kept, .ref a_T_keptAhead, .ref a_T_keptMany])), (a_T_st, .inl (gI g, 27, .inl v_T_st)), (a_T_points, .inl (gI g, 6, .inl v_T_points)), (a_T_used, .inl (gI g, 4, .inl y2.2))] [(3, .int y4)] H locs ls) (fun _ ls => F0 m 167 ls []) (fun _ H locs ls hC => ?_) (fun X => ?_)
    · obtain ⟨hP, hD, hS, hl⟩ := hC
      refine lv_iload_n (pc := 167) hX hB dX4_valueAt_167 rfl (lv_at hl 0 rfl) ?_
      obtain rfl := Option.some.inj hf
      exact zs_iret (pc := 168) hX hB hR hK hP hD hS dX4_valueAt_168
    · refine zs_loop (fun x3 H locs ls => CC g A s.heap 9 [(a_T, .inr (4, [.ref a_T_st, .long v_T_above, .long v_T_below, .ref a_T_refused, .ref a_T_text, .int v_T_bytes, .int v_T_place, .int v_T_token, .int v_T_value, .int v_T_begins, .ref a_T_row, .int v_T_toldHolders, .ref a_T_points, .ref a_T_used, .ref a_T_ahead, .int v_T_undoMany, .long v_T_drawn, .ref a_T_isKept, .ref a_T_kept, .ref a_T_keptAhead, .ref a_T_keptMany])), (a_T_st, .inl (gI g, 27, .inl v_T_st)), (a_T_points, .inl (gI g, 6, .inl v_T_points)), (a_T_used, .inl (gI g, 4, .inl y2.2))] [(0, .ref a_T), (1, .int p1), (2, .int y2.1), (3, .int x3.1), (4, .int x3.2)] H locs ls) hj (fun n x3 q hf hr ih H locs ls hC => ?_) ⟨hP, hD, hS, lv_sub hl [2, 3, 4, 1, 0] rfl⟩
      obtain ⟨hP, hD, hS, hl⟩ := hC
      unfold b_X4_valueAt_50 at hf
      refine lv_iload (pc := 50) hX hB dX4_valueAt_50 (lv_at hl 4 rfl) ?_
      refine lv_iload_n (pc := 52) hX hB dX4_valueAt_52 rfl (lv_at hl 2 rfl) ?_
      refine lv_icmp_ge (pc := 53) (tgt := 167) hX hB dX4_valueAt_53 (by decide) (fun hq => ?_) (fun hq => ?_)
      · have hf := zs_ip hf hq
        obtain rfl := Option.some.inj hf
        obtain rfl := hr
        exact X () _ _ _ ⟨hP, hD, hS, lv_sub hl [3] rfl⟩
      · have hf := zs_in hf hq
        refine lv_aload_n (pc := 56) hX hB dX4_valueAt_56 rfl (lv_at hl 0 rfl) ?_
        refine gf_X4_26 (pc := 57) (v := .ref a_T_points) hX hB hT hO hE hP 0 rfl rfl dX4_valueAt_57 ?_
        refine lv_aload_n (pc := 60) hX hB dX4_valueAt_60 rfl (lv_at hl 0 rfl) ?_
        refine gf_X4_29 (pc := 61) (v := .ref a_T_used) hX hB hT hO hE hP 0 rfl rfl dX4_valueAt_61 ?_
        refine lv_iload (pc := 64) hX hB dX4_valueAt_64 (lv_at hl 4 rfl) ?_
        obtain ⟨hg, hf⟩ := zs_gd hf
        refine va_iald (pc := 66) hX hB hE.1 hP 3 0 rfl rfl (zs_inb hg) dX4_valueAt_66 ?_
        obtain ⟨hg, hf⟩ := zs_gd hf
        refine va_iald (pc := 67) hX hB hE.1 hP 2 0 rfl rfl (zs_inb hg) dX4_valueAt_67 ?_
        refine lv_istore (pc := 68) (lv' := [(5, .int (v_T_points (y2.2 x3.2.toNatClampNeg).toNatClampNeg)), (0, .ref a_T), (1, .int p1), (2, .int y2.1), (3, .int x3.1), (4, .int x3.2)]) hX hB dX4_valueAt_68 hl (by decide) rfl (fun ls hl => ?_)
        refine lv_iconst (pc := 70) (v := 0) hX hB dX4_valueAt_70 (by decide) ?_
        refine lv_istore (pc := 71) (lv' := [(6, .int (0 : Int32)), (5, .int (v_T_points (y2.2 x3.2.toNatClampNeg).toNatClampNeg)), (0, .ref a_T), (1, .int p1), (2, .int y2.1), (3, .int x3.1), (4, .int x3.2)]) hX hB dX4_valueAt_71 hl (by decide) rfl (fun ls hl => ?_)
        obtain ⟨y6, hj, hf⟩ := zs_bind hf
        refine zs_then (α := Unit) (fun _ H locs ls => CC g A s.heap 9 [(a_T, .inr (4, [.ref a_T_st, .long v_T_above, .long v_T_below, .ref a_T_refused, .ref a_T_text, .int v_T_bytes, .int v_T_place, .int v_T_token, .int v_T_value, .int v_T_begins, .ref a_T_row, .int v_T_toldHolders, .ref a_T_points, .ref a_T_used, .ref a_T_ahead, .int v_T_undoMany, .long v_T_drawn, .ref a_T_isKept, .ref a_T_kept, .ref a_T_keptAhead, .ref a_T_keptMany])), (a_T_st, .inl (gI g, 27, .inl v_T_st)), (a_T_points, .inl (gI g, 6, .inl v_T_points)), (a_T_used, .inl (gI g, 4, .inl y2.2))] [(0, .ref a_T), (1, .int p1), (2, .int y2.1), (3, .int x3.1), (4, .int x3.2), (5, .int y6)] H locs ls) (fun _ ls => F0 m 153 ls []) (fun _ H locs ls hC => ?_) (fun X => ?_)
        · obtain ⟨hP, hD, hS, hl⟩ := hC
          refine lv_iload_n (pc := 153) hX hB dX4_valueAt_153 rfl (lv_at hl 3 rfl) ?_
          refine lv_iload (pc := 154) hX hB dX4_valueAt_154 (lv_at hl 5 rfl) ?_
          refine lv_iadd (pc := 156) hX hB dX4_valueAt_156 ?_
          refine lv_bipush (pc := 157) (v := 97) hX hB dX4_valueAt_157 (by decide) ?_
          refine zs_irem (pc := 159) hX hB dX4_valueAt_159 (by decide) ?_
          refine lv_istore_n (pc := 160) (lv' := [(3, .int (jrem (x3.1 + y6) (97 : Int32))), (0, .ref a_T), (1, .int p1), (2, .int y2.1), (4, .int x3.2), (5, .int y6)]) hX hB dX4_valueAt_160 rfl hl (by decide) rfl (fun ls hl => ?_)
          refine lv_iinc (pc := 161) (v := x3.2 + (1 : Int32)) (lv' := [(4, .int (x3.2 + (1 : Int32))), (3, .int (jrem (x3.1 + y6) (97 : Int32))), (0, .ref a_T), (1, .int p1), (2, .int y2.1), (5, .int y6)]) hX hB dX4_valueAt_161 hl (k := 4) rfl rfl (by decide) rfl (fun ls hl => ?_)
          refine lv_goto (pc := 164) (tgt := 50) hX hB dX4_valueAt_164 (by decide) ?_
          obtain rfl := Option.some.inj hf
          exact ih _ hr _ _ _ ⟨hP, hD, hS, lv_sub hl [2, 3, 4, 1, 0] rfl⟩
        · refine zs_loop (fun x5 H locs ls => CC g A s.heap 9 [(a_T, .inr (4, [.ref a_T_st, .long v_T_above, .long v_T_below, .ref a_T_refused, .ref a_T_text, .int v_T_bytes, .int v_T_place, .int v_T_token, .int v_T_value, .int v_T_begins, .ref a_T_row, .int v_T_toldHolders, .ref a_T_points, .ref a_T_used, .ref a_T_ahead, .int v_T_undoMany, .long v_T_drawn, .ref a_T_isKept, .ref a_T_kept, .ref a_T_keptAhead, .ref a_T_keptMany])), (a_T_st, .inl (gI g, 27, .inl v_T_st)), (a_T_points, .inl (gI g, 6, .inl v_T_points)), (a_T_used, .inl (gI g, 4, .inl y2.2))] [(0, .ref a_T), (1, .int p1), (2, .int y2.1), (3, .int x3.1), (4, .int x3.2), (5, .int x5.1), (6, .int x5.2)] H locs ls) hj (fun n x5 q hf hr ih H locs ls hC => ?_) ⟨hP, hD, hS, lv_sub hl [2, 3, 4, 5, 6, 1, 0] rfl⟩
          obtain ⟨hP, hD, hS, hl⟩ := hC
          unfold b_X4_valueAt_73 at hf
          refine lv_iload (pc := 73) hX hB dX4_valueAt_73 (lv_at hl 6 rfl) ?_
          refine lv_iload_n (pc := 75) hX hB dX4_valueAt_75 rfl (lv_at hl 2 rfl) ?_
          refine lv_icmp_ge (pc := 76) (tgt := 153) hX hB dX4_valueAt_76 (by decide) (fun hq => ?_) (fun hq => ?_)
          · have hf := zs_ip hf hq
            obtain rfl := Option.some.inj hf
            obtain rfl := hr
            exact X () _ _ _ ⟨hP, hD, hS, lv_sub hl [0, 1, 2, 3, 4, 5] rfl⟩
          · have hf := zs_in hf hq
            refine lv_iload (pc := 79) hX hB dX4_valueAt_79 (lv_at hl 6 rfl) ?_
            refine lv_iload (pc := 81) hX hB dX4_valueAt_81 (lv_at hl 4 rfl) ?_
            refine lv_icmp_eq (pc := 83) (tgt := 147) hX hB dX4_valueAt_83 (by decide) (fun hq => ?_) (fun hq => ?_)
            · have hf := zs_ip hf hq
              refine lv_iinc (pc := 147) (v := x5.2 + (1 : Int32)) (lv' := [(6, .int (x5.2 + (1 : Int32))), (0, .ref a_T), (1, .int p1), (2, .int y2.1), (3, .int x3.1), (4, .int x3.2), (5, .int x5.1)]) hX hB dX4_valueAt_147 hl (k := 6) rfl rfl (by decide) rfl (fun ls hl => ?_)
              refine lv_goto (pc := 150) (tgt := 73) hX hB dX4_valueAt_150 (by decide) ?_
              obtain rfl := Option.some.inj hf
              exact ih _ hr _ _ _ ⟨hP, hD, hS, lv_sub hl [1, 2, 3, 4, 5, 6, 0] rfl⟩
            · have hf := zs_in hf hq
              refine lv_iload_n (pc := 86) hX hB dX4_valueAt_86 rfl (lv_at hl 1 rfl) ?_
              refine lv_aload_n (pc := 87) hX hB dX4_valueAt_87 rfl (lv_at hl 0 rfl) ?_
              refine gf_X4_29 (pc := 88) (v := .ref a_T_used) hX hB hT hO hE hP 0 rfl rfl dX4_valueAt_88 ?_
              refine lv_iload (pc := 91) hX hB dX4_valueAt_91 (lv_at hl 6 rfl) ?_
              obtain ⟨hg, hf⟩ := zs_gd hf
              refine va_iald (pc := 93) hX hB hE.1 hP 3 0 rfl rfl (zs_inb hg) dX4_valueAt_93 ?_
              refine lv_isub (pc := 94) hX hB dX4_valueAt_94 ?_
              refine lv_iconst (pc := 95) (v := 1) hX hB dX4_valueAt_95 (by decide) ?_
              refine lv_isub (pc := 96) hX hB dX4_valueAt_96 ?_
              refine lv_bipush (pc := 97) (v := 97) hX hB dX4_valueAt_97 (by decide) ?_
              refine lv_iadd (pc := 99) hX hB dX4_valueAt_99 ?_
              refine lv_bipush (pc := 100) (v := 97) hX hB dX4_valueAt_100 (by decide) ?_
              refine zs_irem (pc := 102) hX hB dX4_valueAt_102 (by decide) ?_
              obtain ⟨w7, ew7, hf⟩ := zs_nm hf
              rw [← ew7]
              refine lv_istore (pc := 103) (lv' := [(7, .int w7), (0, .ref a_T), (1, .int p1), (2, .int y2.1), (3, .int x3.1), (4, .int x3.2), (5, .int x5.1), (6, .int x5.2)]) hX hB dX4_valueAt_103 hl (by decide) rfl (fun ls hl => ?_)
              refine lv_aload_n (pc := 105) hX hB dX4_valueAt_105 rfl (lv_at hl 1 rfl) ?_
              refine gf_X4_29 (pc := 106) (v := .ref a_T_used) hX hB hT hO hE hP 0 rfl rfl dX4_valueAt_106 ?_
              refine lv_iload (pc := 109) hX hB dX4_valueAt_109 (lv_at hl 5 rfl) ?_
              obtain ⟨hg, hf⟩ := zs_gd hf
              refine va_iald (pc := 111) hX hB hE.1 hP 3 0 rfl rfl (zs_inb hg) dX4_valueAt_111 ?_
              refine lv_aload_n (pc := 112) hX hB dX4_valueAt_112 rfl (lv_at hl 1 rfl) ?_
              refine gf_X4_29 (pc := 113) (v := .ref a_T_used) hX hB hT hO hE hP 0 rfl rfl dX4_valueAt_113 ?_
              refine lv_iload (pc := 116) hX hB dX4_valueAt_116 (lv_at hl 7 rfl) ?_
              obtain ⟨hg, hf⟩ := zs_gd hf
              refine va_iald (pc := 118) hX hB hE.1 hP 3 0 rfl rfl (zs_inb hg) dX4_valueAt_118 ?_
              refine lv_isub (pc := 119) hX hB dX4_valueAt_119 ?_
              refine lv_bipush (pc := 120) (v := 97) hX hB dX4_valueAt_120 (by decide) ?_
              refine lv_iadd (pc := 122) hX hB dX4_valueAt_122 ?_
              refine lv_bipush (pc := 123) (v := 97) hX hB dX4_valueAt_123 (by decide) ?_
              refine zs_irem (pc := 125) hX hB dX4_valueAt_125 (by decide) ?_
              obtain ⟨w8, ew8, hf⟩ := zs_nm hf
              rw [← ew8]
              refine lv_istore (pc := 126) (lv' := [(8, .int w8), (7, .int w7), (0, .ref a_T), (1, .int p1), (2, .int y2.1), (3, .int x3.1), (4, .int x3.2), (5, .int x5.1), (6, .int x5.2)]) hX hB dX4_valueAt_126 hl (by decide) rfl (fun ls hl => ?_)
              refine lv_iload (pc := 128) hX hB dX4_valueAt_128 (lv_at hl 7 rfl) ?_
              refine lv_iload (pc := 130) hX hB dX4_valueAt_130 (lv_at hl 1 rfl) ?_
              refine lv_imul (pc := 132) hX hB dX4_valueAt_132 ?_
              refine lv_bipush (pc := 133) (v := 97) hX hB dX4_valueAt_133 (by decide) ?_
              refine zs_irem (pc := 135) hX hB dX4_valueAt_135 (by decide) ?_
              refine lv_iload (pc := 136) hX hB dX4_valueAt_136 (lv_at hl 0 rfl) ?_
              obtain ⟨o9, hc, hf⟩ := zs_bind hf
              refine zs_S (pc := 138) (As := [.int w8]) (rest := [.int (jrem (x5.1 * w7) (97 : Int32))]) (st1 := [.int o9, .int (jrem (x5.1 * w7) (97 : Int32))]) (wc := []) (wr := [(a_T, .inr (4, [.ref a_T_st, .long v_T_above, .long v_T_below, .ref a_T_refused, .ref a_T_text, .int v_T_bytes, .int v_T_place, .int v_T_token, .int v_T_value, .int v_T_begins, .ref a_T_row, .int v_T_toldHolders, .ref a_T_points, .ref a_T_used, .ref a_T_ahead, .int v_T_undoMany, .long v_T_drawn, .ref a_T_isKept, .ref a_T_kept, .ref a_T_keptAhead, .ref a_T_keptMany])), (a_T_st, .inl (gI g, 27, .inl v_T_st)), (a_T_points, .inl (gI g, 6, .inl v_T_points)), (a_T_used, .inl (gI g, 4, .inl y2.2))]) (w1 := []) (w2 := [(a_T, .inr (4, [.ref a_T_st, .long v_T_above, .long v_T_below, .ref a_T_refused, .ref a_T_text, .int v_T_bytes, .int v_T_place, .int v_T_token, .int v_T_value, .int v_T_begins, .ref a_T_row, .int v_T_toldHolders, .ref a_T_points, .ref a_T_used, .ref a_T_ahead, .int v_T_undoMany, .long v_T_drawn, .ref a_T_isKept, .ref a_T_kept, .ref a_T_keptAhead, .ref a_T_keptMany])), (a_T_st, .inl (gI g, 27, .inl v_T_st)), (a_T_points, .inl (gI g, 6, .inl v_T_points)), (a_T_used, .inl (gI g, 4, .inl y2.2))]) (ov := some (.int o9)) lb_X4_inverse lk_X4_129 hX hB hM hO hT hE hP hD hS hA (c_X4_inverse l g _ w8 o9 hc) ⟨rfl, rfl⟩ ⟨Nat.le_of_ble_eq_true rfl, Nat.le_of_ble_eq_true rfl⟩ [] [0, 1, 2, 3] [0, 1, 2, 3] rfl rfl rfl rfl (by decide) rfl rfl rfl rfl hl.1 (Nat.le_of_ble_eq_true rfl) ⟨Nat.zero_le _, Nat.zero_le _⟩ rfl dX4_valueAt_138 (fun H locs hP hD hS => ?_)
              refine lv_imul (pc := 141) hX hB dX4_valueAt_141 ?_
              refine lv_bipush (pc := 142) (v := 97) hX hB dX4_valueAt_142 (by decide) ?_
              refine zs_irem (pc := 144) hX hB dX4_valueAt_144 (by decide) ?_
              refine lv_istore (pc := 145) (lv' := [(5, .int (jrem ((jrem (x5.1 * w7) (97 : Int32)) * o9) (97 : Int32))), (8, .int w8), (7, .int w7), (0, .ref a_T), (1, .int p1), (2, .int y2.1), (3, .int x3.1), (4, .int x3.2), (6, .int x5.2)]) hX hB dX4_valueAt_145 hl (by decide) rfl (fun ls hl => ?_)
              refine lv_iinc (pc := 147) (v := x5.2 + (1 : Int32)) (lv' := [(6, .int (x5.2 + (1 : Int32))), (5, .int (jrem ((jrem (x5.1 * w7) (97 : Int32)) * o9) (97 : Int32))), (8, .int w8), (7, .int w7), (0, .ref a_T), (1, .int p1), (2, .int y2.1), (3, .int x3.1), (4, .int x3.2)]) hX hB dX4_valueAt_147 hl (k := 8) rfl rfl (by decide) rfl (fun ls hl => ?_)
              refine lv_goto (pc := 150) (tgt := 73) hX hB dX4_valueAt_150 (by decide) ?_
              obtain rfl := Option.some.inj hf
              exact ih _ hr _ _ _ ⟨hP, hD, hS, lv_sub hl [4, 5, 6, 7, 8, 1, 0] rfl⟩
  · refine zs_loop (fun x1 H locs ls => CC g A s.heap 9 [(a_T, .inr (4, [.ref a_T_st, .long v_T_above, .long v_T_below, .ref a_T_refused, .ref a_T_text, .int v_T_bytes, .int v_T_place, .int v_T_token, .int v_T_value, .int v_T_begins, .ref a_T_row, .int v_T_toldHolders, .ref a_T_points, .ref a_T_used, .ref a_T_ahead, .int v_T_undoMany, .long v_T_drawn, .ref a_T_isKept, .ref a_T_kept, .ref a_T_keptAhead, .ref a_T_keptMany])), (a_T_st, .inl (gI g, 27, .inl v_T_st)), (a_T_points, .inl (gI g, 6, .inl v_T_points)), (a_T_used, .inl (gI g, 4, .inl x1.2.2))] [(0, .ref a_T), (1, .int p1), (2, .int x1.1), (3, .int x1.2.1)] H locs ls) hj (fun n x1 q hf hr ih H locs ls hC => ?_) ⟨hP, hD, hS, lv_sub hl [2, 3, 1, 0] rfl⟩
    obtain ⟨hP, hD, hS, hl⟩ := hC
    unfold b_X4_valueAt_4 at hf
    refine lv_iload_n (pc := 4) hX hB dX4_valueAt_4 rfl (lv_at hl 3 rfl) ?_
    refine lv_bipush (pc := 5) (v := 6) hX hB dX4_valueAt_5 (by decide) ?_
    refine lv_icmp_ge (pc := 7) (tgt := 45) hX hB dX4_valueAt_7 (by decide) (fun hq => ?_) (fun hq => ?_)
    · have hf := zs_ip hf hq
      obtain rfl := Option.some.inj hf
      obtain rfl := hr
      exact X () _ _ _ ⟨hP, hD, hS, lv_sub hl [0, 1, 2] rfl⟩
    · have hf := zs_in hf hq
      refine lv_iload_n (pc := 10) hX hB dX4_valueAt_10 rfl (lv_at hl 2 rfl) ?_
      refine lv_aload_n (pc := 11) hX hB dX4_valueAt_11 rfl (lv_at hl 0 rfl) ?_
      refine gf_X4_7 (pc := 12) (v := .ref a_T_st) hX hB hT hO hE hP 0 rfl rfl dX4_valueAt_12 ?_
      refine lv_iconst (pc := 15) (v := 1) hX hB dX4_valueAt_15 (by decide) ?_
      obtain ⟨hg, hf⟩ := zs_gd hf
      refine va_iald (pc := 16) hX hB hE.1 hP 1 0 rfl rfl (zs_inb hg) dX4_valueAt_16 ?_
      refine lv_icmp_ge (pc := 17) (tgt := 45) hX hB dX4_valueAt_17 (by decide) (fun hq => ?_) (fun hq => ?_)
      · have hf := zs_ip hf hq
        obtain rfl := Option.some.inj hf
        obtain rfl := hr
        exact X () _ _ _ ⟨hP, hD, hS, lv_sub hl [0, 1, 2] rfl⟩
      · have hf := zs_in hf hq
        refine lv_aload_n (pc := 20) hX hB dX4_valueAt_20 rfl (lv_at hl 0 rfl) ?_
        refine gf_X4_26 (pc := 21) (v := .ref a_T_points) hX hB hT hO hE hP 0 rfl rfl dX4_valueAt_21 ?_
        refine lv_iload_n (pc := 24) hX hB dX4_valueAt_24 rfl (lv_at hl 3 rfl) ?_
        obtain ⟨hg, hf⟩ := zs_gd hf
        refine va_iald (pc := 25) hX hB hE.1 hP 2 0 rfl rfl (zs_inb hg) dX4_valueAt_25 ?_
        refine lv_if_lt (pc := 26) (tgt := 39) hX hB dX4_valueAt_26 (by decide) (fun hq => ?_) (fun hq => ?_)
        · have hf := zs_ip hf hq
          refine lv_iinc (pc := 39) (v := x1.2.1 + (1 : Int32)) (lv' := [(3, .int (x1.2.1 + (1 : Int32))), (0, .ref a_T), (1, .int p1), (2, .int x1.1)]) hX hB dX4_valueAt_39 hl (k := 3) rfl rfl (by decide) rfl (fun ls hl => ?_)
          refine lv_goto (pc := 42) (tgt := 4) hX hB dX4_valueAt_42 (by decide) ?_
          obtain rfl := Option.some.inj hf
          exact ih _ hr _ _ _ ⟨hP, hD, hS, lv_sub hl [1, 2, 3, 0] rfl⟩
        · have hf := zs_in hf hq
          refine lv_aload_n (pc := 29) hX hB dX4_valueAt_29 rfl (lv_at hl 0 rfl) ?_
          refine gf_X4_29 (pc := 30) (v := .ref a_T_used) hX hB hT hO hE hP 0 rfl rfl dX4_valueAt_30 ?_
          refine lv_iload_n (pc := 33) hX hB dX4_valueAt_33 rfl (lv_at hl 2 rfl) ?_
          refine lv_iload_n (pc := 34) hX hB dX4_valueAt_34 rfl (lv_at hl 3 rfl) ?_
          obtain ⟨hg, hf⟩ := zs_gd hf
          refine zs_iast (pc := 35) (w2 := [(a_T, .inr (4, [.ref a_T_st, .long v_T_above, .long v_T_below, .ref a_T_refused, .ref a_T_text, .int v_T_bytes, .int v_T_place, .int v_T_token, .int v_T_value, .int v_T_begins, .ref a_T_row, .int v_T_toldHolders, .ref a_T_points, .ref a_T_used, .ref a_T_ahead, .int v_T_undoMany, .long v_T_drawn, .ref a_T_isKept, .ref a_T_kept, .ref a_T_keptAhead, .ref a_T_keptMany])), (a_T_st, .inl (gI g, 27, .inl v_T_st)), (a_T_points, .inl (gI g, 6, .inl v_T_points)), (a_T_used, .inl (gI g, 4, .inl (upd x1.2.2 x1.1.toNatClampNeg x1.2.1)))]) hX hB hE hP hD hS 3 rfl (zs_inb hg) rfl dX4_valueAt_35 (fun H locs hP hD hS => ?_)
          refine lv_iinc (pc := 36) (v := x1.1 + (1 : Int32)) (lv' := [(2, .int (x1.1 + (1 : Int32))), (0, .ref a_T), (1, .int p1), (3, .int x1.2.1)]) hX hB dX4_valueAt_36 hl (k := 2) rfl rfl (by decide) rfl (fun ls hl => ?_)
          refine lv_iinc (pc := 39) (v := x1.2.1 + (1 : Int32)) (lv' := [(3, .int (x1.2.1 + (1 : Int32))), (2, .int (x1.1 + (1 : Int32))), (0, .ref a_T), (1, .int p1)]) hX hB dX4_valueAt_39 hl (k := 3) rfl rfl (by decide) rfl (fun ls hl => ?_)
          refine lv_goto (pc := 42) (tgt := 4) hX hB dX4_valueAt_42 (by decide) ?_
          obtain rfl := Option.some.inj hf
          exact ih _ hr _ _ _ ⟨hP, hD, hS, lv_sub hl [2, 3, 1, 0] rfl⟩

def b_X4_agrees_4 (v_T_st : Nat → Int32) (v_T_points : Nat → Int32) (x1 : Int32 × Int32 × (Nat → Int32)) : Option ((Int32 × Int32 × (Nat → Int32)) ⊕ (Int32 × (Nat → Int32))) :=
  if (6 : Int32) ≤ x1.2.1 then (some (Sum.inr (x1.1, x1.2.2))) else (if x1.1 = (0 : Int32) then (some (Sum.inl ((0 : Int32), x1.2.1 + (1 : Int32), x1.2.2))) else (gd (inb x1.2.1 6) (if (v_T_points x1.2.1.toNatClampNeg) < (0 : Int32) then (some (Sum.inl ((1 : Int32), x1.2.1 + (1 : Int32), x1.2.2))) else ((f_X4_valueAt v_T_st v_T_points x1.2.2 (x1.2.1 + (1 : Int32))).bind (fun o3 => gd (inb x1.2.1 6) (if o3.1 = (v_T_points x1.2.1.toNatClampNeg) then (some (Sum.inl ((1 : Int32), x1.2.1 + (1 : Int32), o3.2))) else (some (Sum.inl ((0 : Int32), x1.2.1 + (1 : Int32), o3.2)))))))))
def f_X4_agrees (v_T_st : Nat → Int32) (v_T_points : Nat → Int32) (v_T_used : Nat → Int32) : Option (Int32 × (Nat → Int32)) :=
  (lp (b_X4_agrees_4 v_T_st v_T_points) 200 ((1 : Int32), (0 : Int32), v_T_used)).bind (fun y2 => gd (bz y2.1) (some (y2.1, y2.2)))
set_option maxHeartbeats 4000000 in
set_option maxRecDepth 100000 in
theorem c_X4_agrees (l : Launch) (g : GG) (sz : Nat) (a_T a_T_refused a_T_text a_T_row a_T_ahead a_T_isKept a_T_kept a_T_keptAhead a_T_keptMany a_T_st a_T_points a_T_used : Nat) (v_T_above : Int64) (v_T_below : Int64) (v_T_bytes : Int32) (v_T_place : Int32) (v_T_token : Int32) (v_T_value : Int32) (v_T_begins : Int32) (v_T_toldHolders : Int32) (v_T_undoMany : Int32) (v_T_drawn : Int64) (v_T_st : Nat → Int32) (v_T_points : Nat → Int32) (v_T_used : Nat → Int32) (o : Int32 × (Nat → Int32)) (hf : f_X4_agrees v_T_st v_T_points v_T_used = some o) : Met l yX4_agrees (Cond.code yX4_agrees cX4_agrees 3 (some .boolean) :: TB) { frames := 2, cells := 0, slots := 0, locals := 50 } (Pst g [(a_T, .inr (4, [.ref a_T_st, .long v_T_above, .long v_T_below, .ref a_T_refused, .ref a_T_text, .int v_T_bytes, .int v_T_place, .int v_T_token, .int v_T_value, .int v_T_begins, .ref a_T_row, .int v_T_toldHolders, .ref a_T_points, .ref a_T_used, .ref a_T_ahead, .int v_T_undoMany, .long v_T_drawn, .ref a_T_isKept, .ref a_T_kept, .ref a_T_keptAhead, .ref a_T_keptMany])), (a_T_st, .inl (gI g, 27, .inl v_T_st)), (a_T_points, .inl (gI g, 6, .inl v_T_points)), (a_T_used, .inl (gI g, 4, .inl v_T_used))] [.ref a_T] sz) (Qst g [(a_T, .inr (4, [.ref a_T_st, .long v_T_above, .long v_T_below, .ref a_T_refused, .ref a_T_text, .int v_T_bytes, .int v_T_place, .int v_T_token, .int v_T_value, .int v_T_begins, .ref a_T_row, .int v_T_toldHolders, .ref a_T_points, .ref a_T_used, .ref a_T_ahead, .int v_T_undoMany, .long v_T_drawn, .ref a_T_isKept, .ref a_T_kept, .ref a_T_keptAhead, .ref a_T_keptMany])), (a_T_st, .inl (gI g, 27, .inl v_T_st)), (a_T_points, .inl (gI g, 6, .inl v_T_points)), (a_T_used, .inl (gI g, 4, .inl o.2))] (some (.int o.1)) (va_A [(a_T, .inr (4, [.ref a_T_st, .long v_T_above, .long v_T_below, .ref a_T_refused, .ref a_T_text, .int v_T_bytes, .int v_T_place, .int v_T_token, .int v_T_value, .int v_T_begins, .ref a_T_row, .int v_T_toldHolders, .ref a_T_points, .ref a_T_used, .ref a_T_ahead, .int v_T_undoMany, .long v_T_drawn, .ref a_T_isKept, .ref a_T_kept, .ref a_T_keptAhead, .ref a_T_keptMany])), (a_T_st, .inl (gI g, 27, .inl v_T_st)), (a_T_points, .inl (gI g, 6, .inl v_T_points)), (a_T_used, .inl (gI g, 4, .inl v_T_used))] sz)) 0 0 (va_A [(a_T, .inr (4, [.ref a_T_st, .long v_T_above, .long v_T_below, .ref a_T_refused, .ref a_T_text, .int v_T_bytes, .int v_T_place, .int v_T_token, .int v_T_value, .int v_T_begins, .ref a_T_row, .int v_T_toldHolders, .ref a_T_points, .ref a_T_used, .ref a_T_ahead, .int v_T_undoMany, .long v_T_drawn, .ref a_T_isKept, .ref a_T_kept, .ref a_T_keptAhead, .ref a_T_keptMany])), (a_T_st, .inl (gI g, 27, .inl v_T_st)), (a_T_points, .inl (gI g, 6, .inl v_T_points)), (a_T_used, .inl (gI g, 4, .inl v_T_used))] sz) := by
  unfold f_X4_agrees at hf
  refine zs_met (own := RX4) (plainFor_of_name (by decide)) rfl (Nat.le_of_ble_eq_true rfl) ?_
  intro p e s m below meth c A ls hX hB hR hM hT hO hK hN hA hE hP hD hS hl
  have hl : lv_has ls 3 [(0, .ref a_T)] := hl
  refine lv_iconst (pc := 0) (v := 1) hX hB dX4_agrees_0 (by decide) ?_
  refine lv_istore_n (pc := 1) (lv' := [(1, .int (1 : Int32)), (0, .ref a_T)]) hX hB dX4_agrees_1 rfl hl (by decide) rfl (fun ls hl => ?_)
  refine lv_iconst (pc := 2) (v := 0) hX hB dX4_agrees_2 (by decide) ?_
  refine lv_istore_n (pc := 3) (lv' := [(2, .int (0 : Int32)), (1, .int (1 : Int32)), (0, .ref a_T)]) hX hB dX4_agrees_3 rfl hl (by decide) rfl (fun ls hl => ?_)
  obtain ⟨y2, hj, hf⟩ := zs_bind hf
  refine zs_then (α := Unit) (fun _ H locs ls => CC g A s.heap 3 [(a_T, .inr (4, [.ref a_T_st, .long v_T_above, .long v_T_below, .ref a_T_refused, .ref a_T_text, .int v_T_bytes, .int v_T_place, .int v_T_token, .int v_T_value, .int v_T_begins, .ref a_T_row, .int v_T_toldHolders, .ref a_T_points, .ref a_T_used, .ref a_T_ahead, .int v_T_undoMany, .long v_T_drawn, .ref a_T_isKept, .ref a_T_kept, .ref a_T_keptAhead, .ref a_T_keptMany])), (a_T_st, .inl (gI g, 27, .inl v_T_st)), (a_T_points, .inl (gI g, 6, .inl v_T_points)), (a_T_used, .inl (gI g, 4, .inl y2.2))] [(1, .int y2.1)] H locs ls) (fun _ ls => F0 m 51 ls []) (fun _ H locs ls hC => ?_) (fun X => ?_)
  · obtain ⟨hP, hD, hS, hl⟩ := hC
    refine lv_iload_n (pc := 51) hX hB dX4_agrees_51 rfl (lv_at hl 0 rfl) ?_
    obtain ⟨hg, hf⟩ := zs_gd hf
    obtain rfl := Option.some.inj hf
    exact zs_zret (v := y2.1) (pc := 52) hX hB hR hK (zs_bz hg).1 hP hD hS dX4_agrees_52
  · refine zs_loop (fun x1 H locs ls => CC g A s.heap 3 [(a_T, .inr (4, [.ref a_T_st, .long v_T_above, .long v_T_below, .ref a_T_refused, .ref a_T_text, .int v_T_bytes, .int v_T_place, .int v_T_token, .int v_T_value, .int v_T_begins, .ref a_T_row, .int v_T_toldHolders, .ref a_T_points, .ref a_T_used, .ref a_T_ahead, .int v_T_undoMany, .long v_T_drawn, .ref a_T_isKept, .ref a_T_kept, .ref a_T_keptAhead, .ref a_T_keptMany])), (a_T_st, .inl (gI g, 27, .inl v_T_st)), (a_T_points, .inl (gI g, 6, .inl v_T_points)), (a_T_used, .inl (gI g, 4, .inl x1.2.2))] [(0, .ref a_T), (1, .int x1.1), (2, .int x1.2.1)] H locs ls) hj (fun n x1 q hf hr ih H locs ls hC => ?_) ⟨hP, hD, hS, lv_sub hl [2, 1, 0] rfl⟩
    obtain ⟨hP, hD, hS, hl⟩ := hC
    unfold b_X4_agrees_4 at hf
    refine lv_iload_n (pc := 4) hX hB dX4_agrees_4 rfl (lv_at hl 2 rfl) ?_
    refine lv_bipush (pc := 5) (v := 6) hX hB dX4_agrees_5 (by decide) ?_
    refine lv_icmp_ge (pc := 7) (tgt := 51) hX hB dX4_agrees_7 (by decide) (fun hq => ?_) (fun hq => ?_)
    · have hf := zs_ip hf hq
      obtain rfl := Option.some.inj hf
      obtain rfl := hr
      exact X () _ _ _ ⟨hP, hD, hS, lv_sub hl [1] rfl⟩
    · have hf := zs_in hf hq
      refine lv_iload_n (pc := 10) hX hB dX4_agrees_10 rfl (lv_at hl 1 rfl) ?_
      refine lv_if_eq (pc := 11) (tgt := 43) hX hB dX4_agrees_11 (by decide) (fun hq => ?_) (fun hq => ?_)
      · have hf := zs_ip hf hq
        refine lv_iconst (pc := 43) (v := 0) hX hB dX4_agrees_43 (by decide) ?_
        refine lv_istore_n (pc := 44) (lv' := [(1, .int (0 : Int32)), (0, .ref a_T), (2, .int x1.2.1)]) hX hB dX4_agrees_44 rfl hl (by decide) rfl (fun ls hl => ?_)
        refine lv_iinc (pc := 45) (v := x1.2.1 + (1 : Int32)) (lv' := [(2, .int (x1.2.1 + (1 : Int32))), (1, .int (0 : Int32)), (0, .ref a_T)]) hX hB dX4_agrees_45 hl (k := 2) rfl rfl (by decide) rfl (fun ls hl => ?_)
        refine lv_goto (pc := 48) (tgt := 4) hX hB dX4_agrees_48 (by decide) ?_
        obtain rfl := Option.some.inj hf
        exact ih _ hr _ _ _ ⟨hP, hD, hS, lv_sub hl [2, 1, 0] rfl⟩
      · have hf := zs_in hf hq
        refine lv_aload_n (pc := 14) hX hB dX4_agrees_14 rfl (lv_at hl 0 rfl) ?_
        refine gf_X4_26 (pc := 15) (v := .ref a_T_points) hX hB hT hO hE hP 0 rfl rfl dX4_agrees_15 ?_
        refine lv_iload_n (pc := 18) hX hB dX4_agrees_18 rfl (lv_at hl 2 rfl) ?_
        obtain ⟨hg, hf⟩ := zs_gd hf
        refine va_iald (pc := 19) hX hB hE.1 hP 2 0 rfl rfl (zs_inb hg) dX4_agrees_19 ?_
        refine lv_if_lt (pc := 20) (tgt := 39) hX hB dX4_agrees_20 (by decide) (fun hq => ?_) (fun hq => ?_)
        · have hf := zs_ip hf hq
          refine lv_iconst (pc := 39) (v := 1) hX hB dX4_agrees_39 (by decide) ?_
          refine lv_goto (pc := 40) (tgt := 44) hX hB dX4_agrees_40 (by decide) ?_
          refine lv_istore_n (pc := 44) (lv' := [(1, .int (1 : Int32)), (0, .ref a_T), (2, .int x1.2.1)]) hX hB dX4_agrees_44 rfl hl (by decide) rfl (fun ls hl => ?_)
          refine lv_iinc (pc := 45) (v := x1.2.1 + (1 : Int32)) (lv' := [(2, .int (x1.2.1 + (1 : Int32))), (1, .int (1 : Int32)), (0, .ref a_T)]) hX hB dX4_agrees_45 hl (k := 2) rfl rfl (by decide) rfl (fun ls hl => ?_)
          refine lv_goto (pc := 48) (tgt := 4) hX hB dX4_agrees_48 (by decide) ?_
          obtain rfl := Option.some.inj hf
          exact ih _ hr _ _ _ ⟨hP, hD, hS, lv_sub hl [2, 1, 0] rfl⟩
        · have hf := zs_in hf hq
          refine lv_aload_n (pc := 23) hX hB dX4_agrees_23 rfl (lv_at hl 0 rfl) ?_
          refine lv_iload_n (pc := 24) hX hB dX4_agrees_24 rfl (lv_at hl 2 rfl) ?_
          refine lv_iconst (pc := 25) (v := 1) hX hB dX4_agrees_25 (by decide) ?_
          refine lv_iadd (pc := 26) hX hB dX4_agrees_26 ?_
          obtain ⟨o3, hc, hf⟩ := zs_bind hf
          refine zs_V (q := (RX4, TX4, 21)) (ci := 4) (q0 := 0) (b := a_T) (pc := 27) (As := [.int (x1.2.1 + (1 : Int32))]) (rest := []) (st1 := [.int o3.1]) (wc := [(a_T, .inr (4, [.ref a_T_st, .long v_T_above, .long v_T_below, .ref a_T_refused, .ref a_T_text, .int v_T_bytes, .int v_T_place, .int v_T_token, .int v_T_value, .int v_T_begins, .ref a_T_row, .int v_T_toldHolders, .ref a_T_points, .ref a_T_used, .ref a_T_ahead, .int v_T_undoMany, .long v_T_drawn, .ref a_T_isKept, .ref a_T_kept, .ref a_T_keptAhead, .ref a_T_keptMany])), (a_T_st, .inl (gI g, 27, .inl v_T_st)), (a_T_points, .inl (gI g, 6, .inl v_T_points)), (a_T_used, .inl (gI g, 4, .inl x1.2.2))]) (wr := []) (w1 := [(a_T, .inr (4, [.ref a_T_st, .long v_T_above, .long v_T_below, .ref a_T_refused, .ref a_T_text, .int v_T_bytes, .int v_T_place, .int v_T_token, .int v_T_value, .int v_T_begins, .ref a_T_row, .int v_T_toldHolders, .ref a_T_points, .ref a_T_used, .ref a_T_ahead, .int v_T_undoMany, .long v_T_drawn, .ref a_T_isKept, .ref a_T_kept, .ref a_T_keptAhead, .ref a_T_keptMany])), (a_T_st, .inl (gI g, 27, .inl v_T_st)), (a_T_points, .inl (gI g, 6, .inl v_T_points)), (a_T_used, .inl (gI g, 4, .inl o3.2))]) (w2 := [(a_T, .inr (4, [.ref a_T_st, .long v_T_above, .long v_T_below, .ref a_T_refused, .ref a_T_text, .int v_T_bytes, .int v_T_place, .int v_T_token, .int v_T_value, .int v_T_begins, .ref a_T_row, .int v_T_toldHolders, .ref a_T_points, .ref a_T_used, .ref a_T_ahead, .int v_T_undoMany, .long v_T_drawn, .ref a_T_isKept, .ref a_T_kept, .ref a_T_keptAhead, .ref a_T_keptMany])), (a_T_st, .inl (gI g, 27, .inl v_T_st)), (a_T_points, .inl (gI g, 6, .inl v_T_points)), (a_T_used, .inl (gI g, 4, .inl o3.2))]) (ov := some (.int o3.1)) lb_X4_valueAt lk_X4_135 hX hB hM hO hT hE hP hD hS hA (c_X4_valueAt l g _ a_T a_T_refused a_T_text a_T_row a_T_ahead a_T_isKept a_T_kept a_T_keptAhead a_T_keptMany a_T_st a_T_points a_T_used v_T_above v_T_below v_T_bytes v_T_place v_T_token v_T_value v_T_begins v_T_toldHolders v_T_undoMany v_T_drawn v_T_st v_T_points x1.2.2 (x1.2.1 + (1 : Int32)) o3 hc) ⟨rfl, rfl⟩ ⟨Nat.le_of_ble_eq_true rfl, Nat.le_of_ble_eq_true rfl⟩ rfl rfl [0, 1, 2, 3] [] [0, 1, 2, 3] rfl rfl rfl rfl (by decide) rfl rfl rfl rfl hl.1 (Nat.le_of_ble_eq_true rfl) ⟨Nat.zero_le _, Nat.zero_le _⟩ rfl dX4_agrees_27 (fun H locs hP hD hS => ?_)
          refine lv_aload_n (pc := 30) hX hB dX4_agrees_30 rfl (lv_at hl 0 rfl) ?_
          refine gf_X4_26 (pc := 31) (v := .ref a_T_points) hX hB hT hO hE hP 0 rfl rfl dX4_agrees_31 ?_
          refine lv_iload_n (pc := 34) hX hB dX4_agrees_34 rfl (lv_at hl 2 rfl) ?_
          obtain ⟨hg, hf⟩ := zs_gd hf
          refine va_iald (pc := 35) hX hB hE.1 hP 2 0 rfl rfl (zs_inb hg) dX4_agrees_35 ?_
          refine lv_icmp_ne (pc := 36) (tgt := 43) hX hB dX4_agrees_36 (by decide) (fun hq => ?_) (fun hq => ?_)
          · have hf := zs_in hf hq
            refine lv_iconst (pc := 43) (v := 0) hX hB dX4_agrees_43 (by decide) ?_
            refine lv_istore_n (pc := 44) (lv' := [(1, .int (0 : Int32)), (0, .ref a_T), (2, .int x1.2.1)]) hX hB dX4_agrees_44 rfl hl (by decide) rfl (fun ls hl => ?_)
            refine lv_iinc (pc := 45) (v := x1.2.1 + (1 : Int32)) (lv' := [(2, .int (x1.2.1 + (1 : Int32))), (1, .int (0 : Int32)), (0, .ref a_T)]) hX hB dX4_agrees_45 hl (k := 2) rfl rfl (by decide) rfl (fun ls hl => ?_)
            refine lv_goto (pc := 48) (tgt := 4) hX hB dX4_agrees_48 (by decide) ?_
            obtain rfl := Option.some.inj hf
            exact ih _ hr _ _ _ ⟨hP, hD, hS, lv_sub hl [2, 1, 0] rfl⟩
          · have hf := zs_ip hf hq
            refine lv_iconst (pc := 39) (v := 1) hX hB dX4_agrees_39 (by decide) ?_
            refine lv_goto (pc := 40) (tgt := 44) hX hB dX4_agrees_40 (by decide) ?_
            refine lv_istore_n (pc := 44) (lv' := [(1, .int (1 : Int32)), (0, .ref a_T), (2, .int x1.2.1)]) hX hB dX4_agrees_44 rfl hl (by decide) rfl (fun ls hl => ?_)
            refine lv_iinc (pc := 45) (v := x1.2.1 + (1 : Int32)) (lv' := [(2, .int (x1.2.1 + (1 : Int32))), (1, .int (1 : Int32)), (0, .ref a_T)]) hX hB dX4_agrees_45 hl (k := 2) rfl rfl (by decide) rfl (fun ls hl => ?_)
            refine lv_goto (pc := 48) (tgt := 4) hX hB dX4_agrees_48 (by decide) ?_
            obtain rfl := Option.some.inj hf
            exact ih _ hr _ _ _ ⟨hP, hD, hS, lv_sub hl [2, 1, 0] rfl⟩

def f_X4_agree (v_T_st : Nat → Int32) (v_T_points : Nat → Int32) (v_T_used : Nat → Int32) : Option (Int32 × (Nat → Int32) × (Nat → Int32)) :=
  (f_X4_takeTold v_T_st v_T_points (0 : Int32)).bind (fun o1 => (f_X4_pointMany o1).bind (fun o2 => gd (inb (1 : Int32) 27) (if (v_T_st (1 : Int32).toNatClampNeg) ≤ o2 then ((f_X4_agrees v_T_st o1 v_T_used).bind (fun o3 => if o3.1 = (0 : Int32) then (some ((0 : Int32), o1, o3.2)) else (some ((1 : Int32), o1, o3.2)))) else (some ((-1 : Int32), o1, v_T_used)))))
set_option maxHeartbeats 4000000 in
set_option maxRecDepth 100000 in
theorem c_X4_agree (l : Launch) (g : GG) (sz : Nat) (a_T a_T_refused a_T_text a_T_row a_T_ahead a_T_isKept a_T_kept a_T_keptAhead a_T_keptMany a_T_st a_T_points a_T_used : Nat) (v_T_above : Int64) (v_T_below : Int64) (v_T_bytes : Int32) (v_T_place : Int32) (v_T_token : Int32) (v_T_value : Int32) (v_T_begins : Int32) (v_T_toldHolders : Int32) (v_T_undoMany : Int32) (v_T_drawn : Int64) (v_T_st : Nat → Int32) (v_T_points : Nat → Int32) (v_T_used : Nat → Int32) (o : Int32 × (Nat → Int32) × (Nat → Int32)) (hf : f_X4_agree v_T_st v_T_points v_T_used = some o) : Met l yX4_agree (Cond.code yX4_agree cX4_agree 1 (some .int) :: TB) { frames := 3, cells := 0, slots := 0, locals := 72 } (Pst g [(a_T, .inr (4, [.ref a_T_st, .long v_T_above, .long v_T_below, .ref a_T_refused, .ref a_T_text, .int v_T_bytes, .int v_T_place, .int v_T_token, .int v_T_value, .int v_T_begins, .ref a_T_row, .int v_T_toldHolders, .ref a_T_points, .ref a_T_used, .ref a_T_ahead, .int v_T_undoMany, .long v_T_drawn, .ref a_T_isKept, .ref a_T_kept, .ref a_T_keptAhead, .ref a_T_keptMany])), (a_T_st, .inl (gI g, 27, .inl v_T_st)), (a_T_points, .inl (gI g, 6, .inl v_T_points)), (a_T_used, .inl (gI g, 4, .inl v_T_used))] [.ref a_T] sz) (Qst g [(a_T, .inr (4, [.ref a_T_st, .long v_T_above, .long v_T_below, .ref a_T_refused, .ref a_T_text, .int v_T_bytes, .int v_T_place, .int v_T_token, .int v_T_value, .int v_T_begins, .ref a_T_row, .int v_T_toldHolders, .ref a_T_points, .ref a_T_used, .ref a_T_ahead, .int v_T_undoMany, .long v_T_drawn, .ref a_T_isKept, .ref a_T_kept, .ref a_T_keptAhead, .ref a_T_keptMany])), (a_T_st, .inl (gI g, 27, .inl v_T_st)), (a_T_points, .inl (gI g, 6, .inl o.2.1)), (a_T_used, .inl (gI g, 4, .inl o.2.2))] (some (.int o.1)) (va_A [(a_T, .inr (4, [.ref a_T_st, .long v_T_above, .long v_T_below, .ref a_T_refused, .ref a_T_text, .int v_T_bytes, .int v_T_place, .int v_T_token, .int v_T_value, .int v_T_begins, .ref a_T_row, .int v_T_toldHolders, .ref a_T_points, .ref a_T_used, .ref a_T_ahead, .int v_T_undoMany, .long v_T_drawn, .ref a_T_isKept, .ref a_T_kept, .ref a_T_keptAhead, .ref a_T_keptMany])), (a_T_st, .inl (gI g, 27, .inl v_T_st)), (a_T_points, .inl (gI g, 6, .inl v_T_points)), (a_T_used, .inl (gI g, 4, .inl v_T_used))] sz)) 0 0 (va_A [(a_T, .inr (4, [.ref a_T_st, .long v_T_above, .long v_T_below, .ref a_T_refused, .ref a_T_text, .int v_T_bytes, .int v_T_place, .int v_T_token, .int v_T_value, .int v_T_begins, .ref a_T_row, .int v_T_toldHolders, .ref a_T_points, .ref a_T_used, .ref a_T_ahead, .int v_T_undoMany, .long v_T_drawn, .ref a_T_isKept, .ref a_T_kept, .ref a_T_keptAhead, .ref a_T_keptMany])), (a_T_st, .inl (gI g, 27, .inl v_T_st)), (a_T_points, .inl (gI g, 6, .inl v_T_points)), (a_T_used, .inl (gI g, 4, .inl v_T_used))] sz) := by
  unfold f_X4_agree at hf
  refine zs_met (own := RX4) (plainFor_of_name (by decide)) rfl (Nat.le_of_ble_eq_true rfl) ?_
  intro p e s m below meth c A ls hX hB hR hM hT hO hK hN hA hE hP hD hS hl
  have hl : lv_has ls 1 [(0, .ref a_T)] := hl
  refine lv_aload_n (pc := 0) hX hB dX4_agree_0 rfl (lv_at hl 0 rfl) ?_
  refine lv_iconst (pc := 1) (v := 0) hX hB dX4_agree_1 (by decide) ?_
  obtain ⟨o1, hc, hf⟩ := zs_bind hf
  refine zs_V (q := (RX4, TX4, 21)) (ci := 4) (q0 := 0) (b := a_T) (pc := 2) (As := [.int (0 : Int32)]) (rest := []) (st1 := []) (wc := [(a_T, .inr (4, [.ref a_T_st, .long v_T_above, .long v_T_below, .ref a_T_refused, .ref a_T_text, .int v_T_bytes, .int v_T_place, .int v_T_token, .int v_T_value, .int v_T_begins, .ref a_T_row, .int v_T_toldHolders, .ref a_T_points, .ref a_T_used, .ref a_T_ahead, .int v_T_undoMany, .long v_T_drawn, .ref a_T_isKept, .ref a_T_kept, .ref a_T_keptAhead, .ref a_T_keptMany])), (a_T_st, .inl (gI g, 27, .inl v_T_st)), (a_T_points, .inl (gI g, 6, .inl v_T_points))]) (wr := [(a_T_used, .inl (gI g, 4, .inl v_T_used))]) (w1 := [(a_T, .inr (4, [.ref a_T_st, .long v_T_above, .long v_T_below, .ref a_T_refused, .ref a_T_text, .int v_T_bytes, .int v_T_place, .int v_T_token, .int v_T_value, .int v_T_begins, .ref a_T_row, .int v_T_toldHolders, .ref a_T_points, .ref a_T_used, .ref a_T_ahead, .int v_T_undoMany, .long v_T_drawn, .ref a_T_isKept, .ref a_T_kept, .ref a_T_keptAhead, .ref a_T_keptMany])), (a_T_st, .inl (gI g, 27, .inl v_T_st)), (a_T_points, .inl (gI g, 6, .inl o1))]) (w2 := [(a_T, .inr (4, [.ref a_T_st, .long v_T_above, .long v_T_below, .ref a_T_refused, .ref a_T_text, .int v_T_bytes, .int v_T_place, .int v_T_token, .int v_T_value, .int v_T_begins, .ref a_T_row, .int v_T_toldHolders, .ref a_T_points, .ref a_T_used, .ref a_T_ahead, .int v_T_undoMany, .long v_T_drawn, .ref a_T_isKept, .ref a_T_kept, .ref a_T_keptAhead, .ref a_T_keptMany])), (a_T_st, .inl (gI g, 27, .inl v_T_st)), (a_T_points, .inl (gI g, 6, .inl o1)), (a_T_used, .inl (gI g, 4, .inl v_T_used))]) (ov := none) lb_X4_takeTold lk_X4_206 hX hB hM hO hT hE hP hD hS hA (c_X4_takeTold l g _ a_T a_T_refused a_T_text a_T_row a_T_used a_T_ahead a_T_isKept a_T_kept a_T_keptAhead a_T_keptMany a_T_st a_T_points v_T_above v_T_below v_T_bytes v_T_place v_T_token v_T_value v_T_begins v_T_toldHolders v_T_undoMany v_T_drawn v_T_st v_T_points (0 : Int32) o1 hc) ⟨rfl, rfl⟩ ⟨Nat.le_of_ble_eq_true rfl, Nat.le_of_ble_eq_true rfl⟩ rfl rfl [0, 1, 2] [3] [1, 2, 3, 0] rfl rfl rfl rfl (by decide) rfl rfl rfl rfl hl.1 (Nat.le_of_ble_eq_true rfl) ⟨Nat.zero_le _, Nat.zero_le _⟩ rfl dX4_agree_2 (fun H locs hP hD hS => ?_)
  refine lv_aload_n (pc := 5) hX hB dX4_agree_5 rfl (lv_at hl 0 rfl) ?_
  obtain ⟨o2, hc, hf⟩ := zs_bind hf
  refine zs_V (q := (RX4, TX4, 21)) (ci := 4) (q0 := 0) (b := a_T) (pc := 6) (As := []) (rest := []) (st1 := [.int o2]) (wc := [(a_T, .inr (4, [.ref a_T_st, .long v_T_above, .long v_T_below, .ref a_T_refused, .ref a_T_text, .int v_T_bytes, .int v_T_place, .int v_T_token, .int v_T_value, .int v_T_begins, .ref a_T_row, .int v_T_toldHolders, .ref a_T_points, .ref a_T_used, .ref a_T_ahead, .int v_T_undoMany, .long v_T_drawn, .ref a_T_isKept, .ref a_T_kept, .ref a_T_keptAhead, .ref a_T_keptMany])), (a_T_points, .inl (gI g, 6, .inl o1))]) (wr := [(a_T_st, .inl (gI g, 27, .inl v_T_st)), (a_T_used, .inl (gI g, 4, .inl v_T_used))]) (w1 := [(a_T, .inr (4, [.ref a_T_st, .long v_T_above, .long v_T_below, .ref a_T_refused, .ref a_T_text, .int v_T_bytes, .int v_T_place, .int v_T_token, .int v_T_value, .int v_T_begins, .ref a_T_row, .int v_T_toldHolders, .ref a_T_points, .ref a_T_used, .ref a_T_ahead, .int v_T_undoMany, .long v_T_drawn, .ref a_T_isKept, .ref a_T_kept, .ref a_T_keptAhead, .ref a_T_keptMany])), (a_T_points, .inl (gI g, 6, .inl o1))]) (w2 := [(a_T, .inr (4, [.ref a_T_st, .long v_T_above, .long v_T_below, .ref a_T_refused, .ref a_T_text, .int v_T_bytes, .int v_T_place, .int v_T_token, .int v_T_value, .int v_T_begins, .ref a_T_row, .int v_T_toldHolders, .ref a_T_points, .ref a_T_used, .ref a_T_ahead, .int v_T_undoMany, .long v_T_drawn, .ref a_T_isKept, .ref a_T_kept, .ref a_T_keptAhead, .ref a_T_keptMany])), (a_T_st, .inl (gI g, 27, .inl v_T_st)), (a_T_points, .inl (gI g, 6, .inl o1)), (a_T_used, .inl (gI g, 4, .inl v_T_used))]) (ov := some (.int o2)) lb_X4_pointMany lk_X4_132 hX hB hM hO hT hE hP hD hS hA (c_X4_pointMany l g _ a_T a_T_st a_T_refused a_T_text a_T_row a_T_used a_T_ahead a_T_isKept a_T_kept a_T_keptAhead a_T_keptMany a_T_points v_T_above v_T_below v_T_bytes v_T_place v_T_token v_T_value v_T_begins v_T_toldHolders v_T_undoMany v_T_drawn o1 o2 hc) ⟨rfl, rfl⟩ ⟨Nat.le_of_ble_eq_true rfl, Nat.le_of_ble_eq_true rfl⟩ rfl rfl [0, 2] [1, 3] [2, 0, 3, 1] rfl rfl rfl rfl (by decide) rfl rfl rfl rfl hl.1 (Nat.le_of_ble_eq_true rfl) ⟨Nat.zero_le _, Nat.zero_le _⟩ rfl dX4_agree_6 (fun H locs hP hD hS => ?_)
  refine lv_aload_n (pc := 9) hX hB dX4_agree_9 rfl (lv_at hl 0 rfl) ?_
  refine gf_X4_7 (pc := 10) (v := .ref a_T_st) hX hB hT hO hE hP 0 rfl rfl dX4_agree_10 ?_
  refine lv_iconst (pc := 13) (v := 1) hX hB dX4_agree_13 (by decide) ?_
  obtain ⟨hg, hf⟩ := zs_gd hf
  refine va_iald (pc := 14) hX hB hE.1 hP 1 0 rfl rfl (zs_inb hg) dX4_agree_14 ?_
  refine lv_icmp_ge (pc := 15) (tgt := 22) hX hB dX4_agree_15 (by decide) (fun hq => ?_) (fun hq => ?_)
  · have hf := zs_ip hf hq
    refine lv_aload_n (pc := 22) hX hB dX4_agree_22 rfl (lv_at hl 0 rfl) ?_
    obtain ⟨o3, hc, hf⟩ := zs_bind hf
    refine zs_V (q := (RX4, TX4, 21)) (ci := 4) (q0 := 0) (b := a_T) (pc := 23) (As := []) (rest := []) (st1 := [.int o3.1]) (wc := [(a_T, .inr (4, [.ref a_T_st, .long v_T_above, .long v_T_below, .ref a_T_refused, .ref a_T_text, .int v_T_bytes, .int v_T_place, .int v_T_token, .int v_T_value, .int v_T_begins, .ref a_T_row, .int v_T_toldHolders, .ref a_T_points, .ref a_T_used, .ref a_T_ahead, .int v_T_undoMany, .long v_T_drawn, .ref a_T_isKept, .ref a_T_kept, .ref a_T_keptAhead, .ref a_T_keptMany])), (a_T_st, .inl (gI g, 27, .inl v_T_st)), (a_T_points, .inl (gI g, 6, .inl o1)), (a_T_used, .inl (gI g, 4, .inl v_T_used))]) (wr := []) (w1 := [(a_T, .inr (4, [.ref a_T_st, .long v_T_above, .long v_T_below, .ref a_T_refused, .ref a_T_text, .int v_T_bytes, .int v_T_place, .int v_T_token, .int v_T_value, .int v_T_begins, .ref a_T_row, .int v_T_toldHolders, .ref a_T_points, .ref a_T_used, .ref a_T_ahead, .int v_T_undoMany, .long v_T_drawn, .ref a_T_isKept, .ref a_T_kept, .ref a_T_keptAhead, .ref a_T_keptMany])), (a_T_st, .inl (gI g, 27, .inl v_T_st)), (a_T_points, .inl (gI g, 6, .inl o1)), (a_T_used, .inl (gI g, 4, .inl o3.2))]) (w2 := [(a_T, .inr (4, [.ref a_T_st, .long v_T_above, .long v_T_below, .ref a_T_refused, .ref a_T_text, .int v_T_bytes, .int v_T_place, .int v_T_token, .int v_T_value, .int v_T_begins, .ref a_T_row, .int v_T_toldHolders, .ref a_T_points, .ref a_T_used, .ref a_T_ahead, .int v_T_undoMany, .long v_T_drawn, .ref a_T_isKept, .ref a_T_kept, .ref a_T_keptAhead, .ref a_T_keptMany])), (a_T_st, .inl (gI g, 27, .inl v_T_st)), (a_T_points, .inl (gI g, 6, .inl o1)), (a_T_used, .inl (gI g, 4, .inl o3.2))]) (ov := some (.int o3.1)) lb_X4_agrees lk_X4_210 hX hB hM hO hT hE hP hD hS hA (c_X4_agrees l g _ a_T a_T_refused a_T_text a_T_row a_T_ahead a_T_isKept a_T_kept a_T_keptAhead a_T_keptMany a_T_st a_T_points a_T_used v_T_above v_T_below v_T_bytes v_T_place v_T_token v_T_value v_T_begins v_T_toldHolders v_T_undoMany v_T_drawn v_T_st o1 v_T_used o3 hc) ⟨rfl, rfl⟩ ⟨Nat.le_of_ble_eq_true rfl, Nat.le_of_ble_eq_true rfl⟩ rfl rfl [0, 1, 2, 3] [] [0, 1, 2, 3] rfl rfl rfl rfl (by decide) rfl rfl rfl rfl hl.1 (Nat.le_of_ble_eq_true rfl) ⟨Nat.zero_le _, Nat.zero_le _⟩ rfl dX4_agree_23 (fun H locs hP hD hS => ?_)
    refine lv_if_eq (pc := 26) (tgt := 33) hX hB dX4_agree_26 (by decide) (fun hq => ?_) (fun hq => ?_)
    · have hf := zs_ip hf hq
      refine lv_iconst (pc := 33) (v := 0) hX hB dX4_agree_33 (by decide) ?_
      obtain rfl := Option.some.inj hf
      exact zs_iret (pc := 34) hX hB hR hK hP hD hS dX4_agree_34
    · have hf := zs_in hf hq
      refine lv_iconst (pc := 29) (v := 1) hX hB dX4_agree_29 (by decide) ?_
      refine lv_goto (pc := 30) (tgt := 34) hX hB dX4_agree_30 (by decide) ?_
      obtain rfl := Option.some.inj hf
      exact zs_iret (pc := 34) hX hB hR hK hP hD hS dX4_agree_34
  · have hf := zs_in hf hq
    refine lv_iconst (pc := 18) (v := -1) hX hB dX4_agree_18 (by decide) ?_
    refine lv_goto (pc := 19) (tgt := 34) hX hB dX4_agree_19 (by decide) ?_
    obtain rfl := Option.some.inj hf
    exact zs_iret (pc := 34) hX hB hR hK hP hD hS dX4_agree_34

def b_X4_anew_2 (x1 : Int32 × (Nat → Int32)) : Option ((Int32 × (Nat → Int32)) ⊕ ((Nat → Int32))) :=
  if (27 : Int32) ≤ x1.1 then (some (Sum.inr x1.2)) else ((if (21 : Int32) ≤ x1.1 then (some (-1 : Int32)) else (some (0 : Int32))).bind (fun y3 => gd (inb x1.1 27) (some (Sum.inl (x1.1 + (1 : Int32), upd x1.2 x1.1.toNatClampNeg y3)))))
def f_X4_anew (v_T_undoMany : Int32) (v_T_st : Nat → Int32) (p1 : Int32) (p2 : Int32) : Option (Int32 × (Nat → Int32)) :=
  (lp (b_X4_anew_2) 200 ((0 : Int32), v_T_st)).bind (fun y2 => gd (inb (0 : Int32) 27) (gd (inb (1 : Int32) 27) (some ((0 : Int32), upd (upd y2 (0 : Int32).toNatClampNeg p1) (1 : Int32).toNatClampNeg p2))))
set_option maxHeartbeats 4000000 in
set_option maxRecDepth 100000 in
theorem c_X4_anew (l : Launch) (g : GG) (sz : Nat) (a_T a_T_refused a_T_text a_T_row a_T_points a_T_used a_T_ahead a_T_isKept a_T_kept a_T_keptAhead a_T_keptMany a_T_st : Nat) (v_T_above : Int64) (v_T_below : Int64) (v_T_bytes : Int32) (v_T_place : Int32) (v_T_token : Int32) (v_T_value : Int32) (v_T_begins : Int32) (v_T_toldHolders : Int32) (v_T_undoMany : Int32) (v_T_drawn : Int64) (v_T_st : Nat → Int32) (p1 : Int32) (p2 : Int32) (o : Int32 × (Nat → Int32)) (hf : f_X4_anew v_T_undoMany v_T_st p1 p2 = some o) : Met l yX4_anew (Cond.code yX4_anew cX4_anew 4 none :: TB) { frames := 0, cells := 0, slots := 0, locals := 0 } (Pst g [(a_T, .inr (4, [.ref a_T_st, .long v_T_above, .long v_T_below, .ref a_T_refused, .ref a_T_text, .int v_T_bytes, .int v_T_place, .int v_T_token, .int v_T_value, .int v_T_begins, .ref a_T_row, .int v_T_toldHolders, .ref a_T_points, .ref a_T_used, .ref a_T_ahead, .int v_T_undoMany, .long v_T_drawn, .ref a_T_isKept, .ref a_T_kept, .ref a_T_keptAhead, .ref a_T_keptMany])), (a_T_st, .inl (gI g, 27, .inl v_T_st))] [.ref a_T, .int p1, .int p2] sz) (Qst g [(a_T, .inr (4, [.ref a_T_st, .long v_T_above, .long v_T_below, .ref a_T_refused, .ref a_T_text, .int v_T_bytes, .int v_T_place, .int v_T_token, .int v_T_value, .int v_T_begins, .ref a_T_row, .int v_T_toldHolders, .ref a_T_points, .ref a_T_used, .ref a_T_ahead, .int o.1, .long v_T_drawn, .ref a_T_isKept, .ref a_T_kept, .ref a_T_keptAhead, .ref a_T_keptMany])), (a_T_st, .inl (gI g, 27, .inl o.2))] (none) (va_A [(a_T, .inr (4, [.ref a_T_st, .long v_T_above, .long v_T_below, .ref a_T_refused, .ref a_T_text, .int v_T_bytes, .int v_T_place, .int v_T_token, .int v_T_value, .int v_T_begins, .ref a_T_row, .int v_T_toldHolders, .ref a_T_points, .ref a_T_used, .ref a_T_ahead, .int v_T_undoMany, .long v_T_drawn, .ref a_T_isKept, .ref a_T_kept, .ref a_T_keptAhead, .ref a_T_keptMany])), (a_T_st, .inl (gI g, 27, .inl v_T_st))] sz)) 0 0 (va_A [(a_T, .inr (4, [.ref a_T_st, .long v_T_above, .long v_T_below, .ref a_T_refused, .ref a_T_text, .int v_T_bytes, .int v_T_place, .int v_T_token, .int v_T_value, .int v_T_begins, .ref a_T_row, .int v_T_toldHolders, .ref a_T_points, .ref a_T_used, .ref a_T_ahead, .int v_T_undoMany, .long v_T_drawn, .ref a_T_isKept, .ref a_T_kept, .ref a_T_keptAhead, .ref a_T_keptMany])), (a_T_st, .inl (gI g, 27, .inl v_T_st))] sz) := by
  unfold f_X4_anew at hf
  refine zs_met (own := RX4) (plainFor_of_name (by decide)) rfl (Nat.le_of_ble_eq_true rfl) ?_
  intro p e s m below meth c A ls hX hB hR hM hT hO hK hN hA hE hP hD hS hl
  have hl : lv_has ls 4 [(0, .ref a_T), (1, .int p1), (2, .int p2)] := hl
  refine lv_iconst (pc := 0) (v := 0) hX hB dX4_anew_0 (by decide) ?_
  refine lv_istore_n (pc := 1) (lv' := [(3, .int (0 : Int32)), (0, .ref a_T), (1, .int p1), (2, .int p2)]) hX hB dX4_anew_1 rfl hl (by decide) rfl (fun ls hl => ?_)
  obtain ⟨y2, hj, hf⟩ := zs_bind hf
  refine zs_then (α := Unit) (fun _ H locs ls => CC g A s.heap 4 [(a_T, .inr (4, [.ref a_T_st, .long v_T_above, .long v_T_below, .ref a_T_refused, .ref a_T_text, .int v_T_bytes, .int v_T_place, .int v_T_token, .int v_T_value, .int v_T_begins, .ref a_T_row, .int v_T_toldHolders, .ref a_T_points, .ref a_T_used, .ref a_T_ahead, .int v_T_undoMany, .long v_T_drawn, .ref a_T_isKept, .ref a_T_kept, .ref a_T_keptAhead, .ref a_T_keptMany])), (a_T_st, .inl (gI g, 27, .inl y2))] [(0, .ref a_T), (1, .int p1), (2, .int p2)] H locs ls) (fun _ ls => F0 m 31 ls []) (fun _ H locs ls hC => ?_) (fun X => ?_)
  · obtain ⟨hP, hD, hS, hl⟩ := hC
    refine lv_aload_n (pc := 31) hX hB dX4_anew_31 rfl (lv_at hl 0 rfl) ?_
    refine gf_X4_7 (pc := 32) (v := .ref a_T_st) hX hB hT hO hE hP 0 rfl rfl dX4_anew_32 ?_
    refine lv_iconst (pc := 35) (v := 0) hX hB dX4_anew_35 (by decide) ?_
    refine lv_iload_n (pc := 36) hX hB dX4_anew_36 rfl (lv_at hl 1 rfl) ?_
    obtain ⟨hg, hf⟩ := zs_gd hf
    refine zs_iast (pc := 37) (w2 := [(a_T, .inr (4, [.ref a_T_st, .long v_T_above, .long v_T_below, .ref a_T_refused, .ref a_T_text, .int v_T_bytes, .int v_T_place, .int v_T_token, .int v_T_value, .int v_T_begins, .ref a_T_row, .int v_T_toldHolders, .ref a_T_points, .ref a_T_used, .ref a_T_ahead, .int v_T_undoMany, .long v_T_drawn, .ref a_T_isKept, .ref a_T_kept, .ref a_T_keptAhead, .ref a_T_keptMany])), (a_T_st, .inl (gI g, 27, .inl (upd y2 (0 : Int32).toNatClampNeg p1)))]) hX hB hE hP hD hS 1 rfl (zs_inb hg) rfl dX4_anew_37 (fun H locs hP hD hS => ?_)
    refine lv_aload_n (pc := 38) hX hB dX4_anew_38 rfl (lv_at hl 0 rfl) ?_
    refine gf_X4_7 (pc := 39) (v := .ref a_T_st) hX hB hT hO hE hP 0 rfl rfl dX4_anew_39 ?_
    refine lv_iconst (pc := 42) (v := 1) hX hB dX4_anew_42 (by decide) ?_
    refine lv_iload_n (pc := 43) hX hB dX4_anew_43 rfl (lv_at hl 2 rfl) ?_
    obtain ⟨hg, hf⟩ := zs_gd hf
    refine zs_iast (pc := 44) (w2 := [(a_T, .inr (4, [.ref a_T_st, .long v_T_above, .long v_T_below, .ref a_T_refused, .ref a_T_text, .int v_T_bytes, .int v_T_place, .int v_T_token, .int v_T_value, .int v_T_begins, .ref a_T_row, .int v_T_toldHolders, .ref a_T_points, .ref a_T_used, .ref a_T_ahead, .int v_T_undoMany, .long v_T_drawn, .ref a_T_isKept, .ref a_T_kept, .ref a_T_keptAhead, .ref a_T_keptMany])), (a_T_st, .inl (gI g, 27, .inl (upd (upd y2 (0 : Int32).toNatClampNeg p1) (1 : Int32).toNatClampNeg p2)))]) hX hB hE hP hD hS 1 rfl (zs_inb hg) rfl dX4_anew_44 (fun H locs hP hD hS => ?_)
    refine lv_aload_n (pc := 45) hX hB dX4_anew_45 rfl (lv_at hl 0 rfl) ?_
    refine lv_iconst (pc := 46) (v := 0) hX hB dX4_anew_46 (by decide) ?_
    refine pf_X4_56 (pc := 47) (x := (0 : Int32)) (w2 := [(a_T, .inr (4, [.ref a_T_st, .long v_T_above, .long v_T_below, .ref a_T_refused, .ref a_T_text, .int v_T_bytes, .int v_T_place, .int v_T_token, .int v_T_value, .int v_T_begins, .ref a_T_row, .int v_T_toldHolders, .ref a_T_points, .ref a_T_used, .ref a_T_ahead, .int (0 : Int32), .long v_T_drawn, .ref a_T_isKept, .ref a_T_kept, .ref a_T_keptAhead, .ref a_T_keptMany])), (a_T_st, .inl (gI g, 27, .inl (upd (upd y2 (0 : Int32).toNatClampNeg p1) (1 : Int32).toNatClampNeg p2)))]) hX hB hT hO hE hP hD hS 0 rfl (Nat.le_of_ble_eq_true rfl) rfl dX4_anew_47 (fun H locs hP hD hS => ?_)
    obtain rfl := Option.some.inj hf
    exact zs_vret (pc := 50) hX hB hR hK hP hD hS dX4_anew_50
  · refine zs_loop (fun x1 H locs ls => CC g A s.heap 4 [(a_T, .inr (4, [.ref a_T_st, .long v_T_above, .long v_T_below, .ref a_T_refused, .ref a_T_text, .int v_T_bytes, .int v_T_place, .int v_T_token, .int v_T_value, .int v_T_begins, .ref a_T_row, .int v_T_toldHolders, .ref a_T_points, .ref a_T_used, .ref a_T_ahead, .int v_T_undoMany, .long v_T_drawn, .ref a_T_isKept, .ref a_T_kept, .ref a_T_keptAhead, .ref a_T_keptMany])), (a_T_st, .inl (gI g, 27, .inl x1.2))] [(0, .ref a_T), (1, .int p1), (2, .int p2), (3, .int x1.1)] H locs ls) hj (fun n x1 q hf hr ih H locs ls hC => ?_) ⟨hP, hD, hS, lv_sub hl [1, 2, 3, 0] rfl⟩
    obtain ⟨hP, hD, hS, hl⟩ := hC
    unfold b_X4_anew_2 at hf
    refine lv_iload_n (pc := 2) hX hB dX4_anew_2 rfl (lv_at hl 3 rfl) ?_
    refine lv_bipush (pc := 3) (v := 27) hX hB dX4_anew_3 (by decide) ?_
    refine lv_icmp_ge (pc := 5) (tgt := 31) hX hB dX4_anew_5 (by decide) (fun hq => ?_) (fun hq => ?_)
    · have hf := zs_ip hf hq
      obtain rfl := Option.some.inj hf
      obtain rfl := hr
      exact X () _ _ _ ⟨hP, hD, hS, lv_sub hl [0, 1, 2] rfl⟩
    · have hf := zs_in hf hq
      refine lv_aload_n (pc := 8) hX hB dX4_anew_8 rfl (lv_at hl 0 rfl) ?_
      refine gf_X4_7 (pc := 9) (v := .ref a_T_st) hX hB hT hO hE hP 0 rfl rfl dX4_anew_9 ?_
      refine lv_iload_n (pc := 12) hX hB dX4_anew_12 rfl (lv_at hl 3 rfl) ?_
      refine lv_iload_n (pc := 13) hX hB dX4_anew_13 rfl (lv_at hl 3 rfl) ?_
      refine lv_bipush (pc := 14) (v := 21) hX hB dX4_anew_14 (by decide) ?_
      obtain ⟨y3, hj, hf⟩ := zs_bind hf
      refine zs_then (α := Unit) (fun _ H locs ls => CC g A s.heap 4 [(a_T, .inr (4, [.ref a_T_st, .long v_T_above, .long v_T_below, .ref a_T_refused, .ref a_T_text, .int v_T_bytes, .int v_T_place, .int v_T_token, .int v_T_value, .int v_T_begins, .ref a_T_row, .int v_T_toldHolders, .ref a_T_points, .ref a_T_used, .ref a_T_ahead, .int v_T_undoMany, .long v_T_drawn, .ref a_T_isKept, .ref a_T_kept, .ref a_T_keptAhead, .ref a_T_keptMany])), (a_T_st, .inl (gI g, 27, .inl x1.2))] [(0, .ref a_T), (1, .int p1), (2, .int p2), (3, .int x1.1)] H locs ls) (fun _ ls => F0 m 24 ls [.int y3, .int x1.1, .ref a_T_st]) (fun _ H locs ls hC => ?_) (fun X => ?_)
      · obtain ⟨hP, hD, hS, hl⟩ := hC
        obtain ⟨hg, hf⟩ := zs_gd hf
        refine zs_iast (pc := 24) (w2 := [(a_T, .inr (4, [.ref a_T_st, .long v_T_above, .long v_T_below, .ref a_T_refused, .ref a_T_text, .int v_T_bytes, .int v_T_place, .int v_T_token, .int v_T_value, .int v_T_begins, .ref a_T_row, .int v_T_toldHolders, .ref a_T_points, .ref a_T_used, .ref a_T_ahead, .int v_T_undoMany, .long v_T_drawn, .ref a_T_isKept, .ref a_T_kept, .ref a_T_keptAhead, .ref a_T_keptMany])), (a_T_st, .inl (gI g, 27, .inl (upd x1.2 x1.1.toNatClampNeg y3)))]) hX hB hE hP hD hS 1 rfl (zs_inb hg) rfl dX4_anew_24 (fun H locs hP hD hS => ?_)
        refine lv_iinc (pc := 25) (v := x1.1 + (1 : Int32)) (lv' := [(3, .int (x1.1 + (1 : Int32))), (0, .ref a_T), (1, .int p1), (2, .int p2)]) hX hB dX4_anew_25 hl (k := 3) rfl rfl (by decide) rfl (fun ls hl => ?_)
        refine lv_goto (pc := 28) (tgt := 2) hX hB dX4_anew_28 (by decide) ?_
        obtain rfl := Option.some.inj hf
        exact ih _ hr _ _ _ ⟨hP, hD, hS, lv_sub hl [1, 2, 3, 0] rfl⟩
      · have hf := hj
        refine lv_icmp_ge (pc := 16) (tgt := 23) hX hB dX4_anew_16 (by decide) (fun hq => ?_) (fun hq => ?_)
        · have hf := zs_ip hf hq
          refine lv_iconst (pc := 23) (v := -1) hX hB dX4_anew_23 (by decide) ?_
          obtain rfl := Option.some.inj hf
          exact X () _ _ _ ⟨hP, hD, hS, lv_sub hl [0, 1, 2, 3] rfl⟩
        · have hf := zs_in hf hq
          refine lv_iconst (pc := 19) (v := 0) hX hB dX4_anew_19 (by decide) ?_
          refine lv_goto (pc := 20) (tgt := 24) hX hB dX4_anew_20 (by decide) ?_
          obtain rfl := Option.some.inj hf
          exact X () _ _ _ ⟨hP, hD, hS, lv_sub hl [0, 1, 2, 3] rfl⟩

def f_X4_in (p1 : Int64) (p2 : Int64) (p3 : Int64) : Option (Int32) :=
  if (lg_cmp p1 p2) < (0 : Int32) then (some (0 : Int32)) else (if (0 : Int32) < (lg_cmp p1 p3) then (some (0 : Int32)) else (some (1 : Int32)))
set_option maxHeartbeats 4000000 in
set_option maxRecDepth 100000 in
theorem c_X4_in (l : Launch) (g : GG) (sz : Nat) (p1 : Int64) (p2 : Int64) (p3 : Int64) (o : Int32) (hf : f_X4_in p1 p2 p3 = some o) : Met l yX4_in (Cond.code yX4_in cX4_in 6 (some .boolean) :: TB) { frames := 0, cells := 0, slots := 0, locals := 0 } (Pst g [] [.long p1, .long p2, .long p3] sz) (Qst g [] (some (.int o)) (va_A [] sz)) 0 0 (va_A [] sz) := by
  unfold f_X4_in at hf
  refine zs_met (own := RX4) (plainFor_of_name (by decide)) rfl (Nat.le_of_ble_eq_true rfl) ?_
  intro p e s m below meth c A ls hX hB hR hM hT hO hK hN hA hE hP hD hS hl
  have hl : lv_has ls 6 [(0, .long p1), (2, .long p2), (4, .long p3)] := hl
  refine lv_lload_n (pc := 0) hX hB dX4_in_0 rfl (lv_at hl 0 rfl) ?_
  refine lv_lload_n (pc := 1) hX hB dX4_in_1 rfl (lv_at hl 1 rfl) ?_
  refine W.lcmp (pc := 2) hX hB dX4_in_2 ?_
  refine lv_if_lt (pc := 3) (tgt := 17) hX hB dX4_in_3 (by decide) (fun hq => ?_) (fun hq => ?_)
  · have hf := zs_ip hf hq
    refine lv_iconst (pc := 17) (v := 0) hX hB dX4_in_17 (by decide) ?_
    obtain rfl := Option.some.inj hf
    exact zs_zret (v := (0 : Int32)) (pc := 18) hX hB hR hK rfl hP hD hS dX4_in_18
  · have hf := zs_in hf hq
    refine lv_lload_n (pc := 6) hX hB dX4_in_6 rfl (lv_at hl 0 rfl) ?_
    refine lv_lload (pc := 7) hX hB dX4_in_7 (lv_at hl 2 rfl) ?_
    refine W.lcmp (pc := 9) hX hB dX4_in_9 ?_
    refine lv_if_gt (pc := 10) (tgt := 17) hX hB dX4_in_10 (by decide) (fun hq => ?_) (fun hq => ?_)
    · have hf := zs_ip hf hq
      refine lv_iconst (pc := 17) (v := 0) hX hB dX4_in_17 (by decide) ?_
      obtain rfl := Option.some.inj hf
      exact zs_zret (v := (0 : Int32)) (pc := 18) hX hB hR hK rfl hP hD hS dX4_in_18
    · have hf := zs_in hf hq
      refine lv_iconst (pc := 13) (v := 1) hX hB dX4_in_13 (by decide) ?_
      refine lv_goto (pc := 14) (tgt := 18) hX hB dX4_in_14 (by decide) ?_
      obtain rfl := Option.some.inj hf
      exact zs_zret (v := (1 : Int32)) (pc := 18) hX hB hR hK rfl hP hD hS dX4_in_18

def f_X4_areHolders (v_T_st : Nat → Int32) (p1 : Int32) : Option (Int32) :=
  gd (inb (8 : Int32) 27) ((f_X4_in p1.toInt64 (0 : Int64) (((jshl (1 : Int32) (v_T_st (8 : Int32).toNatClampNeg)) - (1 : Int32)).toInt64)).bind (fun o1 => gd (bz o1) (some o1)))
set_option maxHeartbeats 4000000 in
set_option maxRecDepth 100000 in
theorem c_X4_areHolders (l : Launch) (g : GG) (sz : Nat) (a_T a_T_refused a_T_text a_T_row a_T_points a_T_used a_T_ahead a_T_isKept a_T_kept a_T_keptAhead a_T_keptMany a_T_st : Nat) (v_T_above : Int64) (v_T_below : Int64) (v_T_bytes : Int32) (v_T_place : Int32) (v_T_token : Int32) (v_T_value : Int32) (v_T_begins : Int32) (v_T_toldHolders : Int32) (v_T_undoMany : Int32) (v_T_drawn : Int64) (v_T_st : Nat → Int32) (p1 : Int32) (o : Int32) (hf : f_X4_areHolders v_T_st p1 = some o) : Met l yX4_areHolders (Cond.code yX4_areHolders cX4_areHolders 2 (some .boolean) :: TB) { frames := 1, cells := 0, slots := 0, locals := 25 } (Pst g [(a_T, .inr (4, [.ref a_T_st, .long v_T_above, .long v_T_below, .ref a_T_refused, .ref a_T_text, .int v_T_bytes, .int v_T_place, .int v_T_token, .int v_T_value, .int v_T_begins, .ref a_T_row, .int v_T_toldHolders, .ref a_T_points, .ref a_T_used, .ref a_T_ahead, .int v_T_undoMany, .long v_T_drawn, .ref a_T_isKept, .ref a_T_kept, .ref a_T_keptAhead, .ref a_T_keptMany])), (a_T_st, .inl (gI g, 27, .inl v_T_st))] [.ref a_T, .int p1] sz) (Qst g [(a_T, .inr (4, [.ref a_T_st, .long v_T_above, .long v_T_below, .ref a_T_refused, .ref a_T_text, .int v_T_bytes, .int v_T_place, .int v_T_token, .int v_T_value, .int v_T_begins, .ref a_T_row, .int v_T_toldHolders, .ref a_T_points, .ref a_T_used, .ref a_T_ahead, .int v_T_undoMany, .long v_T_drawn, .ref a_T_isKept, .ref a_T_kept, .ref a_T_keptAhead, .ref a_T_keptMany])), (a_T_st, .inl (gI g, 27, .inl v_T_st))] (some (.int o)) (va_A [(a_T, .inr (4, [.ref a_T_st, .long v_T_above, .long v_T_below, .ref a_T_refused, .ref a_T_text, .int v_T_bytes, .int v_T_place, .int v_T_token, .int v_T_value, .int v_T_begins, .ref a_T_row, .int v_T_toldHolders, .ref a_T_points, .ref a_T_used, .ref a_T_ahead, .int v_T_undoMany, .long v_T_drawn, .ref a_T_isKept, .ref a_T_kept, .ref a_T_keptAhead, .ref a_T_keptMany])), (a_T_st, .inl (gI g, 27, .inl v_T_st))] sz)) 0 0 (va_A [(a_T, .inr (4, [.ref a_T_st, .long v_T_above, .long v_T_below, .ref a_T_refused, .ref a_T_text, .int v_T_bytes, .int v_T_place, .int v_T_token, .int v_T_value, .int v_T_begins, .ref a_T_row, .int v_T_toldHolders, .ref a_T_points, .ref a_T_used, .ref a_T_ahead, .int v_T_undoMany, .long v_T_drawn, .ref a_T_isKept, .ref a_T_kept, .ref a_T_keptAhead, .ref a_T_keptMany])), (a_T_st, .inl (gI g, 27, .inl v_T_st))] sz) := by
  unfold f_X4_areHolders at hf
  refine zs_met (own := RX4) (plainFor_of_name (by decide)) rfl (Nat.le_of_ble_eq_true rfl) ?_
  intro p e s m below meth c A ls hX hB hR hM hT hO hK hN hA hE hP hD hS hl
  have hl : lv_has ls 2 [(0, .ref a_T), (1, .int p1)] := hl
  refine lv_iload_n (pc := 0) hX hB dX4_areHolders_0 rfl (lv_at hl 1 rfl) ?_
  refine lv_i2l (pc := 1) (v := p1.toInt64) hX hB dX4_areHolders_1 rfl ?_
  refine lv_lconst (pc := 2) (v := 0) hX hB dX4_areHolders_2 (by decide) ?_
  refine lv_iconst (pc := 3) (v := 1) hX hB dX4_areHolders_3 (by decide) ?_
  refine lv_aload_n (pc := 4) hX hB dX4_areHolders_4 rfl (lv_at hl 0 rfl) ?_
  refine gf_X4_7 (pc := 5) (v := .ref a_T_st) hX hB hT hO hE hP 0 rfl rfl dX4_areHolders_5 ?_
  refine lv_bipush (pc := 8) (v := 8) hX hB dX4_areHolders_8 (by decide) ?_
  obtain ⟨hg, hf⟩ := zs_gd hf
  refine va_iald (pc := 10) hX hB hE.1 hP 1 0 rfl rfl (zs_inb hg) dX4_areHolders_10 ?_
  refine zs_ishl (pc := 11) hX hB dX4_areHolders_11 ?_
  refine lv_iconst (pc := 12) (v := 1) hX hB dX4_areHolders_12 (by decide) ?_
  refine lv_isub (pc := 13) hX hB dX4_areHolders_13 ?_
  refine lv_i2l (pc := 14) (v := ((jshl (1 : Int32) (v_T_st (8 : Int32).toNatClampNeg)) - (1 : Int32)).toInt64) hX hB dX4_areHolders_14 rfl ?_
  obtain ⟨o1, hc, hf⟩ := zs_bind hf
  refine zs_S (pc := 15) (As := [.long p1.toInt64, .long (0 : Int64), .long (((jshl (1 : Int32) (v_T_st (8 : Int32).toNatClampNeg)) - (1 : Int32)).toInt64)]) (rest := []) (st1 := [.int o1]) (wc := []) (wr := [(a_T, .inr (4, [.ref a_T_st, .long v_T_above, .long v_T_below, .ref a_T_refused, .ref a_T_text, .int v_T_bytes, .int v_T_place, .int v_T_token, .int v_T_value, .int v_T_begins, .ref a_T_row, .int v_T_toldHolders, .ref a_T_points, .ref a_T_used, .ref a_T_ahead, .int v_T_undoMany, .long v_T_drawn, .ref a_T_isKept, .ref a_T_kept, .ref a_T_keptAhead, .ref a_T_keptMany])), (a_T_st, .inl (gI g, 27, .inl v_T_st))]) (w1 := []) (w2 := [(a_T, .inr (4, [.ref a_T_st, .long v_T_above, .long v_T_below, .ref a_T_refused, .ref a_T_text, .int v_T_bytes, .int v_T_place, .int v_T_token, .int v_T_value, .int v_T_begins, .ref a_T_row, .int v_T_toldHolders, .ref a_T_points, .ref a_T_used, .ref a_T_ahead, .int v_T_undoMany, .long v_T_drawn, .ref a_T_isKept, .ref a_T_kept, .ref a_T_keptAhead, .ref a_T_keptMany])), (a_T_st, .inl (gI g, 27, .inl v_T_st))]) (ov := some (.int o1)) lb_X4_in lk_X4_52 hX hB hM hO hT hE hP hD hS hA (c_X4_in l g _ p1.toInt64 (0 : Int64) (((jshl (1 : Int32) (v_T_st (8 : Int32).toNatClampNeg)) - (1 : Int32)).toInt64) o1 hc) ⟨rfl, rfl⟩ ⟨Nat.le_of_ble_eq_true rfl, Nat.le_of_ble_eq_true rfl⟩ [] [0, 1] [0, 1] rfl rfl rfl rfl (by decide) rfl rfl rfl rfl hl.1 (Nat.le_of_ble_eq_true rfl) ⟨Nat.zero_le _, Nat.zero_le _⟩ rfl dX4_areHolders_15 (fun H locs hP hD hS => ?_)
  obtain ⟨hg, hf⟩ := zs_gd hf
  obtain rfl := Option.some.inj hf
  exact zs_zret (v := o1) (pc := 18) hX hB hR hK (zs_bz hg).1 hP hD hS dX4_areHolders_18

def f_X4_everybody (v_T_st : Nat → Int32) : Option (Int32) :=
  gd (inb (8 : Int32) 27) (some ((jshl (1 : Int32) (v_T_st (8 : Int32).toNatClampNeg)) - (1 : Int32)))
set_option maxHeartbeats 4000000 in
set_option maxRecDepth 100000 in
theorem c_X4_everybody (l : Launch) (g : GG) (sz : Nat) (a_T a_T_refused a_T_text a_T_row a_T_points a_T_used a_T_ahead a_T_isKept a_T_kept a_T_keptAhead a_T_keptMany a_T_st : Nat) (v_T_above : Int64) (v_T_below : Int64) (v_T_bytes : Int32) (v_T_place : Int32) (v_T_token : Int32) (v_T_value : Int32) (v_T_begins : Int32) (v_T_toldHolders : Int32) (v_T_undoMany : Int32) (v_T_drawn : Int64) (v_T_st : Nat → Int32) (o : Int32) (hf : f_X4_everybody v_T_st = some o) : Met l yX4_everybody (Cond.code yX4_everybody cX4_everybody 1 (some .int) :: TB) { frames := 0, cells := 0, slots := 0, locals := 0 } (Pst g [(a_T, .inr (4, [.ref a_T_st, .long v_T_above, .long v_T_below, .ref a_T_refused, .ref a_T_text, .int v_T_bytes, .int v_T_place, .int v_T_token, .int v_T_value, .int v_T_begins, .ref a_T_row, .int v_T_toldHolders, .ref a_T_points, .ref a_T_used, .ref a_T_ahead, .int v_T_undoMany, .long v_T_drawn, .ref a_T_isKept, .ref a_T_kept, .ref a_T_keptAhead, .ref a_T_keptMany])), (a_T_st, .inl (gI g, 27, .inl v_T_st))] [.ref a_T] sz) (Qst g [(a_T, .inr (4, [.ref a_T_st, .long v_T_above, .long v_T_below, .ref a_T_refused, .ref a_T_text, .int v_T_bytes, .int v_T_place, .int v_T_token, .int v_T_value, .int v_T_begins, .ref a_T_row, .int v_T_toldHolders, .ref a_T_points, .ref a_T_used, .ref a_T_ahead, .int v_T_undoMany, .long v_T_drawn, .ref a_T_isKept, .ref a_T_kept, .ref a_T_keptAhead, .ref a_T_keptMany])), (a_T_st, .inl (gI g, 27, .inl v_T_st))] (some (.int o)) (va_A [(a_T, .inr (4, [.ref a_T_st, .long v_T_above, .long v_T_below, .ref a_T_refused, .ref a_T_text, .int v_T_bytes, .int v_T_place, .int v_T_token, .int v_T_value, .int v_T_begins, .ref a_T_row, .int v_T_toldHolders, .ref a_T_points, .ref a_T_used, .ref a_T_ahead, .int v_T_undoMany, .long v_T_drawn, .ref a_T_isKept, .ref a_T_kept, .ref a_T_keptAhead, .ref a_T_keptMany])), (a_T_st, .inl (gI g, 27, .inl v_T_st))] sz)) 0 0 (va_A [(a_T, .inr (4, [.ref a_T_st, .long v_T_above, .long v_T_below, .ref a_T_refused, .ref a_T_text, .int v_T_bytes, .int v_T_place, .int v_T_token, .int v_T_value, .int v_T_begins, .ref a_T_row, .int v_T_toldHolders, .ref a_T_points, .ref a_T_used, .ref a_T_ahead, .int v_T_undoMany, .long v_T_drawn, .ref a_T_isKept, .ref a_T_kept, .ref a_T_keptAhead, .ref a_T_keptMany])), (a_T_st, .inl (gI g, 27, .inl v_T_st))] sz) := by
  unfold f_X4_everybody at hf
  refine zs_met (own := RX4) (plainFor_of_name (by decide)) rfl (Nat.le_of_ble_eq_true rfl) ?_
  intro p e s m below meth c A ls hX hB hR hM hT hO hK hN hA hE hP hD hS hl
  have hl : lv_has ls 1 [(0, .ref a_T)] := hl
  refine lv_iconst (pc := 0) (v := 1) hX hB dX4_everybody_0 (by decide) ?_
  refine lv_aload_n (pc := 1) hX hB dX4_everybody_1 rfl (lv_at hl 0 rfl) ?_
  refine gf_X4_7 (pc := 2) (v := .ref a_T_st) hX hB hT hO hE hP 0 rfl rfl dX4_everybody_2 ?_
  refine lv_bipush (pc := 5) (v := 8) hX hB dX4_everybody_5 (by decide) ?_
  obtain ⟨hg, hf⟩ := zs_gd hf
  refine va_iald (pc := 7) hX hB hE.1 hP 1 0 rfl rfl (zs_inb hg) dX4_everybody_7 ?_
  refine zs_ishl (pc := 8) hX hB dX4_everybody_8 ?_
  refine lv_iconst (pc := 9) (v := 1) hX hB dX4_everybody_9 (by decide) ?_
  refine lv_isub (pc := 10) hX hB dX4_everybody_10 ?_
  obtain rfl := Option.some.inj hf
  exact zs_iret (pc := 11) hX hB hR hK hP hD hS dX4_everybody_11

def b_X4_ones_4 (x1 : Int32 × Int32) : Option ((Int32 × Int32) ⊕ (Int32)) :=
  if x1.2 = (0 : Int32) then (some (Sum.inr x1.1)) else (some (Sum.inl (x1.1 + (1 : Int32), x1.2 &&& (x1.2 - (1 : Int32)))))
def f_X4_ones (p1 : Int32) : Option (Int32) :=
  (lp (b_X4_ones_4) 200 ((0 : Int32), p1)).bind (fun y2 => some y2)
set_option maxHeartbeats 4000000 in
set_option maxRecDepth 100000 in
theorem c_X4_ones (l : Launch) (g : GG) (sz : Nat) (p1 : Int32) (o : Int32) (hf : f_X4_ones p1 = some o) : Met l yX4_ones (Cond.code yX4_ones cX4_ones 3 (some .int) :: TB) { frames := 0, cells := 0, slots := 0, locals := 0 } (Pst g [] [.int p1] sz) (Qst g [] (some (.int o)) (va_A [] sz)) 0 0 (va_A [] sz) := by
  unfold f_X4_ones at hf
  refine zs_met (own := RX4) (plainFor_of_name (by decide)) rfl (Nat.le_of_ble_eq_true rfl) ?_
  intro p e s m below meth c A ls hX hB hR hM hT hO hK hN hA hE hP hD hS hl
  have hl : lv_has ls 3 [(0, .int p1)] := hl
  refine lv_iconst (pc := 0) (v := 0) hX hB dX4_ones_0 (by decide) ?_
  refine lv_istore_n (pc := 1) (lv' := [(1, .int (0 : Int32)), (0, .int p1)]) hX hB dX4_ones_1 rfl hl (by decide) rfl (fun ls hl => ?_)
  refine lv_iload_n (pc := 2) hX hB dX4_ones_2 rfl (lv_at hl 1 rfl) ?_
  refine lv_istore_n (pc := 3) (lv' := [(2, .int p1), (1, .int (0 : Int32)), (0, .int p1)]) hX hB dX4_ones_3 rfl hl (by decide) rfl (fun ls hl => ?_)
  obtain ⟨y2, hj, hf⟩ := zs_bind hf
  refine zs_then (α := Unit) (fun _ H locs ls => CC g A s.heap 3 [] [(1, .int y2)] H locs ls) (fun _ ls => F0 m 20 ls []) (fun _ H locs ls hC => ?_) (fun X => ?_)
  · obtain ⟨hP, hD, hS, hl⟩ := hC
    refine lv_iload_n (pc := 20) hX hB dX4_ones_20 rfl (lv_at hl 0 rfl) ?_
    obtain rfl := Option.some.inj hf
    exact zs_iret (pc := 21) hX hB hR hK hP hD hS dX4_ones_21
  · refine zs_loop (fun x1 H locs ls => CC g A s.heap 3 [] [(1, .int x1.1), (2, .int x1.2)] H locs ls) hj (fun n x1 q hf hr ih H locs ls hC => ?_) ⟨hP, hD, hS, lv_sub hl [1, 0] rfl⟩
    obtain ⟨hP, hD, hS, hl⟩ := hC
    unfold b_X4_ones_4 at hf
    refine lv_iload_n (pc := 4) hX hB dX4_ones_4 rfl (lv_at hl 1 rfl) ?_
    refine lv_if_eq (pc := 5) (tgt := 20) hX hB dX4_ones_5 (by decide) (fun hq => ?_) (fun hq => ?_)
    · have hf := zs_ip hf hq
      obtain rfl := Option.some.inj hf
      obtain rfl := hr
      exact X () _ _ _ ⟨hP, hD, hS, lv_sub hl [0] rfl⟩
    · have hf := zs_in hf hq
      refine lv_iinc (pc := 8) (v := x1.1 + (1 : Int32)) (lv' := [(1, .int (x1.1 + (1 : Int32))), (2, .int x1.2)]) hX hB dX4_ones_8 hl (k := 0) rfl rfl (by decide) rfl (fun ls hl => ?_)
      refine lv_iload_n (pc := 11) hX hB dX4_ones_11 rfl (lv_at hl 1 rfl) ?_
      refine lv_iload_n (pc := 12) hX hB dX4_ones_12 rfl (lv_at hl 1 rfl) ?_
      refine lv_iconst (pc := 13) (v := 1) hX hB dX4_ones_13 (by decide) ?_
      refine lv_isub (pc := 14) hX hB dX4_ones_14 ?_
      refine lv_iand (pc := 15) hX hB dX4_ones_15 ?_
      refine lv_istore_n (pc := 16) (lv' := [(2, .int (x1.2 &&& (x1.2 - (1 : Int32)))), (1, .int (x1.1 + (1 : Int32)))]) hX hB dX4_ones_16 rfl hl (by decide) rfl (fun ls hl => ?_)
      refine lv_goto (pc := 17) (tgt := 4) hX hB dX4_ones_17 (by decide) ?_
      obtain rfl := Option.some.inj hf
      exact ih _ hr _ _ _ ⟨hP, hD, hS, lv_sub hl [1, 0] rfl⟩

def b_X4_atLeast_20 (v_T_st : Nat → Int32) (p1 : Int32) (x1 : Int64 × Int32) (x4 : Int64 × Int32) : Option ((Int64 × Int32) ⊕ (Int64)) :=
  gd (inb (8 : Int32) 27) (if (v_T_st (8 : Int32).toNatClampNeg) ≤ x4.2 then (some (Sum.inr x4.1)) else ((f_X4_has x1.2 x4.2).bind (fun o7 => if o7 = (0 : Int32) then (some (Sum.inl (x4.1 * (((10 : Int32) - p1).toInt64), x4.2 + (1 : Int32)))) else (some (Sum.inl (x4.1 * p1.toInt64, x4.2 + (1 : Int32)))))))
def b_X4_atLeast_5 (v_T_st : Nat → Int32) (p1 : Int32) (p2 : Int32) (x1 : Int64 × Int32) : Option ((Int64 × Int32) ⊕ (Int64)) :=
  (f_X4_everybody v_T_st).bind (fun o3 => if o3 < x1.2 then (some (Sum.inr x1.1)) else ((lp (b_X4_atLeast_20 v_T_st p1 x1) 200 ((1 : Int64), (0 : Int32))).bind (fun y5 => (f_X4_ones x1.2).bind (fun o6 => if o6 < p2 then (some (Sum.inl (x1.1 + (0 : Int64), x1.2 + (1 : Int32)))) else (some (Sum.inl (x1.1 + y5, x1.2 + (1 : Int32))))))))
def f_X4_atLeast (v_T_st : Nat → Int32) (p1 : Int32) (p2 : Int32) : Option (Int64) :=
  (lp (b_X4_atLeast_5 v_T_st p1 p2) 200 ((0 : Int64), (0 : Int32))).bind (fun y2 => some y2)
set_option maxHeartbeats 4000000 in
set_option maxRecDepth 100000 in
theorem c_X4_atLeast (l : Launch) (g : GG) (sz : Nat) (a_T a_T_refused a_T_text a_T_row a_T_points a_T_used a_T_ahead a_T_isKept a_T_kept a_T_keptAhead a_T_keptMany a_T_st : Nat) (v_T_above : Int64) (v_T_below : Int64) (v_T_bytes : Int32) (v_T_place : Int32) (v_T_token : Int32) (v_T_value : Int32) (v_T_begins : Int32) (v_T_toldHolders : Int32) (v_T_undoMany : Int32) (v_T_drawn : Int64) (v_T_st : Nat → Int32) (p1 : Int32) (p2 : Int32) (o : Int64) (hf : f_X4_atLeast v_T_st p1 p2 = some o) : Met l yX4_atLeast (Cond.code yX4_atLeast cX4_atLeast 9 (some .long) :: TB) { frames := 1, cells := 0, slots := 0, locals := 22 } (Pst g [(a_T, .inr (4, [.ref a_T_st, .long v_T_above, .long v_T_below, .ref a_T_refused, .ref a_T_text, .int v_T_bytes, .int v_T_place, .int v_T_token, .int v_T_value, .int v_T_begins, .ref a_T_row, .int v_T_toldHolders, .ref a_T_points, .ref a_T_used, .ref a_T_ahead, .int v_T_undoMany, .long v_T_drawn, .ref a_T_isKept, .ref a_T_kept, .ref a_T_keptAhead, .ref a_T_keptMany])), (a_T_st, .inl (gI g, 27, .inl v_T_st))] [.ref a_T, .int p1, .int p2] sz) (Qst g [(a_T, .inr (4, [.ref a_T_st, .long v_T_above, .long v_T_below, .ref a_T_refused, .ref a_T_text, .int v_T_bytes, .int v_T_place, .int v_T_token, .int v_T_value, .int v_T_begins, .ref a_T_row, .int v_T_toldHolders, .ref a_T_points, .ref a_T_used, .ref a_T_ahead, .int v_T_undoMany, .long v_T_drawn, .ref a_T_isKept, .ref a_T_kept, .ref a_T_keptAhead, .ref a_T_keptMany])), (a_T_st, .inl (gI g, 27, .inl v_T_st))] (some (.long o)) (va_A [(a_T, .inr (4, [.ref a_T_st, .long v_T_above, .long v_T_below, .ref a_T_refused, .ref a_T_text, .int v_T_bytes, .int v_T_place, .int v_T_token, .int v_T_value, .int v_T_begins, .ref a_T_row, .int v_T_toldHolders, .ref a_T_points, .ref a_T_used, .ref a_T_ahead, .int v_T_undoMany, .long v_T_drawn, .ref a_T_isKept, .ref a_T_kept, .ref a_T_keptAhead, .ref a_T_keptMany])), (a_T_st, .inl (gI g, 27, .inl v_T_st))] sz)) 0 0 (va_A [(a_T, .inr (4, [.ref a_T_st, .long v_T_above, .long v_T_below, .ref a_T_refused, .ref a_T_text, .int v_T_bytes, .int v_T_place, .int v_T_token, .int v_T_value, .int v_T_begins, .ref a_T_row, .int v_T_toldHolders, .ref a_T_points, .ref a_T_used, .ref a_T_ahead, .int v_T_undoMany, .long v_T_drawn, .ref a_T_isKept, .ref a_T_kept, .ref a_T_keptAhead, .ref a_T_keptMany])), (a_T_st, .inl (gI g, 27, .inl v_T_st))] sz) := by
  unfold f_X4_atLeast at hf
  refine zs_met (own := RX4) (plainFor_of_name (by decide)) rfl (Nat.le_of_ble_eq_true rfl) ?_
  intro p e s m below meth c A ls hX hB hR hM hT hO hK hN hA hE hP hD hS hl
  have hl : lv_has ls 9 [(0, .ref a_T), (1, .int p1), (2, .int p2)] := hl
  refine lv_lconst (pc := 0) (v := 0) hX hB dX4_atLeast_0 (by decide) ?_
  refine lv_lstore_n (pc := 1) (lv' := [(3, .long (0 : Int64)), (0, .ref a_T), (1, .int p1), (2, .int p2)]) hX hB dX4_atLeast_1 rfl hl (by decide) rfl (fun ls hl => ?_)
  refine lv_iconst (pc := 2) (v := 0) hX hB dX4_atLeast_2 (by decide) ?_
  refine lv_istore (pc := 3) (lv' := [(5, .int (0 : Int32)), (3, .long (0 : Int64)), (0, .ref a_T), (1, .int p1), (2, .int p2)]) hX hB dX4_atLeast_3 hl (by decide) rfl (fun ls hl => ?_)
  obtain ⟨y2, hj, hf⟩ := zs_bind hf
  refine zs_then (α := Unit) (fun _ H locs ls => CC g A s.heap 9 [(a_T, .inr (4, [.ref a_T_st, .long v_T_above, .long v_T_below, .ref a_T_refused, .ref a_T_text, .int v_T_bytes, .int v_T_place, .int v_T_token, .int v_T_value, .int v_T_begins, .ref a_T_row, .int v_T_toldHolders, .ref a_T_points, .ref a_T_used, .ref a_T_ahead, .int v_T_undoMany, .long v_T_drawn, .ref a_T_isKept, .ref a_T_kept, .ref a_T_keptAhead, .ref a_T_keptMany])), (a_T_st, .inl (gI g, 27, .inl v_T_st))] [(3, .long y2)] H locs ls) (fun _ ls => F0 m 87 ls []) (fun _ H locs ls hC => ?_) (fun X => ?_)
  · obtain ⟨hP, hD, hS, hl⟩ := hC
    refine lv_lload_n (pc := 87) hX hB dX4_atLeast_87 rfl (lv_at hl 0 rfl) ?_
    obtain rfl := Option.some.inj hf
    exact zs_lret (pc := 88) hX hB hR hK hP hD hS dX4_atLeast_88
  · refine zs_loop (fun x1 H locs ls => CC g A s.heap 9 [(a_T, .inr (4, [.ref a_T_st, .long v_T_above, .long v_T_below, .ref a_T_refused, .ref a_T_text, .int v_T_bytes, .int v_T_place, .int v_T_token, .int v_T_value, .int v_T_begins, .ref a_T_row, .int v_T_toldHolders, .ref a_T_points, .ref a_T_used, .ref a_T_ahead, .int v_T_undoMany, .long v_T_drawn, .ref a_T_isKept, .ref a_T_kept, .ref a_T_keptAhead, .ref a_T_keptMany])), (a_T_st, .inl (gI g, 27, .inl v_T_st))] [(0, .ref a_T), (1, .int p1), (2, .int p2), (3, .long x1.1), (5, .int x1.2)] H locs ls) hj (fun n x1 q hf hr ih H locs ls hC => ?_) ⟨hP, hD, hS, lv_sub hl [2, 3, 4, 1, 0] rfl⟩
    obtain ⟨hP, hD, hS, hl⟩ := hC
    unfold b_X4_atLeast_5 at hf
    refine lv_iload (pc := 5) hX hB dX4_atLeast_5 (lv_at hl 4 rfl) ?_
    refine lv_aload_n (pc := 7) hX hB dX4_atLeast_7 rfl (lv_at hl 0 rfl) ?_
    obtain ⟨o3, hc, hf⟩ := zs_bind hf
    refine zs_V (q := (RX4, TX4, 21)) (ci := 4) (q0 := 0) (b := a_T) (pc := 8) (As := []) (rest := [.int x1.2]) (st1 := [.int o3, .int x1.2]) (wc := [(a_T, .inr (4, [.ref a_T_st, .long v_T_above, .long v_T_below, .ref a_T_refused, .ref a_T_text, .int v_T_bytes, .int v_T_place, .int v_T_token, .int v_T_value, .int v_T_begins, .ref a_T_row, .int v_T_toldHolders, .ref a_T_points, .ref a_T_used, .ref a_T_ahead, .int v_T_undoMany, .long v_T_drawn, .ref a_T_isKept, .ref a_T_kept, .ref a_T_keptAhead, .ref a_T_keptMany])), (a_T_st, .inl (gI g, 27, .inl v_T_st))]) (wr := []) (w1 := [(a_T, .inr (4, [.ref a_T_st, .long v_T_above, .long v_T_below, .ref a_T_refused, .ref a_T_text, .int v_T_bytes, .int v_T_place, .int v_T_token, .int v_T_value, .int v_T_begins, .ref a_T_row, .int v_T_toldHolders, .ref a_T_points, .ref a_T_used, .ref a_T_ahead, .int v_T_undoMany, .long v_T_drawn, .ref a_T_isKept, .ref a_T_kept, .ref a_T_keptAhead, .ref a_T_keptMany])), (a_T_st, .inl (gI g, 27, .inl v_T_st))]) (w2 := [(a_T, .inr (4, [.ref a_T_st, .long v_T_above, .long v_T_below, .ref a_T_refused, .ref a_T_text, .int v_T_bytes, .int v_T_place, .int v_T_token, .int v_T_value, .int v_T_begins, .ref a_T_row, .int v_T_toldHolders, .ref a_T_points, .ref a_T_used, .ref a_T_ahead, .int v_T_undoMany, .long v_T_drawn, .ref a_T_isKept, .ref a_T_kept, .ref a_T_keptAhead, .ref a_T_keptMany])), (a_T_st, .inl (gI g, 27, .inl v_T_st))]) (ov := some (.int o3)) lb_X4_everybody lk_X4_220 hX hB hM hO hT hE hP hD hS hA (c_X4_everybody l g _ a_T a_T_refused a_T_text a_T_row a_T_points a_T_used a_T_ahead a_T_isKept a_T_kept a_T_keptAhead a_T_keptMany a_T_st v_T_above v_T_below v_T_bytes v_T_place v_T_token v_T_value v_T_begins v_T_toldHolders v_T_undoMany v_T_drawn v_T_st o3 hc) ⟨rfl, rfl⟩ ⟨Nat.le_of_ble_eq_true rfl, Nat.le_of_ble_eq_true rfl⟩ rfl rfl [0, 1] [] [0, 1] rfl rfl rfl rfl (by decide) rfl rfl rfl rfl hl.1 (Nat.le_of_ble_eq_true rfl) ⟨Nat.zero_le _, Nat.zero_le _⟩ rfl dX4_atLeast_8 (fun H locs hP hD hS => ?_)
    refine lv_icmp_gt (pc := 11) (tgt := 87) hX hB dX4_atLeast_11 (by decide) (fun hq => ?_) (fun hq => ?_)
    · have hf := zs_ip hf hq
      obtain rfl := Option.some.inj hf
      obtain rfl := hr
      exact X () _ _ _ ⟨hP, hD, hS, lv_sub hl [3] rfl⟩
    · have hf := zs_in hf hq
      refine lv_lconst (pc := 14) (v := 1) hX hB dX4_atLeast_14 (by decide) ?_
      refine lv_lstore (pc := 15) (lv' := [(6, .long (1 : Int64)), (0, .ref a_T), (1, .int p1), (2, .int p2), (3, .long x1.1), (5, .int x1.2)]) hX hB dX4_atLeast_15 hl (by decide) rfl (fun ls hl => ?_)
      refine lv_iconst (pc := 17) (v := 0) hX hB dX4_atLeast_17 (by decide) ?_
      refine lv_istore (pc := 18) (lv' := [(8, .int (0 : Int32)), (6, .long (1 : Int64)), (0, .ref a_T), (1, .int p1), (2, .int p2), (3, .long x1.1), (5, .int x1.2)]) hX hB dX4_atLeast_18 hl (by decide) rfl (fun ls hl => ?_)
      obtain ⟨y5, hj, hf⟩ := zs_bind hf
      refine zs_then (α := Unit) (fun _ H locs ls => CC g A s.heap 9 [(a_T, .inr (4, [.ref a_T_st, .long v_T_above, .long v_T_below, .ref a_T_refused, .ref a_T_text, .int v_T_bytes, .int v_T_place, .int v_T_token, .int v_T_value, .int v_T_begins, .ref a_T_row, .int v_T_toldHolders, .ref a_T_points, .ref a_T_used, .ref a_T_ahead, .int v_T_undoMany, .long v_T_drawn, .ref a_T_isKept, .ref a_T_kept, .ref a_T_keptAhead, .ref a_T_keptMany])), (a_T_st, .inl (gI g, 27, .inl v_T_st))] [(0, .ref a_T), (1, .int p1), (2, .int p2), (3, .long x1.1), (5, .int x1.2), (6, .long y5)] H locs ls) (fun _ ls => F0 m 63 ls []) (fun _ H locs ls hC => ?_) (fun X => ?_)
      · obtain ⟨hP, hD, hS, hl⟩ := hC
        refine lv_lload_n (pc := 63) hX hB dX4_atLeast_63 rfl (lv_at hl 3 rfl) ?_
        refine lv_iload (pc := 64) hX hB dX4_atLeast_64 (lv_at hl 4 rfl) ?_
        obtain ⟨o6, hc, hf⟩ := zs_bind hf
        refine zs_S (pc := 66) (As := [.int x1.2]) (rest := [.long x1.1]) (st1 := [.int o6, .long x1.1]) (wc := []) (wr := [(a_T, .inr (4, [.ref a_T_st, .long v_T_above, .long v_T_below, .ref a_T_refused, .ref a_T_text, .int v_T_bytes, .int v_T_place, .int v_T_token, .int v_T_value, .int v_T_begins, .ref a_T_row, .int v_T_toldHolders, .ref a_T_points, .ref a_T_used, .ref a_T_ahead, .int v_T_undoMany, .long v_T_drawn, .ref a_T_isKept, .ref a_T_kept, .ref a_T_keptAhead, .ref a_T_keptMany])), (a_T_st, .inl (gI g, 27, .inl v_T_st))]) (w1 := []) (w2 := [(a_T, .inr (4, [.ref a_T_st, .long v_T_above, .long v_T_below, .ref a_T_refused, .ref a_T_text, .int v_T_bytes, .int v_T_place, .int v_T_token, .int v_T_value, .int v_T_begins, .ref a_T_row, .int v_T_toldHolders, .ref a_T_points, .ref a_T_used, .ref a_T_ahead, .int v_T_undoMany, .long v_T_drawn, .ref a_T_isKept, .ref a_T_kept, .ref a_T_keptAhead, .ref a_T_keptMany])), (a_T_st, .inl (gI g, 27, .inl v_T_st))]) (ov := some (.int o6)) lb_X4_ones lk_X4_138 hX hB hM hO hT hE hP hD hS hA (c_X4_ones l g _ x1.2 o6 hc) ⟨rfl, rfl⟩ ⟨Nat.le_of_ble_eq_true rfl, Nat.le_of_ble_eq_true rfl⟩ [] [0, 1] [0, 1] rfl rfl rfl rfl (by decide) rfl rfl rfl rfl hl.1 (Nat.le_of_ble_eq_true rfl) ⟨Nat.zero_le _, Nat.zero_le _⟩ rfl dX4_atLeast_66 (fun H locs hP hD hS => ?_)
        refine lv_iload_n (pc := 69) hX hB dX4_atLeast_69 rfl (lv_at hl 2 rfl) ?_
        refine lv_icmp_lt (pc := 70) (tgt := 78) hX hB dX4_atLeast_70 (by decide) (fun hq => ?_) (fun hq => ?_)
        · have hf := zs_ip hf hq
          refine lv_lconst (pc := 78) (v := 0) hX hB dX4_atLeast_78 (by decide) ?_
          refine lv_ladd (pc := 79) hX hB dX4_atLeast_79 ?_
          refine lv_lstore_n (pc := 80) (lv' := [(3, .long (x1.1 + (0 : Int64))), (0, .ref a_T), (1, .int p1), (2, .int p2), (5, .int x1.2), (6, .long y5)]) hX hB dX4_atLeast_80 rfl hl (by decide) rfl (fun ls hl => ?_)
          refine lv_iinc (pc := 81) (v := x1.2 + (1 : Int32)) (lv' := [(5, .int (x1.2 + (1 : Int32))), (3, .long (x1.1 + (0 : Int64))), (0, .ref a_T), (1, .int p1), (2, .int p2), (6, .long y5)]) hX hB dX4_atLeast_81 hl (k := 4) rfl rfl (by decide) rfl (fun ls hl => ?_)
          refine lv_goto (pc := 84) (tgt := 5) hX hB dX4_atLeast_84 (by decide) ?_
          obtain rfl := Option.some.inj hf
          exact ih _ hr _ _ _ ⟨hP, hD, hS, lv_sub hl [2, 3, 4, 1, 0] rfl⟩
        · have hf := zs_in hf hq
          refine lv_lload (pc := 73) hX hB dX4_atLeast_73 (lv_at hl 5 rfl) ?_
          refine lv_goto (pc := 75) (tgt := 79) hX hB dX4_atLeast_75 (by decide) ?_
          refine lv_ladd (pc := 79) hX hB dX4_atLeast_79 ?_
          refine lv_lstore_n (pc := 80) (lv' := [(3, .long (x1.1 + y5)), (0, .ref a_T), (1, .int p1), (2, .int p2), (5, .int x1.2), (6, .long y5)]) hX hB dX4_atLeast_80 rfl hl (by decide) rfl (fun ls hl => ?_)
          refine lv_iinc (pc := 81) (v := x1.2 + (1 : Int32)) (lv' := [(5, .int (x1.2 + (1 : Int32))), (3, .long (x1.1 + y5)), (0, .ref a_T), (1, .int p1), (2, .int p2), (6, .long y5)]) hX hB dX4_atLeast_81 hl (k := 4) rfl rfl (by decide) rfl (fun ls hl => ?_)
          refine lv_goto (pc := 84) (tgt := 5) hX hB dX4_atLeast_84 (by decide) ?_
          obtain rfl := Option.some.inj hf
          exact ih _ hr _ _ _ ⟨hP, hD, hS, lv_sub hl [2, 3, 4, 1, 0] rfl⟩
      · refine zs_loop (fun x4 H locs ls => CC g A s.heap 9 [(a_T, .inr (4, [.ref a_T_st, .long v_T_above, .long v_T_below, .ref a_T_refused, .ref a_T_text, .int v_T_bytes, .int v_T_place, .int v_T_token, .int v_T_value, .int v_T_begins, .ref a_T_row, .int v_T_toldHolders, .ref a_T_points, .ref a_T_used, .ref a_T_ahead, .int v_T_undoMany, .long v_T_drawn, .ref a_T_isKept, .ref a_T_kept, .ref a_T_keptAhead, .ref a_T_keptMany])), (a_T_st, .inl (gI g, 27, .inl v_T_st))] [(0, .ref a_T), (1, .int p1), (2, .int p2), (3, .long x1.1), (5, .int x1.2), (6, .long x4.1), (8, .int x4.2)] H locs ls) hj (fun n x4 q hf hr ih H locs ls hC => ?_) ⟨hP, hD, hS, lv_sub hl [2, 3, 4, 5, 6, 1, 0] rfl⟩
        obtain ⟨hP, hD, hS, hl⟩ := hC
        unfold b_X4_atLeast_20 at hf
        refine lv_iload (pc := 20) hX hB dX4_atLeast_20 (lv_at hl 6 rfl) ?_
        refine lv_aload_n (pc := 22) hX hB dX4_atLeast_22 rfl (lv_at hl 0 rfl) ?_
        refine gf_X4_7 (pc := 23) (v := .ref a_T_st) hX hB hT hO hE hP 0 rfl rfl dX4_atLeast_23 ?_
        refine lv_bipush (pc := 26) (v := 8) hX hB dX4_atLeast_26 (by decide) ?_
        obtain ⟨hg, hf⟩ := zs_gd hf
        refine va_iald (pc := 28) hX hB hE.1 hP 1 0 rfl rfl (zs_inb hg) dX4_atLeast_28 ?_
        refine lv_icmp_ge (pc := 29) (tgt := 63) hX hB dX4_atLeast_29 (by decide) (fun hq => ?_) (fun hq => ?_)
        · have hf := zs_ip hf hq
          obtain rfl := Option.some.inj hf
          obtain rfl := hr
          exact X () _ _ _ ⟨hP, hD, hS, lv_sub hl [0, 1, 2, 3, 4, 5] rfl⟩
        · have hf := zs_in hf hq
          refine lv_lload (pc := 32) hX hB dX4_atLeast_32 (lv_at hl 5 rfl) ?_
          refine lv_iload (pc := 34) hX hB dX4_atLeast_34 (lv_at hl 4 rfl) ?_
          refine lv_iload (pc := 36) hX hB dX4_atLeast_36 (lv_at hl 6 rfl) ?_
          obtain ⟨o7, hc, hf⟩ := zs_bind hf
          refine zs_S (pc := 38) (As := [.int x1.2, .int x4.2]) (rest := [.long x4.1]) (st1 := [.int o7, .long x4.1]) (wc := []) (wr := [(a_T, .inr (4, [.ref a_T_st, .long v_T_above, .long v_T_below, .ref a_T_refused, .ref a_T_text, .int v_T_bytes, .int v_T_place, .int v_T_token, .int v_T_value, .int v_T_begins, .ref a_T_row, .int v_T_toldHolders, .ref a_T_points, .ref a_T_used, .ref a_T_ahead, .int v_T_undoMany, .long v_T_drawn, .ref a_T_isKept, .ref a_T_kept, .ref a_T_keptAhead, .ref a_T_keptMany])), (a_T_st, .inl (gI g, 27, .inl v_T_st))]) (w1 := []) (w2 := [(a_T, .inr (4, [.ref a_T_st, .long v_T_above, .long v_T_below, .ref a_T_refused, .ref a_T_text, .int v_T_bytes, .int v_T_place, .int v_T_token, .int v_T_value, .int v_T_begins, .ref a_T_row, .int v_T_toldHolders, .ref a_T_points, .ref a_T_used, .ref a_T_ahead, .int v_T_undoMany, .long v_T_drawn, .ref a_T_isKept, .ref a_T_kept, .ref a_T_keptAhead, .ref a_T_keptMany])), (a_T_st, .inl (gI g, 27, .inl v_T_st))]) (ov := some (.int o7)) lb_X4_has lk_X4_141 hX hB hM hO hT hE hP hD hS hA (c_X4_has l g _ x1.2 x4.2 o7 hc) ⟨rfl, rfl⟩ ⟨Nat.le_of_ble_eq_true rfl, Nat.le_of_ble_eq_true rfl⟩ [] [0, 1] [0, 1] rfl rfl rfl rfl (by decide) rfl rfl rfl rfl hl.1 (Nat.le_of_ble_eq_true rfl) ⟨Nat.zero_le _, Nat.zero_le _⟩ rfl dX4_atLeast_38 (fun H locs hP hD hS => ?_)
          refine lv_if_eq (pc := 41) (tgt := 49) hX hB dX4_atLeast_41 (by decide) (fun hq => ?_) (fun hq => ?_)
          · have hf := zs_ip hf hq
            refine lv_bipush (pc := 49) (v := 10) hX hB dX4_atLeast_49 (by decide) ?_
            refine lv_iload_n (pc := 51) hX hB dX4_atLeast_51 rfl (lv_at hl 1 rfl) ?_
            refine lv_isub (pc := 52) hX hB dX4_atLeast_52 ?_
            refine lv_i2l (pc := 53) (v := ((10 : Int32) - p1).toInt64) hX hB dX4_atLeast_53 rfl ?_
            refine lv_lmul (pc := 54) hX hB dX4_atLeast_54 ?_
            refine lv_lstore (pc := 55) (lv' := [(6, .long (x4.1 * (((10 : Int32) - p1).toInt64))), (0, .ref a_T), (1, .int p1), (2, .int p2), (3, .long x1.1), (5, .int x1.2), (8, .int x4.2)]) hX hB dX4_atLeast_55 hl (by decide) rfl (fun ls hl => ?_)
            refine lv_iinc (pc := 57) (v := x4.2 + (1 : Int32)) (lv' := [(8, .int (x4.2 + (1 : Int32))), (6, .long (x4.1 * (((10 : Int32) - p1).toInt64))), (0, .ref a_T), (1, .int p1), (2, .int p2), (3, .long x1.1), (5, .int x1.2)]) hX hB dX4_atLeast_57 hl (k := 6) rfl rfl (by decide) rfl (fun ls hl => ?_)
            refine lv_goto (pc := 60) (tgt := 20) hX hB dX4_atLeast_60 (by decide) ?_
            obtain rfl := Option.some.inj hf
            exact ih _ hr _ _ _ ⟨hP, hD, hS, lv_sub hl [2, 3, 4, 5, 6, 1, 0] rfl⟩
          · have hf := zs_in hf hq
            refine lv_iload_n (pc := 44) hX hB dX4_atLeast_44 rfl (lv_at hl 1 rfl) ?_
            refine lv_i2l (pc := 45) (v := p1.toInt64) hX hB dX4_atLeast_45 rfl ?_
            refine lv_goto (pc := 46) (tgt := 54) hX hB dX4_atLeast_46 (by decide) ?_
            refine lv_lmul (pc := 54) hX hB dX4_atLeast_54 ?_
            refine lv_lstore (pc := 55) (lv' := [(6, .long (x4.1 * p1.toInt64)), (0, .ref a_T), (1, .int p1), (2, .int p2), (3, .long x1.1), (5, .int x1.2), (8, .int x4.2)]) hX hB dX4_atLeast_55 hl (by decide) rfl (fun ls hl => ?_)
            refine lv_iinc (pc := 57) (v := x4.2 + (1 : Int32)) (lv' := [(8, .int (x4.2 + (1 : Int32))), (6, .long (x4.1 * p1.toInt64)), (0, .ref a_T), (1, .int p1), (2, .int p2), (3, .long x1.1), (5, .int x1.2)]) hX hB dX4_atLeast_57 hl (k := 6) rfl rfl (by decide) rfl (fun ls hl => ?_)
            refine lv_goto (pc := 60) (tgt := 20) hX hB dX4_atLeast_60 (by decide) ?_
            obtain rfl := Option.some.inj hf
            exact ih _ hr _ _ _ ⟨hP, hD, hS, lv_sub hl [2, 3, 4, 5, 6, 1, 0] rfl⟩

def f_X4_bad (v_T_refused : Nat → Int32) : Option (Int32 × (Nat → Int32)) :=
  gd (inb (0 : Int32) 3) (gd (inb (0 : Int32) 3) (some ((-2 : Int32), upd v_T_refused (0 : Int32).toNatClampNeg ((v_T_refused (0 : Int32).toNatClampNeg) + (1 : Int32)))))
set_option maxHeartbeats 4000000 in
set_option maxRecDepth 100000 in
theorem c_X4_bad (l : Launch) (g : GG) (sz : Nat) (a_T a_T_st a_T_text a_T_row a_T_points a_T_used a_T_ahead a_T_isKept a_T_kept a_T_keptAhead a_T_keptMany a_T_refused : Nat) (v_T_above : Int64) (v_T_below : Int64) (v_T_bytes : Int32) (v_T_place : Int32) (v_T_token : Int32) (v_T_value : Int32) (v_T_begins : Int32) (v_T_toldHolders : Int32) (v_T_undoMany : Int32) (v_T_drawn : Int64) (v_T_refused : Nat → Int32) (o : Int32 × (Nat → Int32)) (hf : f_X4_bad v_T_refused = some o) : Met l yX4_bad (Cond.code yX4_bad cX4_bad 1 (some .int) :: TB) { frames := 0, cells := 0, slots := 0, locals := 0 } (Pst g [(a_T, .inr (4, [.ref a_T_st, .long v_T_above, .long v_T_below, .ref a_T_refused, .ref a_T_text, .int v_T_bytes, .int v_T_place, .int v_T_token, .int v_T_value, .int v_T_begins, .ref a_T_row, .int v_T_toldHolders, .ref a_T_points, .ref a_T_used, .ref a_T_ahead, .int v_T_undoMany, .long v_T_drawn, .ref a_T_isKept, .ref a_T_kept, .ref a_T_keptAhead, .ref a_T_keptMany])), (a_T_refused, .inl (gI g, 3, .inl v_T_refused))] [.ref a_T] sz) (Qst g [(a_T, .inr (4, [.ref a_T_st, .long v_T_above, .long v_T_below, .ref a_T_refused, .ref a_T_text, .int v_T_bytes, .int v_T_place, .int v_T_token, .int v_T_value, .int v_T_begins, .ref a_T_row, .int v_T_toldHolders, .ref a_T_points, .ref a_T_used, .ref a_T_ahead, .int v_T_undoMany, .long v_T_drawn, .ref a_T_isKept, .ref a_T_kept, .ref a_T_keptAhead, .ref a_T_keptMany])), (a_T_refused, .inl (gI g, 3, .inl o.2))] (some (.int o.1)) (va_A [(a_T, .inr (4, [.ref a_T_st, .long v_T_above, .long v_T_below, .ref a_T_refused, .ref a_T_text, .int v_T_bytes, .int v_T_place, .int v_T_token, .int v_T_value, .int v_T_begins, .ref a_T_row, .int v_T_toldHolders, .ref a_T_points, .ref a_T_used, .ref a_T_ahead, .int v_T_undoMany, .long v_T_drawn, .ref a_T_isKept, .ref a_T_kept, .ref a_T_keptAhead, .ref a_T_keptMany])), (a_T_refused, .inl (gI g, 3, .inl v_T_refused))] sz)) 0 0 (va_A [(a_T, .inr (4, [.ref a_T_st, .long v_T_above, .long v_T_below, .ref a_T_refused, .ref a_T_text, .int v_T_bytes, .int v_T_place, .int v_T_token, .int v_T_value, .int v_T_begins, .ref a_T_row, .int v_T_toldHolders, .ref a_T_points, .ref a_T_used, .ref a_T_ahead, .int v_T_undoMany, .long v_T_drawn, .ref a_T_isKept, .ref a_T_kept, .ref a_T_keptAhead, .ref a_T_keptMany])), (a_T_refused, .inl (gI g, 3, .inl v_T_refused))] sz) := by
  unfold f_X4_bad at hf
  refine zs_met (own := RX4) (plainFor_of_name (by decide)) rfl (Nat.le_of_ble_eq_true rfl) ?_
  intro p e s m below meth c A ls hX hB hR hM hT hO hK hN hA hE hP hD hS hl
  have hl : lv_has ls 1 [(0, .ref a_T)] := hl
  refine lv_aload_n (pc := 0) hX hB dX4_bad_0 rfl (lv_at hl 0 rfl) ?_
  refine gf_X4_17 (pc := 1) (v := .ref a_T_refused) hX hB hT hO hE hP 0 rfl rfl dX4_bad_1 ?_
  refine lv_iconst (pc := 4) (v := 0) hX hB dX4_bad_4 (by decide) ?_
  refine lv_dup2_11 (pc := 5) hX hB dX4_bad_5 rfl rfl ?_
  obtain ⟨hg, hf⟩ := zs_gd hf
  refine va_iald (pc := 6) hX hB hE.1 hP 1 0 rfl rfl (zs_inb hg) dX4_bad_6 ?_
  refine lv_iconst (pc := 7) (v := 1) hX hB dX4_bad_7 (by decide) ?_
  refine lv_iadd (pc := 8) hX hB dX4_bad_8 ?_
  obtain ⟨hg, hf⟩ := zs_gd hf
  refine zs_iast (pc := 9) (w2 := [(a_T, .inr (4, [.ref a_T_st, .long v_T_above, .long v_T_below, .ref a_T_refused, .ref a_T_text, .int v_T_bytes, .int v_T_place, .int v_T_token, .int v_T_value, .int v_T_begins, .ref a_T_row, .int v_T_toldHolders, .ref a_T_points, .ref a_T_used, .ref a_T_ahead, .int v_T_undoMany, .long v_T_drawn, .ref a_T_isKept, .ref a_T_kept, .ref a_T_keptAhead, .ref a_T_keptMany])), (a_T_refused, .inl (gI g, 3, .inl (upd v_T_refused (0 : Int32).toNatClampNeg ((v_T_refused (0 : Int32).toNatClampNeg) + (1 : Int32)))))]) hX hB hE hP hD hS 1 rfl (zs_inb hg) rfl dX4_bad_9 (fun H locs hP hD hS => ?_)
  refine lv_bipush (pc := 10) (v := -2) hX hB dX4_bad_10 (by decide) ?_
  obtain rfl := Option.some.inj hf
  exact zs_iret (pc := 12) hX hB hR hK hP hD hS dX4_bad_12
