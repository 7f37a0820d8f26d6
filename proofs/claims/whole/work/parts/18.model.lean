def b_X4_best_34 (v_T_st : Nat → Int32) (p1 : Int32) (p2 : Int32) (x4 : Int32 × Int32) : Option ((Int32 × Int32) ⊕ (Int32)) :=
  if (4 : Int32) < x4.2 then (some (Sum.inr x4.1)) else ((f_X4_atLeast v_T_st p1 x4.2).bind (fun o6 => (f_X4_atLeast v_T_st p2 x4.2).bind (fun o7 => (f_X4_atLeast v_T_st p1 x4.1).bind (fun o8 => (f_X4_atLeast v_T_st p2 x4.1).bind (fun o9 => if (lg_cmp (((o6 - o7) - o8) + o9) (0 : Int64)) < (0 : Int32) then (some (Sum.inl (x4.1, x4.2 + (1 : Int32)))) else (some (Sum.inl (x4.2, x4.2 + (1 : Int32)))))))))
def f_X4_best (v_T_st : Nat → Int32) (v_T_refused : Nat → Int32) (p1 : Int32) (p2 : Int32) : Option (Int32 × (Nat → Int32)) :=
  (f_X4_in p1.toInt64 (0 : Int64) (10 : Int64)).bind (fun o1 => if o1 = (0 : Int32) then ((f_X4_bad v_T_refused).bind (fun o2 => some (o2.1, o2.2))) else ((f_X4_in p2.toInt64 (0 : Int64) (10 : Int64)).bind (fun o3 => if o3 = (0 : Int32) then ((f_X4_bad v_T_refused).bind (fun o10 => some (o10.1, o10.2))) else ((lp (b_X4_best_34 v_T_st p1 p2) 200 ((1 : Int32), (2 : Int32))).bind (fun y5 => some (y5, v_T_refused))))))
set_option maxHeartbeats 4000000 in
set_option maxRecDepth 100000 in
theorem c_X4_best (l : Launch) (g : GG) (sz : Nat) (a_T a_T_text a_T_row a_T_points a_T_used a_T_ahead a_T_isKept a_T_kept a_T_keptAhead a_T_keptMany a_T_st a_T_refused : Nat) (v_T_above : Int64) (v_T_below : Int64) (v_T_bytes : Int32) (v_T_place : Int32) (v_T_token : Int32) (v_T_value : Int32) (v_T_begins : Int32) (v_T_toldHolders : Int32) (v_T_undoMany : Int32) (v_T_drawn : Int64) (v_T_st : Nat → Int32) (v_T_refused : Nat → Int32) (p1 : Int32) (p2 : Int32) (o : Int32 × (Nat → Int32)) (hf : f_X4_best v_T_st v_T_refused p1 p2 = some o) : Met l yX4_best (Cond.code yX4_best cX4_best 7 (some .int) :: TB) { frames := 2, cells := 0, slots := 0, locals := 50 } (Pst g [(a_T, .inr (4, [.ref a_T_st, .long v_T_above, .long v_T_below, .ref a_T_refused, .ref a_T_text, .int v_T_bytes, .int v_T_place, .int v_T_token, .int v_T_value, .int v_T_begins, .ref a_T_row, .int v_T_toldHolders, .ref a_T_points, .ref a_T_used, .ref a_T_ahead, .int v_T_undoMany, .long v_T_drawn, .ref a_T_isKept, .ref a_T_kept, .ref a_T_keptAhead, .ref a_T_keptMany])), (a_T_st, .inl (gI g, 27, .inl v_T_st)), (a_T_refused, .inl (gI g, 3, .inl v_T_refused))] [.ref a_T, .int p1, .int p2] sz) (Qst g [(a_T, .inr (4, [.ref a_T_st, .long v_T_above, .long v_T_below, .ref a_T_refused, .ref a_T_text, .int v_T_bytes, .int v_T_place, .int v_T_token, .int v_T_value, .int v_T_begins, .ref a_T_row, .int v_T_toldHolders, .ref a_T_points, .ref a_T_used, .ref a_T_ahead, .int v_T_undoMany, .long v_T_drawn, .ref a_T_isKept, .ref a_T_kept, .ref a_T_keptAhead, .ref a_T_keptMany])), (a_T_st, .inl (gI g, 27, .inl v_T_st)), (a_T_refused, .inl (gI g, 3, .inl o.2))] (some (.int o.1)) (va_A [(a_T, .inr (4, [.ref a_T_st, .long v_T_above, .long v_T_below, .ref a_T_refused, .ref a_T_text, .int v_T_bytes, .int v_T_place, .int v_T_token, .int v_T_value, .int v_T_begins, .ref a_T_row, .int v_T_toldHolders, .ref a_T_points, .ref a_T_used, .ref a_T_ahead, .int v_T_undoMany, .long v_T_drawn, .ref a_T_isKept, .ref a_T_kept, .ref a_T_keptAhead, .ref a_T_keptMany])), (a_T_st, .inl (gI g, 27, .inl v_T_st)), (a_T_refused, .inl (gI g, 3, .inl v_T_refused))] sz)) 0 0 (va_A [(a_T, .inr (4, [.ref a_T_st, .long v_T_above, .long v_T_below, .ref a_T_refused, .ref a_T_text, .int v_T_bytes, .int v_T_place, .int v_T_token, .int v_T_value, .int v_T_begins, .ref a_T_row, .int v_T_toldHolders, .ref a_T_points, .ref a_T_used, .ref a_T_ahead, .int v_T_undoMany, .long v_T_drawn, .ref a_T_isKept, .ref a_T_kept, .ref a_T_keptAhead, .ref a_T_keptMany])), (a_T_st, .inl (gI g, 27, .inl v_T_st)), (a_T_refused, .inl (gI g, 3, .inl v_T_refused))] sz) := by
  unfold f_X4_best at hf
  refine zs_met (own := RX4) (plainFor_of_name (by decide)) rfl (Nat.le_of_ble_eq_true rfl) ?_
  intro p e s m below meth c A ls hX hB hR hM hT hO hK hN hA hE hP hD hS hl
  have hl : lv_has ls 7 [(0, .ref a_T), (1, .int p1), (2, .int p2)] := hl
  refine lv_iload_n (pc := 0) hX hB dX4_best_0 rfl (lv_at hl 1 rfl) ?_
  refine lv_i2l (pc := 1) (v := p1.toInt64) hX hB dX4_best_1 rfl ?_
  refine lv_lconst (pc := 2) (v := 0) hX hB dX4_best_2 (by decide) ?_
  refine lv_ldc2 (pc := 3) (v := 10) hX hB hO (hT _ tw_4_218) dX4_best_3 ?_
  obtain ⟨o1, hc, hf⟩ := zs_bind hf
  refine zs_S (pc := 6) (As := [.long p1.toInt64, .long (0 : Int64), .long (10 : Int64)]) (rest := []) (st1 := [.int o1]) (wc := []) (wr := [(a_T, .inr (4, [.ref a_T_st, .long v_T_above, .long v_T_below, .ref a_T_refused, .ref a_T_text, .int v_T_bytes, .int v_T_place, .int v_T_token, .int v_T_value, .int v_T_begins, .ref a_T_row, .int v_T_toldHolders, .ref a_T_points, .ref a_T_used, .ref a_T_ahead, .int v_T_undoMany, .long v_T_drawn, .ref a_T_isKept, .ref a_T_kept, .ref a_T_keptAhead, .ref a_T_keptMany])), (a_T_st, .inl (gI g, 27, .inl v_T_st)), (a_T_refused, .inl (gI g, 3, .inl v_T_refused))]) (w1 := []) (w2 := [(a_T, .inr (4, [.ref a_T_st, .long v_T_above, .long v_T_below, .ref a_T_refused, .ref a_T_text, .int v_T_bytes, .int v_T_place, .int v_T_token, .int v_T_value, .int v_T_begins, .ref a_T_row, .int v_T_toldHolders, .ref a_T_points, .ref a_T_used, .ref a_T_ahead, .int v_T_undoMany, .long v_T_drawn, .ref a_T_isKept, .ref a_T_kept, .ref a_T_keptAhead, .ref a_T_keptMany])), (a_T_st, .inl (gI g, 27, .inl v_T_st)), (a_T_refused, .inl (gI g, 3, .inl v_T_refused))]) (ov := some (.int o1)) lb_X4_in lk_X4_52 hX hB hM hO hT hE hP hD hS hA (c_X4_in l g _ p1.toInt64 (0 : Int64) (10 : Int64) o1 hc) ⟨rfl, rfl⟩ ⟨Nat.le_of_ble_eq_true rfl, Nat.le_of_ble_eq_true rfl⟩ [] [0, 1, 2] [0, 1, 2] rfl rfl rfl rfl (by decide) rfl rfl rfl rfl hl.1 (Nat.le_of_ble_eq_true rfl) ⟨Nat.zero_le _, Nat.zero_le _⟩ rfl dX4_best_6 (fun H locs hP hD hS => ?_)
  refine lv_if_eq (pc := 9) (tgt := 24) hX hB dX4_best_9 (by decide) (fun hq => ?_) (fun hq => ?_)
  · have hf := zs_ip hf hq
    refine lv_aload_n (pc := 24) hX hB dX4_best_24 rfl (lv_at hl 0 rfl) ?_
    obtain ⟨o2, hc, hf⟩ := zs_bind hf
    refine zs_V (q := (RX4, TX4, 21)) (ci := 4) (q0 := 0) (b := a_T) (pc := 25) (As := []) (rest := []) (st1 := [.int o2.1]) (wc := [(a_T, .inr (4, [.ref a_T_st, .long v_T_above, .long v_T_below, .ref a_T_refused, .ref a_T_text, .int v_T_bytes, .int v_T_place, .int v_T_token, .int v_T_value, .int v_T_begins, .ref a_T_row, .int v_T_toldHolders, .ref a_T_points, .ref a_T_used, .ref a_T_ahead, .int v_T_undoMany, .long v_T_drawn, .ref a_T_isKept, .ref a_T_kept, .ref a_T_keptAhead, .ref a_T_keptMany])), (a_T_refused, .inl (gI g, 3, .inl v_T_refused))]) (wr := [(a_T_st, .inl (gI g, 27, .inl v_T_st))]) (w1 := [(a_T, .inr (4, [.ref a_T_st, .long v_T_above, .long v_T_below, .ref a_T_refused, .ref a_T_text, .int v_T_bytes, .int v_T_place, .int v_T_token, .int v_T_value, .int v_T_begins, .ref a_T_row, .int v_T_toldHolders, .ref a_T_points, .ref a_T_used, .ref a_T_ahead, .int v_T_undoMany, .long v_T_drawn, .ref a_T_isKept, .ref a_T_kept, .ref a_T_keptAhead, .ref a_T_keptMany])), (a_T_refused, .inl (gI g, 3, .inl o2.2))]) (w2 := [(a_T, .inr (4, [.ref a_T_st, .long v_T_above, .long v_T_below, .ref a_T_refused, .ref a_T_text, .int v_T_bytes, .int v_T_place, .int v_T_token, .int v_T_value, .int v_T_begins, .ref a_T_row, .int v_T_toldHolders, .ref a_T_points, .ref a_T_used, .ref a_T_ahead, .int v_T_undoMany, .long v_T_drawn, .ref a_T_isKept, .ref a_T_kept, .ref a_T_keptAhead, .ref a_T_keptMany])), (a_T_st, .inl (gI g, 27, .inl v_T_st)), (a_T_refused, .inl (gI g, 3, .inl o2.2))]) (ov := some (.int o2.1)) lb_X4_bad lk_X4_64 hX hB hM hO hT hE hP hD hS hA (c_X4_bad l g _ a_T a_T_st a_T_text a_T_row a_T_points a_T_used a_T_ahead a_T_isKept a_T_kept a_T_keptAhead a_T_keptMany a_T_refused v_T_above v_T_below v_T_bytes v_T_place v_T_token v_T_value v_T_begins v_T_toldHolders v_T_undoMany v_T_drawn v_T_refused o2 hc) ⟨rfl, rfl⟩ ⟨Nat.le_of_ble_eq_true rfl, Nat.le_of_ble_eq_true rfl⟩ rfl rfl [0, 2] [1] [1, 0, 2] rfl rfl rfl rfl (by decide) rfl rfl rfl rfl hl.1 (Nat.le_of_ble_eq_true rfl) ⟨Nat.zero_le _, Nat.zero_le _⟩ rfl dX4_best_25 (fun H locs hP hD hS => ?_)
    obtain rfl := Option.some.inj hf
    exact zs_iret (pc := 28) hX hB hR hK hP hD hS dX4_best_28
  · have hf := zs_in hf hq
    refine lv_iload_n (pc := 12) hX hB dX4_best_12 rfl (lv_at hl 2 rfl) ?_
    refine lv_i2l (pc := 13) (v := p2.toInt64) hX hB dX4_best_13 rfl ?_
    refine lv_lconst (pc := 14) (v := 0) hX hB dX4_best_14 (by decide) ?_
    refine lv_ldc2 (pc := 15) (v := 10) hX hB hO (hT _ tw_4_218) dX4_best_15 ?_
    obtain ⟨o3, hc, hf⟩ := zs_bind hf
    refine zs_S (pc := 18) (As := [.long p2.toInt64, .long (0 : Int64), .long (10 : Int64)]) (rest := []) (st1 := [.int o3]) (wc := []) (wr := [(a_T, .inr (4, [.ref a_T_st, .long v_T_above, .long v_T_below, .ref a_T_refused, .ref a_T_text, .int v_T_bytes, .int v_T_place, .int v_T_token, .int v_T_value, .int v_T_begins, .ref a_T_row, .int v_T_toldHolders, .ref a_T_points, .ref a_T_used, .ref a_T_ahead, .int v_T_undoMany, .long v_T_drawn, .ref a_T_isKept, .ref a_T_kept, .ref a_T_keptAhead, .ref a_T_keptMany])), (a_T_st, .inl (gI g, 27, .inl v_T_st)), (a_T_refused, .inl (gI g, 3, .inl v_T_refused))]) (w1 := []) (w2 := [(a_T, .inr (4, [.ref a_T_st, .long v_T_above, .long v_T_below, .ref a_T_refused, .ref a_T_text, .int v_T_bytes, .int v_T_place, .int v_T_token, .int v_T_value, .int v_T_begins, .ref a_T_row, .int v_T_toldHolders, .ref a_T_points, .ref a_T_used, .ref a_T_ahead, .int v_T_undoMany, .long v_T_drawn, .ref a_T_isKept, .ref a_T_kept, .ref a_T_keptAhead, .ref a_T_keptMany])), (a_T_st, .inl (gI g, 27, .inl v_T_st)), (a_T_refused, .inl (gI g, 3, .inl v_T_refused))]) (ov := some (.int o3)) lb_X4_in lk_X4_52 hX hB hM hO hT hE hP hD hS hA (c_X4_in l g _ p2.toInt64 (0 : Int64) (10 : Int64) o3 hc) ⟨rfl, rfl⟩ ⟨Nat.le_of_ble_eq_true rfl, Nat.le_of_ble_eq_true rfl⟩ [] [0, 1, 2] [0, 1, 2] rfl rfl rfl rfl (by decide) rfl rfl rfl rfl hl.1 (Nat.le_of_ble_eq_true rfl) ⟨Nat.zero_le _, Nat.zero_le _⟩ rfl dX4_best_18 (fun H locs hP hD hS => ?_)
    refine lv_if_ne (pc := 21) (tgt := 29) hX hB dX4_best_21 (by decide) (fun hq => ?_) (fun hq => ?_)
    · have hf := zs_in hf hq
      refine lv_iconst (pc := 29) (v := 1) hX hB dX4_best_29 (by decide) ?_
      refine lv_istore_n (pc := 30) (lv' := [(3, .int (1 : Int32)), (0, .ref a_T), (1, .int p1), (2, .int p2)]) hX hB dX4_best_30 rfl hl (by decide) rfl (fun ls hl => ?_)
      refine lv_iconst (pc := 31) (v := 2) hX hB dX4_best_31 (by decide) ?_
      refine lv_istore (pc := 32) (lv' := [(4, .int (2 : Int32)), (3, .int (1 : Int32)), (0, .ref a_T), (1, .int p1), (2, .int p2)]) hX hB dX4_best_32 hl (by decide) rfl (fun ls hl => ?_)
      obtain ⟨y5, hj, hf⟩ := zs_bind hf
      refine zs_then (α := Unit) (fun _ H locs ls => CC g A s.heap 7 [(a_T, .inr (4, [.ref a_T_st, .long v_T_above, .long v_T_below, .ref a_T_refused, .ref a_T_text, .int v_T_bytes, .int v_T_place, .int v_T_token, .int v_T_value, .int v_T_begins, .ref a_T_row, .int v_T_toldHolders, .ref a_T_points, .ref a_T_used, .ref a_T_ahead, .int v_T_undoMany, .long v_T_drawn, .ref a_T_isKept, .ref a_T_kept, .ref a_T_keptAhead, .ref a_T_keptMany])), (a_T_st, .inl (gI g, 27, .inl v_T_st)), (a_T_refused, .inl (gI g, 3, .inl v_T_refused))] [(3, .int y5)] H locs ls) (fun _ ls => F0 m 91 ls []) (fun _ H locs ls hC => ?_) (fun X => ?_)
      · obtain ⟨hP, hD, hS, hl⟩ := hC
        refine lv_iload_n (pc := 91) hX hB dX4_best_91 rfl (lv_at hl 0 rfl) ?_
        obtain rfl := Option.some.inj hf
        exact zs_iret (pc := 92) hX hB hR hK hP hD hS dX4_best_92
      · refine zs_loop (fun x4 H locs ls => CC g A s.heap 7 [(a_T, .inr (4, [.ref a_T_st, .long v_T_above, .long v_T_below, .ref a_T_refused, .ref a_T_text, .int v_T_bytes, .int v_T_place, .int v_T_token, .int v_T_value, .int v_T_begins, .ref a_T_row, .int v_T_toldHolders, .ref a_T_points, .ref a_T_used, .ref a_T_ahead, .int v_T_undoMany, .long v_T_drawn, .ref a_T_isKept, .ref a_T_kept, .ref a_T_keptAhead, .ref a_T_keptMany])), (a_T_st, .inl (gI g, 27, .inl v_T_st)), (a_T_refused, .inl (gI g, 3, .inl v_T_refused))] [(0, .ref a_T), (1, .int p1), (2, .int p2), (3, .int x4.1), (4, .int x4.2)] H locs ls) hj (fun n x4 q hf hr ih H locs ls hC => ?_) ⟨hP, hD, hS, lv_sub hl [2, 3, 4, 1, 0] rfl⟩
        obtain ⟨hP, hD, hS, hl⟩ := hC
        unfold b_X4_best_34 at hf
        refine lv_iload (pc := 34) hX hB dX4_best_34 (lv_at hl 4 rfl) ?_
        refine lv_iconst (pc := 36) (v := 4) hX hB dX4_best_36 (by decide) ?_
        refine lv_icmp_gt (pc := 37) (tgt := 91) hX hB dX4_best_37 (by decide) (fun hq => ?_) (fun hq => ?_)
        · have hf := zs_ip hf hq
          obtain rfl := Option.some.inj hf
          obtain rfl := hr
          exact X () _ _ _ ⟨hP, hD, hS, lv_sub hl [3] rfl⟩
        · have hf := zs_in hf hq
          refine lv_aload_n (pc := 40) hX hB dX4_best_40 rfl (lv_at hl 0 rfl) ?_
          refine lv_iload_n (pc := 41) hX hB dX4_best_41 rfl (lv_at hl 1 rfl) ?_
          refine lv_iload (pc := 42) hX hB dX4_best_42 (lv_at hl 4 rfl) ?_
          obtain ⟨o6, hc, hf⟩ := zs_bind hf
          refine zs_V (q := (RX4, TX4, 21)) (ci := 4) (q0 := 0) (b := a_T) (pc := 44) (As := [.int p1, .int x4.2]) (rest := []) (st1 := [.long o6]) (wc := [(a_T, .inr (4, [.ref a_T_st, .long v_T_above, .long v_T_below, .ref a_T_refused, .ref a_T_text, .int v_T_bytes, .int v_T_place, .int v_T_token, .int v_T_value, .int v_T_begins, .ref a_T_row, .int v_T_toldHolders, .ref a_T_points, .ref a_T_used, .ref a_T_ahead, .int v_T_undoMany, .long v_T_drawn, .ref a_T_isKept, .ref a_T_kept, .ref a_T_keptAhead, .ref a_T_keptMany])), (a_T_st, .inl (gI g, 27, .inl v_T_st))]) (wr := [(a_T_refused, .inl (gI g, 3, .inl v_T_refused))]) (w1 := [(a_T, .inr (4, [.ref a_T_st, .long v_T_above, .long v_T_below, .ref a_T_refused, .ref a_T_text, .int v_T_bytes, .int v_T_place, .int v_T_token, .int v_T_value, .int v_T_begins, .ref a_T_row, .int v_T_toldHolders, .ref a_T_points, .ref a_T_used, .ref a_T_ahead, .int v_T_undoMany, .long v_T_drawn, .ref a_T_isKept, .ref a_T_kept, .ref a_T_keptAhead, .ref a_T_keptMany])), (a_T_st, .inl (gI g, 27, .inl v_T_st))]) (w2 := [(a_T, .inr (4, [.ref a_T_st, .long v_T_above, .long v_T_below, .ref a_T_refused, .ref a_T_text, .int v_T_bytes, .int v_T_place, .int v_T_token, .int v_T_value, .int v_T_begins, .ref a_T_row, .int v_T_toldHolders, .ref a_T_points, .ref a_T_used, .ref a_T_ahead, .int v_T_undoMany, .long v_T_drawn, .ref a_T_isKept, .ref a_T_kept, .ref a_T_keptAhead, .ref a_T_keptMany])), (a_T_st, .inl (gI g, 27, .inl v_T_st)), (a_T_refused, .inl (gI g, 3, .inl v_T_refused))]) (ov := some (.long o6)) lb_X4_atLeast lk_X4_228 hX hB hM hO hT hE hP hD hS hA (c_X4_atLeast l g _ a_T a_T_refused a_T_text a_T_row a_T_points a_T_used a_T_ahead a_T_isKept a_T_kept a_T_keptAhead a_T_keptMany a_T_st v_T_above v_T_below v_T_bytes v_T_place v_T_token v_T_value v_T_begins v_T_toldHolders v_T_undoMany v_T_drawn v_T_st p1 x4.2 o6 hc) ⟨rfl, rfl⟩ ⟨Nat.le_of_ble_eq_true rfl, Nat.le_of_ble_eq_true rfl⟩ rfl rfl [0, 1] [2] [1, 2, 0] rfl rfl rfl rfl (by decide) rfl rfl rfl rfl hl.1 (Nat.le_of_ble_eq_true rfl) ⟨Nat.zero_le _, Nat.zero_le _⟩ rfl dX4_best_44 (fun H locs hP hD hS => ?_)
          refine lv_aload_n (pc := 47) hX hB dX4_best_47 rfl (lv_at hl 0 rfl) ?_
          refine lv_iload_n (pc := 48) hX hB dX4_best_48 rfl (lv_at hl 2 rfl) ?_
          refine lv_iload (pc := 49) hX hB dX4_best_49 (lv_at hl 4 rfl) ?_
          obtain ⟨o7, hc, hf⟩ := zs_bind hf
          refine zs_V (q := (RX4, TX4, 21)) (ci := 4) (q0 := 0) (b := a_T) (pc := 51) (As := [.int p2, .int x4.2]) (rest := [.long o6]) (st1 := [.long o7, .long o6]) (wc := [(a_T, .inr (4, [.ref a_T_st, .long v_T_above, .long v_T_below, .ref a_T_refused, .ref a_T_text, .int v_T_bytes, .int v_T_place, .int v_T_token, .int v_T_value, .int v_T_begins, .ref a_T_row, .int v_T_toldHolders, .ref a_T_points, .ref a_T_used, .ref a_T_ahead, .int v_T_undoMany, .long v_T_drawn, .ref a_T_isKept, .ref a_T_kept, .ref a_T_keptAhead, .ref a_T_keptMany])), (a_T_st, .inl (gI g, 27, .inl v_T_st))]) (wr := [(a_T_refused, .inl (gI g, 3, .inl v_T_refused))]) (w1 := [(a_T, .inr (4, [.ref a_T_st, .long v_T_above, .long v_T_below, .ref a_T_refused, .ref a_T_text, .int v_T_bytes, .int v_T_place, .int v_T_token, .int v_T_value, .int v_T_begins, .ref a_T_row, .int v_T_toldHolders, .ref a_T_points, .ref a_T_used, .ref a_T_ahead, .int v_T_undoMany, .long v_T_drawn, .ref a_T_isKept, .ref a_T_kept, .ref a_T_keptAhead, .ref a_T_keptMany])), (a_T_st, .inl (gI g, 27, .inl v_T_st))]) (w2 := [(a_T, .inr (4, [.ref a_T_st, .long v_T_above, .long v_T_below, .ref a_T_refused, .ref a_T_text, .int v_T_bytes, .int v_T_place, .int v_T_token, .int v_T_value, .int v_T_begins, .ref a_T_row, .int v_T_toldHolders, .ref a_T_points, .ref a_T_used, .ref a_T_ahead, .int v_T_undoMany, .long v_T_drawn, .ref a_T_isKept, .ref a_T_kept, .ref a_T_keptAhead, .ref a_T_keptMany])), (a_T_st, .inl (gI g, 27, .inl v_T_st)), (a_T_refused, .inl (gI g, 3, .inl v_T_refused))]) (ov := some (.long o7)) lb_X4_atLeast lk_X4_228 hX hB hM hO hT hE hP hD hS hA (c_X4_atLeast l g _ a_T a_T_refused a_T_text a_T_row a_T_points a_T_used a_T_ahead a_T_isKept a_T_kept a_T_keptAhead a_T_keptMany a_T_st v_T_above v_T_below v_T_bytes v_T_place v_T_token v_T_value v_T_begins v_T_toldHolders v_T_undoMany v_T_drawn v_T_st p2 x4.2 o7 hc) ⟨rfl, rfl⟩ ⟨Nat.le_of_ble_eq_true rfl, Nat.le_of_ble_eq_true rfl⟩ rfl rfl [0, 1] [2] [1, 2, 0] rfl rfl rfl rfl (by decide) rfl rfl rfl rfl hl.1 (Nat.le_of_ble_eq_true rfl) ⟨Nat.zero_le _, Nat.zero_le _⟩ rfl dX4_best_51 (fun H locs hP hD hS => ?_)
          refine lv_lsub (pc := 54) hX hB dX4_best_54 ?_
          refine lv_aload_n (pc := 55) hX hB dX4_best_55 rfl (lv_at hl 0 rfl) ?_
          refine lv_iload_n (pc := 56) hX hB dX4_best_56 rfl (lv_at hl 1 rfl) ?_
          refine lv_iload_n (pc := 57) hX hB dX4_best_57 rfl (lv_at hl 3 rfl) ?_
          obtain ⟨o8, hc, hf⟩ := zs_bind hf
          refine zs_V (q := (RX4, TX4, 21)) (ci := 4) (q0 := 0) (b := a_T) (pc := 58) (As := [.int p1, .int x4.1]) (rest := [.long (o6 - o7)]) (st1 := [.long o8, .long (o6 - o7)]) (wc := [(a_T, .inr (4, [.ref a_T_st, .long v_T_above, .long v_T_below, .ref a_T_refused, .ref a_T_text, .int v_T_bytes, .int v_T_place, .int v_T_token, .int v_T_value, .int v_T_begins, .ref a_T_row, .int v_T_toldHolders, .ref a_T_points, .ref a_T_used, .ref a_T_ahead, .int v_T_undoMany, .long v_T_drawn, .ref a_T_isKept, .ref a_T_kept, .ref a_T_keptAhead, .ref a_T_keptMany])), (a_T_st, .inl (gI g, 27, .inl v_T_st))]) (wr := [(a_T_refused, .inl (gI g, 3, .inl v_T_refused))]) (w1 := [(a_T, .inr (4, [.ref a_T_st, .long v_T_above, .long v_T_below, .ref a_T_refused, .ref a_T_text, .int v_T_bytes, .int v_T_place, .int v_T_token, .int v_T_value, .int v_T_begins, .ref a_T_row, .int v_T_toldHolders, .ref a_T_points, .ref a_T_used, .ref a_T_ahead, .int v_T_undoMany, .long v_T_drawn, .ref a_T_isKept, .ref a_T_kept, .ref a_T_keptAhead, .ref a_T_keptMany])), (a_T_st, .inl (gI g, 27, .inl v_T_st))]) (w2 := [(a_T, .inr (4, [.ref a_T_st, .long v_T_above, .long v_T_below, .ref a_T_refused, .ref a_T_text, .int v_T_bytes, .int v_T_place, .int v_T_token, .int v_T_value, .int v_T_begins, .ref a_T_row, .int v_T_toldHolders, .ref a_T_points, .ref a_T_used, .ref a_T_ahead, .int v_T_undoMany, .long v_T_drawn, .ref a_T_isKept, .ref a_T_kept, .ref a_T_keptAhead, .ref a_T_keptMany])), (a_T_st, .inl (gI g, 27, .inl v_T_st)), (a_T_refused, .inl (gI g, 3, .inl v_T_refused))]) (ov := some (.long o8)) lb_X4_atLeast lk_X4_228 hX hB hM hO hT hE hP hD hS hA (c_X4_atLeast l g _ a_T a_T_refused a_T_text a_T_row a_T_points a_T_used a_T_ahead a_T_isKept a_T_kept a_T_keptAhead a_T_keptMany a_T_st v_T_above v_T_below v_T_bytes v_T_place v_T_token v_T_value v_T_begins v_T_toldHolders v_T_undoMany v_T_drawn v_T_st p1 x4.1 o8 hc) ⟨rfl, rfl⟩ ⟨Nat.le_of_ble_eq_true rfl, Nat.le_of_ble_eq_true rfl⟩ rfl rfl [0, 1] [2] [1, 2, 0] rfl rfl rfl rfl (by decide) rfl rfl rfl rfl hl.1 (Nat.le_of_ble_eq_true rfl) ⟨Nat.zero_le _, Nat.zero_le _⟩ rfl dX4_best_58 (fun H locs hP hD hS => ?_)
          refine lv_lsub (pc := 61) hX hB dX4_best_61 ?_
          refine lv_aload_n (pc := 62) hX hB dX4_best_62 rfl (lv_at hl 0 rfl) ?_
          refine lv_iload_n (pc := 63) hX hB dX4_best_63 rfl (lv_at hl 2 rfl) ?_
          refine lv_iload_n (pc := 64) hX hB dX4_best_64 rfl (lv_at hl 3 rfl) ?_
          obtain ⟨o9, hc, hf⟩ := zs_bind hf
          refine zs_V (q := (RX4, TX4, 21)) (ci := 4) (q0 := 0) (b := a_T) (pc := 65) (As := [.int p2, .int x4.1]) (rest := [.long ((o6 - o7) - o8)]) (st1 := [.long o9, .long ((o6 - o7) - o8)]) (wc := [(a_T, .inr (4, [.ref a_T_st, .long v_T_above, .long v_T_below, .ref a_T_refused, .ref a_T_text, .int v_T_bytes, .int v_T_place, .int v_T_token, .int v_T_value, .int v_T_begins, .ref a_T_row, .int v_T_toldHolders, .ref a_T_points, .ref a_T_used, .ref a_T_ahead, .int v_T_undoMany, .long v_T_drawn, .ref a_T_isKept, .ref a_T_kept, .ref a_T_keptAhead, .ref a_T_keptMany])), (a_T_st, .inl (gI g, 27, .inl v_T_st))]) (wr := [(a_T_refused, .inl (gI g, 3, .inl v_T_refused))]) (w1 := [(a_T, .inr (4, [.ref a_T_st, .long v_T_above, .long v_T_below, .ref a_T_refused, .ref a_T_text, .int v_T_bytes, .int v_T_place, .int v_T_token, .int v_T_value, .int v_T_begins, .ref a_T_row, .int v_T_toldHolders, .ref a_T_points, .ref a_T_used, .ref a_T_ahead, .int v_T_undoMany, .long v_T_drawn, .ref a_T_isKept, .ref a_T_kept, .ref a_T_keptAhead, .ref a_T_keptMany])), (a_T_st, .inl (gI g, 27, .inl v_T_st))]) (w2 := [(a_T, .inr (4, [.ref a_T_st, .long v_T_above, .long v_T_below, .ref a_T_refused, .ref a_T_text, .int v_T_bytes, .int v_T_place, .int v_T_token, .int v_T_value, .int v_T_begins, .ref a_T_row, .int v_T_toldHolders, .ref a_T_points, .ref a_T_used, .ref a_T_ahead, .int v_T_undoMany, .long v_T_drawn, .ref a_T_isKept, .ref a_T_kept, .ref a_T_keptAhead, .ref a_T_keptMany])), (a_T_st, .inl (gI g, 27, .inl v_T_st)), (a_T_refused, .inl (gI g, 3, .inl v_T_refused))]) (ov := some (.long o9)) lb_X4_atLeast lk_X4_228 hX hB hM hO hT hE hP hD hS hA (c_X4_atLeast l g _ a_T a_T_refused a_T_text a_T_row a_T_points a_T_used a_T_ahead a_T_isKept a_T_kept a_T_keptAhead a_T_keptMany a_T_st v_T_above v_T_below v_T_bytes v_T_place v_T_token v_T_value v_T_begins v_T_toldHolders v_T_undoMany v_T_drawn v_T_st p2 x4.1 o9 hc) ⟨rfl, rfl⟩ ⟨Nat.le_of_ble_eq_true rfl, Nat.le_of_ble_eq_true rfl⟩ rfl rfl [0, 1] [2] [1, 2, 0] rfl rfl rfl rfl (by decide) rfl rfl rfl rfl hl.1 (Nat.le_of_ble_eq_true rfl) ⟨Nat.zero_le _, Nat.zero_le _⟩ rfl dX4_best_65 (fun H locs hP hD hS => ?_)
          refine lv_ladd (pc := 68) hX hB dX4_best_68 ?_
          refine lv_lstore (pc := 69) (lv' := [(5, .long (((o6 - o7) - o8) + o9)), (0, .ref a_T), (1, .int p1), (2, .int p2), (3, .int x4.1), (4, .int x4.2)]) hX hB dX4_best_69 hl (by decide) rfl (fun ls hl => ?_)
          refine lv_lload (pc := 71) hX hB dX4_best_71 (lv_at hl 0 rfl) ?_
          refine lv_lconst (pc := 73) (v := 0) hX hB dX4_best_73 (by decide) ?_
          refine W.lcmp (pc := 74) hX hB dX4_best_74 ?_
          refine lv_if_lt (pc := 75) (tgt := 83) hX hB dX4_best_75 (by decide) (fun hq => ?_) (fun hq => ?_)
          · have hf := zs_ip hf hq
            refine lv_iload_n (pc := 83) hX hB dX4_best_83 rfl (lv_at hl 4 rfl) ?_
            refine lv_istore_n (pc := 84) (lv' := [(3, .int x4.1), (5, .long (((o6 - o7) - o8) + o9)), (0, .ref a_T), (1, .int p1), (2, .int p2), (4, .int x4.2)]) hX hB dX4_best_84 rfl hl (by decide) rfl (fun ls hl => ?_)
            refine lv_iinc (pc := 85) (v := x4.2 + (1 : Int32)) (lv' := [(4, .int (x4.2 + (1 : Int32))), (3, .int x4.1), (5, .long (((o6 - o7) - o8) + o9)), (0, .ref a_T), (1, .int p1), (2, .int p2)]) hX hB dX4_best_85 hl (k := 5) rfl rfl (by decide) rfl (fun ls hl => ?_)
            refine lv_goto (pc := 88) (tgt := 34) hX hB dX4_best_88 (by decide) ?_
            obtain rfl := Option.some.inj hf
            exact ih _ hr _ _ _ ⟨hP, hD, hS, lv_sub hl [3, 4, 5, 1, 0] rfl⟩
          · have hf := zs_in hf hq
            refine lv_iload (pc := 78) hX hB dX4_best_78 (lv_at hl 5 rfl) ?_
            refine lv_goto (pc := 80) (tgt := 84) hX hB dX4_best_80 (by decide) ?_
            refine lv_istore_n (pc := 84) (lv' := [(3, .int x4.2), (5, .long (((o6 - o7) - o8) + o9)), (0, .ref a_T), (1, .int p1), (2, .int p2), (4, .int x4.2)]) hX hB dX4_best_84 rfl hl (by decide) rfl (fun ls hl => ?_)
            refine lv_iinc (pc := 85) (v := x4.2 + (1 : Int32)) (lv' := [(4, .int (x4.2 + (1 : Int32))), (3, .int x4.2), (5, .long (((o6 - o7) - o8) + o9)), (0, .ref a_T), (1, .int p1), (2, .int p2)]) hX hB dX4_best_85 hl (k := 5) rfl rfl (by decide) rfl (fun ls hl => ?_)
            refine lv_goto (pc := 88) (tgt := 34) hX hB dX4_best_88 (by decide) ?_
            obtain rfl := Option.some.inj hf
            exact ih _ hr _ _ _ ⟨hP, hD, hS, lv_sub hl [3, 4, 5, 1, 0] rfl⟩
    · have hf := zs_ip hf hq
      refine lv_aload_n (pc := 24) hX hB dX4_best_24 rfl (lv_at hl 0 rfl) ?_
      obtain ⟨o10, hc, hf⟩ := zs_bind hf
      refine zs_V (q := (RX4, TX4, 21)) (ci := 4) (q0 := 0) (b := a_T) (pc := 25) (As := []) (rest := []) (st1 := [.int o10.1]) (wc := [(a_T, .inr (4, [.ref a_T_st, .long v_T_above, .long v_T_below, .ref a_T_refused, .ref a_T_text, .int v_T_bytes, .int v_T_place, .int v_T_token, .int v_T_value, .int v_T_begins, .ref a_T_row, .int v_T_toldHolders, .ref a_T_points, .ref a_T_used, .ref a_T_ahead, .int v_T_undoMany, .long v_T_drawn, .ref a_T_isKept, .ref a_T_kept, .ref a_T_keptAhead, .ref a_T_keptMany])), (a_T_refused, .inl (gI g, 3, .inl v_T_refused))]) (wr := [(a_T_st, .inl (gI g, 27, .inl v_T_st))]) (w1 := [(a_T, .inr (4, [.ref a_T_st, .long v_T_above, .long v_T_below, .ref a_T_refused, .ref a_T_text, .int v_T_bytes, .int v_T_place, .int v_T_token, .int v_T_value, .int v_T_begins, .ref a_T_row, .int v_T_toldHolders, .ref a_T_points, .ref a_T_used, .ref a_T_ahead, .int v_T_undoMany, .long v_T_drawn, .ref a_T_isKept, .ref a_T_kept, .ref a_T_keptAhead, .ref a_T_keptMany])), (a_T_refused, .inl (gI g, 3, .inl o10.2))]) (w2 := [(a_T, .inr (4, [.ref a_T_st, .long v_T_above, .long v_T_below, .ref a_T_refused, .ref a_T_text, .int v_T_bytes, .int v_T_place, .int v_T_token, .int v_T_value, .int v_T_begins, .ref a_T_row, .int v_T_toldHolders, .ref a_T_points, .ref a_T_used, .ref a_T_ahead, .int v_T_undoMany, .long v_T_drawn, .ref a_T_isKept, .ref a_T_kept, .ref a_T_keptAhead, .ref a_T_keptMany])), (a_T_st, .inl (gI g, 27, .inl v_T_st)), (a_T_refused, .inl (gI g, 3, .inl o10.2))]) (ov := some (.int o10.1)) lb_X4_bad lk_X4_64 hX hB hM hO hT hE hP hD hS hA (c_X4_bad l g _ a_T a_T_st a_T_text a_T_row a_T_points a_T_used a_T_ahead a_T_isKept a_T_kept a_T_keptAhead a_T_keptMany a_T_refused v_T_above v_T_below v_T_bytes v_T_place v_T_token v_T_value v_T_begins v_T_toldHolders v_T_undoMany v_T_drawn v_T_refused o10 hc) ⟨rfl, rfl⟩ ⟨Nat.le_of_ble_eq_true rfl, Nat.le_of_ble_eq_true rfl⟩ rfl rfl [0, 2] [1] [1, 0, 2] rfl rfl rfl rfl (by decide) rfl rfl rfl rfl hl.1 (Nat.le_of_ble_eq_true rfl) ⟨Nat.zero_le _, Nat.zero_le _⟩ rfl dX4_best_25 (fun H locs hP hD hS => ?_)
      obtain rfl := Option.some.inj hf
      exact zs_iret (pc := 28) hX hB hR hK hP hD hS dX4_best_28

def f_X4_byteAt (v_T_bytes : Int32) (v_T_text : Nat → Int32) (p1 : Int32) : Option (Int32) :=
  if v_T_bytes ≤ p1 then (some (-1 : Int32)) else (gd (inb p1 150) (some (v_T_text p1.toNatClampNeg)))
set_option maxHeartbeats 4000000 in
set_option maxRecDepth 100000 in
theorem c_X4_byteAt (l : Launch) (g : GG) (sz : Nat) (a_T a_T_st a_T_refused a_T_row a_T_points a_T_used a_T_ahead a_T_isKept a_T_kept a_T_keptAhead a_T_keptMany a_T_text : Nat) (v_T_above : Int64) (v_T_below : Int64) (v_T_bytes : Int32) (v_T_place : Int32) (v_T_token : Int32) (v_T_value : Int32) (v_T_begins : Int32) (v_T_toldHolders : Int32) (v_T_undoMany : Int32) (v_T_drawn : Int64) (v_T_text : Nat → Int32) (p1 : Int32) (o : Int32) (hf : f_X4_byteAt v_T_bytes v_T_text p1 = some o) : Met l yX4_byteAt (Cond.code yX4_byteAt cX4_byteAt 2 (some .int) :: TB) { frames := 0, cells := 0, slots := 0, locals := 0 } (Pst g [(a_T, .inr (4, [.ref a_T_st, .long v_T_above, .long v_T_below, .ref a_T_refused, .ref a_T_text, .int v_T_bytes, .int v_T_place, .int v_T_token, .int v_T_value, .int v_T_begins, .ref a_T_row, .int v_T_toldHolders, .ref a_T_points, .ref a_T_used, .ref a_T_ahead, .int v_T_undoMany, .long v_T_drawn, .ref a_T_isKept, .ref a_T_kept, .ref a_T_keptAhead, .ref a_T_keptMany])), (a_T_text, .inl (gI g, 150, .inl v_T_text))] [.ref a_T, .int p1] sz) (Qst g [(a_T, .inr (4, [.ref a_T_st, .long v_T_above, .long v_T_below, .ref a_T_refused, .ref a_T_text, .int v_T_bytes, .int v_T_place, .int v_T_token, .int v_T_value, .int v_T_begins, .ref a_T_row, .int v_T_toldHolders, .ref a_T_points, .ref a_T_used, .ref a_T_ahead, .int v_T_undoMany, .long v_T_drawn, .ref a_T_isKept, .ref a_T_kept, .ref a_T_keptAhead, .ref a_T_keptMany])), (a_T_text, .inl (gI g, 150, .inl v_T_text))] (some (.int o)) (va_A [(a_T, .inr (4, [.ref a_T_st, .long v_T_above, .long v_T_below, .ref a_T_refused, .ref a_T_text, .int v_T_bytes, .int v_T_place, .int v_T_token, .int v_T_value, .int v_T_begins, .ref a_T_row, .int v_T_toldHolders, .ref a_T_points, .ref a_T_used, .ref a_T_ahead, .int v_T_undoMany, .long v_T_drawn, .ref a_T_isKept, .ref a_T_kept, .ref a_T_keptAhead, .ref a_T_keptMany])), (a_T_text, .inl (gI g, 150, .inl v_T_text))] sz)) 0 0 (va_A [(a_T, .inr (4, [.ref a_T_st, .long v_T_above, .long v_T_below, .ref a_T_refused, .ref a_T_text, .int v_T_bytes, .int v_T_place, .int v_T_token, .int v_T_value, .int v_T_begins, .ref a_T_row, .int v_T_toldHolders, .ref a_T_points, .ref a_T_used, .ref a_T_ahead, .int v_T_undoMany, .long v_T_drawn, .ref a_T_isKept, .ref a_T_kept, .ref a_T_keptAhead, .ref a_T_keptMany])), (a_T_text, .inl (gI g, 150, .inl v_T_text))] sz) := by
  unfold f_X4_byteAt at hf
  refine zs_met (own := RX4) (plainFor_of_name (by decide)) rfl (Nat.le_of_ble_eq_true rfl) ?_
  intro p e s m below meth c A ls hX hB hR hM hT hO hK hN hA hE hP hD hS hl
  have hl : lv_has ls 2 [(0, .ref a_T), (1, .int p1)] := hl
  refine lv_iload_n (pc := 0) hX hB dX4_byteAt_0 rfl (lv_at hl 1 rfl) ?_
  refine lv_aload_n (pc := 1) hX hB dX4_byteAt_1 rfl (lv_at hl 0 rfl) ?_
  refine gf_X4_80 (pc := 2) (v := .int v_T_bytes) hX hB hT hO hE hP 0 rfl rfl dX4_byteAt_2 ?_
  refine lv_icmp_ge (pc := 5) (tgt := 17) hX hB dX4_byteAt_5 (by decide) (fun hq => ?_) (fun hq => ?_)
  · have hf := zs_ip hf hq
    refine lv_iconst (pc := 17) (v := -1) hX hB dX4_byteAt_17 (by decide) ?_
    obtain rfl := Option.some.inj hf
    exact zs_iret (pc := 18) hX hB hR hK hP hD hS dX4_byteAt_18
  · have hf := zs_in hf hq
    refine lv_aload_n (pc := 8) hX hB dX4_byteAt_8 rfl (lv_at hl 0 rfl) ?_
    refine gf_X4_20 (pc := 9) (v := .ref a_T_text) hX hB hT hO hE hP 0 rfl rfl dX4_byteAt_9 ?_
    refine lv_iload_n (pc := 12) hX hB dX4_byteAt_12 rfl (lv_at hl 1 rfl) ?_
    obtain ⟨hg, hf⟩ := zs_gd hf
    refine va_iald (pc := 13) hX hB hE.1 hP 1 0 rfl rfl (zs_inb hg) dX4_byteAt_13 ?_
    refine lv_goto (pc := 14) (tgt := 18) hX hB dX4_byteAt_14 (by decide) ?_
    obtain rfl := Option.some.inj hf
    exact zs_iret (pc := 18) hX hB hR hK hP hD hS dX4_byteAt_18

def f_X4_isWhat (p1 : Int32) : Option (Int32) :=
  (f_X4_in p1.toInt64 (0 : Int64) (1 : Int64)).bind (fun o1 => gd (bz o1) (some o1))
set_option maxHeartbeats 4000000 in
set_option maxRecDepth 100000 in
theorem c_X4_isWhat (l : Launch) (g : GG) (sz : Nat) (p1 : Int32) (o : Int32) (hf : f_X4_isWhat p1 = some o) : Met l yX4_isWhat (Cond.code yX4_isWhat cX4_isWhat 1 (some .boolean) :: TB) { frames := 1, cells := 0, slots := 0, locals := 25 } (Pst g [] [.int p1] sz) (Qst g [] (some (.int o)) (va_A [] sz)) 0 0 (va_A [] sz) := by
  unfold f_X4_isWhat at hf
  refine zs_met (own := RX4) (plainFor_of_name (by decide)) rfl (Nat.le_of_ble_eq_true rfl) ?_
  intro p e s m below meth c A ls hX hB hR hM hT hO hK hN hA hE hP hD hS hl
  have hl : lv_has ls 1 [(0, .int p1)] := hl
  refine lv_iload_n (pc := 0) hX hB dX4_isWhat_0 rfl (lv_at hl 0 rfl) ?_
  refine lv_i2l (pc := 1) (v := p1.toInt64) hX hB dX4_isWhat_1 rfl ?_
  refine lv_lconst (pc := 2) (v := 0) hX hB dX4_isWhat_2 (by decide) ?_
  refine lv_lconst (pc := 3) (v := 1) hX hB dX4_isWhat_3 (by decide) ?_
  obtain ⟨o1, hc, hf⟩ := zs_bind hf
  refine zs_S (pc := 4) (As := [.long p1.toInt64, .long (0 : Int64), .long (1 : Int64)]) (rest := []) (st1 := [.int o1]) (wc := []) (wr := []) (w1 := []) (w2 := []) (ov := some (.int o1)) lb_X4_in lk_X4_52 hX hB hM hO hT hE hP hD hS hA (c_X4_in l g _ p1.toInt64 (0 : Int64) (1 : Int64) o1 hc) ⟨rfl, rfl⟩ ⟨Nat.le_of_ble_eq_true rfl, Nat.le_of_ble_eq_true rfl⟩ [] [] [] rfl rfl rfl rfl (by decide) rfl rfl rfl rfl hl.1 (Nat.le_of_ble_eq_true rfl) ⟨Nat.zero_le _, Nat.zero_le _⟩ rfl dX4_isWhat_4 (fun H locs hP hD hS => ?_)
  obtain ⟨hg, hf⟩ := zs_gd hf
  obtain rfl := Option.some.inj hf
  exact zs_zret (v := o1) (pc := 7) hX hB hR hK (zs_bz hg).1 hP hD hS dX4_isWhat_7

def f_X4_isParting (v_T_st : Nat → Int32) (p1 : Int32) : Option (Int32) :=
  (f_X4_ones p1).bind (fun o1 => gd (inb (1 : Int32) 27) (if o1 < (v_T_st (1 : Int32).toNatClampNeg) then (some (0 : Int32)) else (gd (inb (8 : Int32) 27) ((f_X4_ones p1).bind (fun o2 => gd (inb (1 : Int32) 27) (if ((v_T_st (8 : Int32).toNatClampNeg) - o2) < (v_T_st (1 : Int32).toNatClampNeg) then (some (0 : Int32)) else (some (1 : Int32))))))))
set_option maxHeartbeats 4000000 in
set_option maxRecDepth 100000 in
theorem c_X4_isParting (l : Launch) (g : GG) (sz : Nat) (a_T a_T_refused a_T_text a_T_row a_T_points a_T_used a_T_ahead a_T_isKept a_T_kept a_T_keptAhead a_T_keptMany a_T_st : Nat) (v_T_above : Int64) (v_T_below : Int64) (v_T_bytes : Int32) (v_T_place : Int32) (v_T_token : Int32) (v_T_value : Int32) (v_T_begins : Int32) (v_T_toldHolders : Int32) (v_T_undoMany : Int32) (v_T_drawn : Int64) (v_T_st : Nat → Int32) (p1 : Int32) (o : Int32) (hf : f_X4_isParting v_T_st p1 = some o) : Met l yX4_isParting (Cond.code yX4_isParting cX4_isParting 2 (some .boolean) :: TB) { frames := 1, cells := 0, slots := 0, locals := 22 } (Pst g [(a_T, .inr (4, [.ref a_T_st, .long v_T_above, .long v_T_below, .ref a_T_refused, .ref a_T_text, .int v_T_bytes, .int v_T_place, .int v_T_token, .int v_T_value, .int v_T_begins, .ref a_T_row, .int v_T_toldHolders, .ref a_T_points, .ref a_T_used, .ref a_T_ahead, .int v_T_undoMany, .long v_T_drawn, .ref a_T_isKept, .ref a_T_kept, .ref a_T_keptAhead, .ref a_T_keptMany])), (a_T_st, .inl (gI g, 27, .inl v_T_st))] [.ref a_T, .int p1] sz) (Qst g [(a_T, .inr (4, [.ref a_T_st, .long v_T_above, .long v_T_below, .ref a_T_refused, .ref a_T_text, .int v_T_bytes, .int v_T_place, .int v_T_token, .int v_T_value, .int v_T_begins, .ref a_T_row, .int v_T_toldHolders, .ref a_T_points, .ref a_T_used, .ref a_T_ahead, .int v_T_undoMany, .long v_T_drawn, .ref a_T_isKept, .ref a_T_kept, .ref a_T_keptAhead, .ref a_T_keptMany])), (a_T_st, .inl (gI g, 27, .inl v_T_st))] (some (.int o)) (va_A [(a_T, .inr (4, [.ref a_T_st, .long v_T_above, .long v_T_below, .ref a_T_refused, .ref a_T_text, .int v_T_bytes, .int v_T_place, .int v_T_token, .int v_T_value, .int v_T_begins, .ref a_T_row, .int v_T_toldHolders, .ref a_T_points, .ref a_T_used, .ref a_T_ahead, .int v_T_undoMany, .long v_T_drawn, .ref a_T_isKept, .ref a_T_kept, .ref a_T_keptAhead, .ref a_T_keptMany])), (a_T_st, .inl (gI g, 27, .inl v_T_st))] sz)) 0 0 (va_A [(a_T, .inr (4, [.ref a_T_st, .long v_T_above, .long v_T_below, .ref a_T_refused, .ref a_T_text, .int v_T_bytes, .int v_T_place, .int v_T_token, .int v_T_value, .int v_T_begins, .ref a_T_row, .int v_T_toldHolders, .ref a_T_points, .ref a_T_used, .ref a_T_ahead, .int v_T_undoMany, .long v_T_drawn, .ref a_T_isKept, .ref a_T_kept, .ref a_T_keptAhead, .ref a_T_keptMany])), (a_T_st, .inl (gI g, 27, .inl v_T_st))] sz) := by
  unfold f_X4_isParting at hf
  refine zs_met (own := RX4) (plainFor_of_name (by decide)) rfl (Nat.le_of_ble_eq_true rfl) ?_
  intro p e s m below meth c A ls hX hB hR hM hT hO hK hN hA hE hP hD hS hl
  have hl : lv_has ls 2 [(0, .ref a_T), (1, .int p1)] := hl
  refine lv_iload_n (pc := 0) hX hB dX4_isParting_0 rfl (lv_at hl 1 rfl) ?_
  obtain ⟨o1, hc, hf⟩ := zs_bind hf
  refine zs_S (pc := 1) (As := [.int p1]) (rest := []) (st1 := [.int o1]) (wc := []) (wr := [(a_T, .inr (4, [.ref a_T_st, .long v_T_above, .long v_T_below, .ref a_T_refused, .ref a_T_text, .int v_T_bytes, .int v_T_place, .int v_T_token, .int v_T_value, .int v_T_begins, .ref a_T_row, .int v_T_toldHolders, .ref a_T_points, .ref a_T_used, .ref a_T_ahead, .int v_T_undoMany, .long v_T_drawn, .ref a_T_isKept, .ref a_T_kept, .ref a_T_keptAhead, .ref a_T_keptMany])), (a_T_st, .inl (gI g, 27, .inl v_T_st))]) (w1 := []) (w2 := [(a_T, .inr (4, [.ref a_T_st, .long v_T_above, .long v_T_below, .ref a_T_refused, .ref a_T_text, .int v_T_bytes, .int v_T_place, .int v_T_token, .int v_T_value, .int v_T_begins, .ref a_T_row, .int v_T_toldHolders, .ref a_T_points, .ref a_T_used, .ref a_T_ahead, .int v_T_undoMany, .long v_T_drawn, .ref a_T_isKept, .ref a_T_kept, .ref a_T_keptAhead, .ref a_T_keptMany])), (a_T_st, .inl (gI g, 27, .inl v_T_st))]) (ov := some (.int o1)) lb_X4_ones lk_X4_138 hX hB hM hO hT hE hP hD hS hA (c_X4_ones l g _ p1 o1 hc) ⟨rfl, rfl⟩ ⟨Nat.le_of_ble_eq_true rfl, Nat.le_of_ble_eq_true rfl⟩ [] [0, 1] [0, 1] rfl rfl rfl rfl (by decide) rfl rfl rfl rfl hl.1 (Nat.le_of_ble_eq_true rfl) ⟨Nat.zero_le _, Nat.zero_le _⟩ rfl dX4_isParting_1 (fun H locs hP hD hS => ?_)
  refine lv_aload_n (pc := 4) hX hB dX4_isParting_4 rfl (lv_at hl 0 rfl) ?_
  refine gf_X4_7 (pc := 5) (v := .ref a_T_st) hX hB hT hO hE hP 0 rfl rfl dX4_isParting_5 ?_
  refine lv_iconst (pc := 8) (v := 1) hX hB dX4_isParting_8 (by decide) ?_
  obtain ⟨hg, hf⟩ := zs_gd hf
  refine va_iald (pc := 9) hX hB hE.1 hP 1 0 rfl rfl (zs_inb hg) dX4_isParting_9 ?_
  refine lv_icmp_lt (pc := 10) (tgt := 38) hX hB dX4_isParting_10 (by decide) (fun hq => ?_) (fun hq => ?_)
  · have hf := zs_ip hf hq
    refine lv_iconst (pc := 38) (v := 0) hX hB dX4_isParting_38 (by decide) ?_
    obtain rfl := Option.some.inj hf
    exact zs_zret (v := (0 : Int32)) (pc := 39) hX hB hR hK rfl hP hD hS dX4_isParting_39
  · have hf := zs_in hf hq
    refine lv_aload_n (pc := 13) hX hB dX4_isParting_13 rfl (lv_at hl 0 rfl) ?_
    refine gf_X4_7 (pc := 14) (v := .ref a_T_st) hX hB hT hO hE hP 0 rfl rfl dX4_isParting_14 ?_
    refine lv_bipush (pc := 17) (v := 8) hX hB dX4_isParting_17 (by decide) ?_
    obtain ⟨hg, hf⟩ := zs_gd hf
    refine va_iald (pc := 19) hX hB hE.1 hP 1 0 rfl rfl (zs_inb hg) dX4_isParting_19 ?_
    refine lv_iload_n (pc := 20) hX hB dX4_isParting_20 rfl (lv_at hl 1 rfl) ?_
    obtain ⟨o2, hc, hf⟩ := zs_bind hf
    refine zs_S (pc := 21) (As := [.int p1]) (rest := [.int (v_T_st (8 : Int32).toNatClampNeg)]) (st1 := [.int o2, .int (v_T_st (8 : Int32).toNatClampNeg)]) (wc := []) (wr := [(a_T, .inr (4, [.ref a_T_st, .long v_T_above, .long v_T_below, .ref a_T_refused, .ref a_T_text, .int v_T_bytes, .int v_T_place, .int v_T_token, .int v_T_value, .int v_T_begins, .ref a_T_row, .int v_T_toldHolders, .ref a_T_points, .ref a_T_used, .ref a_T_ahead, .int v_T_undoMany, .long v_T_drawn, .ref a_T_isKept, .ref a_T_kept, .ref a_T_keptAhead, .ref a_T_keptMany])), (a_T_st, .inl (gI g, 27, .inl v_T_st))]) (w1 := []) (w2 := [(a_T, .inr (4, [.ref a_T_st, .long v_T_above, .long v_T_below, .ref a_T_refused, .ref a_T_text, .int v_T_bytes, .int v_T_place, .int v_T_token, .int v_T_value, .int v_T_begins, .ref a_T_row, .int v_T_toldHolders, .ref a_T_points, .ref a_T_used, .ref a_T_ahead, .int v_T_undoMany, .long v_T_drawn, .ref a_T_isKept, .ref a_T_kept, .ref a_T_keptAhead, .ref a_T_keptMany])), (a_T_st, .inl (gI g, 27, .inl v_T_st))]) (ov := some (.int o2)) lb_X4_ones lk_X4_138 hX hB hM hO hT hE hP hD hS hA (c_X4_ones l g _ p1 o2 hc) ⟨rfl, rfl⟩ ⟨Nat.le_of_ble_eq_true rfl, Nat.le_of_ble_eq_true rfl⟩ [] [0, 1] [0, 1] rfl rfl rfl rfl (by decide) rfl rfl rfl rfl hl.1 (Nat.le_of_ble_eq_true rfl) ⟨Nat.zero_le _, Nat.zero_le _⟩ rfl dX4_isParting_21 (fun H locs hP hD hS => ?_)
    refine lv_isub (pc := 24) hX hB dX4_isParting_24 ?_
    refine lv_aload_n (pc := 25) hX hB dX4_isParting_25 rfl (lv_at hl 0 rfl) ?_
    refine gf_X4_7 (pc := 26) (v := .ref a_T_st) hX hB hT hO hE hP 0 rfl rfl dX4_isParting_26 ?_
    refine lv_iconst (pc := 29) (v := 1) hX hB dX4_isParting_29 (by decide) ?_
    obtain ⟨hg, hf⟩ := zs_gd hf
    refine va_iald (pc := 30) hX hB hE.1 hP 1 0 rfl rfl (zs_inb hg) dX4_isParting_30 ?_
    refine lv_icmp_lt (pc := 31) (tgt := 38) hX hB dX4_isParting_31 (by decide) (fun hq => ?_) (fun hq => ?_)
    · have hf := zs_ip hf hq
      refine lv_iconst (pc := 38) (v := 0) hX hB dX4_isParting_38 (by decide) ?_
      obtain rfl := Option.some.inj hf
      exact zs_zret (v := (0 : Int32)) (pc := 39) hX hB hR hK rfl hP hD hS dX4_isParting_39
    · have hf := zs_in hf hq
      refine lv_iconst (pc := 34) (v := 1) hX hB dX4_isParting_34 (by decide) ?_
      refine lv_goto (pc := 35) (tgt := 39) hX hB dX4_isParting_35 (by decide) ?_
      obtain rfl := Option.some.inj hf
      exact zs_zret (v := (1 : Int32)) (pc := 39) hX hB hR hK rfl hP hD hS dX4_isParting_39

def b_X4_cars_43 (v_T_st : Nat → Int32) (x4 : Int32 × Int32) : Option ((Int32 × Int32) ⊕ (Int32)) :=
  (f_X4_everybody v_T_st).bind (fun o6 => if o6 < x4.2 then (some (Sum.inr x4.1)) else ((f_X4_isParting v_T_st x4.2).bind (fun o7 => if o7 = (0 : Int32) then (some (Sum.inl (x4.1 + (0 : Int32), x4.2 + (1 : Int32)))) else (some (Sum.inl (x4.1 + (1 : Int32), x4.2 + (1 : Int32)))))))
def f_X4_cars (v_T_st : Nat → Int32) (v_T_refused : Nat → Int32) (p1 : Int32) (p2 : Int32) : Option (Int32 × (Nat → Int32)) :=
  (f_X4_areHolders v_T_st p1).bind (fun o1 => if o1 = (0 : Int32) then ((f_X4_bad v_T_refused).bind (fun o2 => some (o2.1, o2.2))) else ((f_X4_isWhat p2).bind (fun o3 => if o3 = (0 : Int32) then ((f_X4_bad v_T_refused).bind (fun o9 => some (o9.1, o9.2))) else (if p2 = (0 : Int32) then ((f_X4_isParting v_T_st p1).bind (fun o8 => if o8 = (0 : Int32) then (some ((0 : Int32), v_T_refused)) else (some ((1 : Int32), v_T_refused)))) else ((lp (b_X4_cars_43 v_T_st) 200 ((0 : Int32), (0 : Int32))).bind (fun y5 => some (y5, v_T_refused)))))))
set_option maxHeartbeats 4000000 in
set_option maxRecDepth 100000 in
theorem c_X4_cars (l : Launch) (g : GG) (sz : Nat) (a_T a_T_text a_T_row a_T_points a_T_used a_T_ahead a_T_isKept a_T_kept a_T_keptAhead a_T_keptMany a_T_st a_T_refused : Nat) (v_T_above : Int64) (v_T_below : Int64) (v_T_bytes : Int32) (v_T_place : Int32) (v_T_token : Int32) (v_T_value : Int32) (v_T_begins : Int32) (v_T_toldHolders : Int32) (v_T_undoMany : Int32) (v_T_drawn : Int64) (v_T_st : Nat → Int32) (v_T_refused : Nat → Int32) (p1 : Int32) (p2 : Int32) (o : Int32 × (Nat → Int32)) (hf : f_X4_cars v_T_st v_T_refused p1 p2 = some o) : Met l yX4_cars (Cond.code yX4_cars cX4_cars 5 (some .int) :: TB) { frames := 2, cells := 0, slots := 0, locals := 46 } (Pst g [(a_T, .inr (4, [.ref a_T_st, .long v_T_above, .long v_T_below, .ref a_T_refused, .ref a_T_text, .int v_T_bytes, .int v_T_place, .int v_T_token, .int v_T_value, .int v_T_begins, .ref a_T_row, .int v_T_toldHolders, .ref a_T_points, .ref a_T_used, .ref a_T_ahead, .int v_T_undoMany, .long v_T_drawn, .ref a_T_isKept, .ref a_T_kept, .ref a_T_keptAhead, .ref a_T_keptMany])), (a_T_st, .inl (gI g, 27, .inl v_T_st)), (a_T_refused, .inl (gI g, 3, .inl v_T_refused))] [.ref a_T, .int p1, .int p2] sz) (Qst g [(a_T, .inr (4, [.ref a_T_st, .long v_T_above, .long v_T_below, .ref a_T_refused, .ref a_T_text, .int v_T_bytes, .int v_T_place, .int v_T_token, .int v_T_value, .int v_T_begins, .ref a_T_row, .int v_T_toldHolders, .ref a_T_points, .ref a_T_used, .ref a_T_ahead, .int v_T_undoMany, .long v_T_drawn, .ref a_T_isKept, .ref a_T_kept, .ref a_T_keptAhead, .ref a_T_keptMany])), (a_T_st, .inl (gI g, 27, .inl v_T_st)), (a_T_refused, .inl (gI g, 3, .inl o.2))] (some (.int o.1)) (va_A [(a_T, .inr (4, [.ref a_T_st, .long v_T_above, .long v_T_below, .ref a_T_refused, .ref a_T_text, .int v_T_bytes, .int v_T_place, .int v_T_token, .int v_T_value, .int v_T_begins, .ref a_T_row, .int v_T_toldHolders, .ref a_T_points, .ref a_T_used, .ref a_T_ahead, .int v_T_undoMany, .long v_T_drawn, .ref a_T_isKept, .ref a_T_kept, .ref a_T_keptAhead, .ref a_T_keptMany])), (a_T_st, .inl (gI g, 27, .inl v_T_st)), (a_T_refused, .inl (gI g, 3, .inl v_T_refused))] sz)) 0 0 (va_A [(a_T, .inr (4, [.ref a_T_st, .long v_T_above, .long v_T_below, .ref a_T_refused, .ref a_T_text, .int v_T_bytes, .int v_T_place, .int v_T_token, .int v_T_value, .int v_T_begins, .ref a_T_row, .int v_T_toldHolders, .ref a_T_points, .ref a_T_used, .ref a_T_ahead, .int v_T_undoMany, .long v_T_drawn, .ref a_T_isKept, .ref a_T_kept, .ref a_T_keptAhead, .ref a_T_keptMany])), (a_T_st, .inl (gI g, 27, .inl v_T_st)), (a_T_refused, .inl (gI g, 3, .inl v_T_refused))] sz) := by
  unfold f_X4_cars at hf
  refine zs_met (own := RX4) (plainFor_of_name (by decide)) rfl (Nat.le_of_ble_eq_true rfl) ?_
  intro p e s m below meth c A ls hX hB hR hM hT hO hK hN hA hE hP hD hS hl
  have hl : lv_has ls 5 [(0, .ref a_T), (1, .int p1), (2, .int p2)] := hl
  refine lv_aload_n (pc := 0) hX hB dX4_cars_0 rfl (lv_at hl 0 rfl) ?_
  refine lv_iload_n (pc := 1) hX hB dX4_cars_1 rfl (lv_at hl 1 rfl) ?_
  obtain ⟨o1, hc, hf⟩ := zs_bind hf
  refine zs_V (q := (RX4, TX4, 21)) (ci := 4) (q0 := 0) (b := a_T) (pc := 2) (As := [.int p1]) (rest := []) (st1 := [.int o1]) (wc := [(a_T, .inr (4, [.ref a_T_st, .long v_T_above, .long v_T_below, .ref a_T_refused, .ref a_T_text, .int v_T_bytes, .int v_T_place, .int v_T_token, .int v_T_value, .int v_T_begins, .ref a_T_row, .int v_T_toldHolders, .ref a_T_points, .ref a_T_used, .ref a_T_ahead, .int v_T_undoMany, .long v_T_drawn, .ref a_T_isKept, .ref a_T_kept, .ref a_T_keptAhead, .ref a_T_keptMany])), (a_T_st, .inl (gI g, 27, .inl v_T_st))]) (wr := [(a_T_refused, .inl (gI g, 3, .inl v_T_refused))]) (w1 := [(a_T, .inr (4, [.ref a_T_st, .long v_T_above, .long v_T_below, .ref a_T_refused, .ref a_T_text, .int v_T_bytes, .int v_T_place, .int v_T_token, .int v_T_value, .int v_T_begins, .ref a_T_row, .int v_T_toldHolders, .ref a_T_points, .ref a_T_used, .ref a_T_ahead, .int v_T_undoMany, .long v_T_drawn, .ref a_T_isKept, .ref a_T_kept, .ref a_T_keptAhead, .ref a_T_keptMany])), (a_T_st, .inl (gI g, 27, .inl v_T_st))]) (w2 := [(a_T, .inr (4, [.ref a_T_st, .long v_T_above, .long v_T_below, .ref a_T_refused, .ref a_T_text, .int v_T_bytes, .int v_T_place, .int v_T_token, .int v_T_value, .int v_T_begins, .ref a_T_row, .int v_T_toldHolders, .ref a_T_points, .ref a_T_used, .ref a_T_ahead, .int v_T_undoMany, .long v_T_drawn, .ref a_T_isKept, .ref a_T_kept, .ref a_T_keptAhead, .ref a_T_keptMany])), (a_T_st, .inl (gI g, 27, .inl v_T_st)), (a_T_refused, .inl (gI g, 3, .inl v_T_refused))]) (ov := some (.int o1)) lb_X4_areHolders lk_X4_163 hX hB hM hO hT hE hP hD hS hA (c_X4_areHolders l g _ a_T a_T_refused a_T_text a_T_row a_T_points a_T_used a_T_ahead a_T_isKept a_T_kept a_T_keptAhead a_T_keptMany a_T_st v_T_above v_T_below v_T_bytes v_T_place v_T_token v_T_value v_T_begins v_T_toldHolders v_T_undoMany v_T_drawn v_T_st p1 o1 hc) ⟨rfl, rfl⟩ ⟨Nat.le_of_ble_eq_true rfl, Nat.le_of_ble_eq_true rfl⟩ rfl rfl [0, 1] [2] [1, 2, 0] rfl rfl rfl rfl (by decide) rfl rfl rfl rfl hl.1 (Nat.le_of_ble_eq_true rfl) ⟨Nat.zero_le _, Nat.zero_le _⟩ rfl dX4_cars_2 (fun H locs hP hD hS => ?_)
  refine lv_if_eq (pc := 5) (tgt := 15) hX hB dX4_cars_5 (by decide) (fun hq => ?_) (fun hq => ?_)
  · have hf := zs_ip hf hq
    refine lv_aload_n (pc := 15) hX hB dX4_cars_15 rfl (lv_at hl 0 rfl) ?_
    obtain ⟨o2, hc, hf⟩ := zs_bind hf
    refine zs_V (q := (RX4, TX4, 21)) (ci := 4) (q0 := 0) (b := a_T) (pc := 16) (As := []) (rest := []) (st1 := [.int o2.1]) (wc := [(a_T, .inr (4, [.ref a_T_st, .long v_T_above, .long v_T_below, .ref a_T_refused, .ref a_T_text, .int v_T_bytes, .int v_T_place, .int v_T_token, .int v_T_value, .int v_T_begins, .ref a_T_row, .int v_T_toldHolders, .ref a_T_points, .ref a_T_used, .ref a_T_ahead, .int v_T_undoMany, .long v_T_drawn, .ref a_T_isKept, .ref a_T_kept, .ref a_T_keptAhead, .ref a_T_keptMany])), (a_T_refused, .inl (gI g, 3, .inl v_T_refused))]) (wr := [(a_T_st, .inl (gI g, 27, .inl v_T_st))]) (w1 := [(a_T, .inr (4, [.ref a_T_st, .long v_T_above, .long v_T_below, .ref a_T_refused, .ref a_T_text, .int v_T_bytes, .int v_T_place, .int v_T_token, .int v_T_value, .int v_T_begins, .ref a_T_row, .int v_T_toldHolders, .ref a_T_points, .ref a_T_used, .ref a_T_ahead, .int v_T_undoMany, .long v_T_drawn, .ref a_T_isKept, .ref a_T_kept, .ref a_T_keptAhead, .ref a_T_keptMany])), (a_T_refused, .inl (gI g, 3, .inl o2.2))]) (w2 := [(a_T, .inr (4, [.ref a_T_st, .long v_T_above, .long v_T_below, .ref a_T_refused, .ref a_T_text, .int v_T_bytes, .int v_T_place, .int v_T_token, .int v_T_value, .int v_T_begins, .ref a_T_row, .int v_T_toldHolders, .ref a_T_points, .ref a_T_used, .ref a_T_ahead, .int v_T_undoMany, .long v_T_drawn, .ref a_T_isKept, .ref a_T_kept, .ref a_T_keptAhead, .ref a_T_keptMany])), (a_T_st, .inl (gI g, 27, .inl v_T_st)), (a_T_refused, .inl (gI g, 3, .inl o2.2))]) (ov := some (.int o2.1)) lb_X4_bad lk_X4_64 hX hB hM hO hT hE hP hD hS hA (c_X4_bad l g _ a_T a_T_st a_T_text a_T_row a_T_points a_T_used a_T_ahead a_T_isKept a_T_kept a_T_keptAhead a_T_keptMany a_T_refused v_T_above v_T_below v_T_bytes v_T_place v_T_token v_T_value v_T_begins v_T_toldHolders v_T_undoMany v_T_drawn v_T_refused o2 hc) ⟨rfl, rfl⟩ ⟨Nat.le_of_ble_eq_true rfl, Nat.le_of_ble_eq_true rfl⟩ rfl rfl [0, 2] [1] [1, 0, 2] rfl rfl rfl rfl (by decide) rfl rfl rfl rfl hl.1 (Nat.le_of_ble_eq_true rfl) ⟨Nat.zero_le _, Nat.zero_le _⟩ rfl dX4_cars_16 (fun H locs hP hD hS => ?_)
    obtain rfl := Option.some.inj hf
    exact zs_iret (pc := 19) hX hB hR hK hP hD hS dX4_cars_19
  · have hf := zs_in hf hq
    refine lv_iload_n (pc := 8) hX hB dX4_cars_8 rfl (lv_at hl 2 rfl) ?_
    obtain ⟨o3, hc, hf⟩ := zs_bind hf
    refine zs_S (pc := 9) (As := [.int p2]) (rest := []) (st1 := [.int o3]) (wc := []) (wr := [(a_T, .inr (4, [.ref a_T_st, .long v_T_above, .long v_T_below, .ref a_T_refused, .ref a_T_text, .int v_T_bytes, .int v_T_place, .int v_T_token, .int v_T_value, .int v_T_begins, .ref a_T_row, .int v_T_toldHolders, .ref a_T_points, .ref a_T_used, .ref a_T_ahead, .int v_T_undoMany, .long v_T_drawn, .ref a_T_isKept, .ref a_T_kept, .ref a_T_keptAhead, .ref a_T_keptMany])), (a_T_st, .inl (gI g, 27, .inl v_T_st)), (a_T_refused, .inl (gI g, 3, .inl v_T_refused))]) (w1 := []) (w2 := [(a_T, .inr (4, [.ref a_T_st, .long v_T_above, .long v_T_below, .ref a_T_refused, .ref a_T_text, .int v_T_bytes, .int v_T_place, .int v_T_token, .int v_T_value, .int v_T_begins, .ref a_T_row, .int v_T_toldHolders, .ref a_T_points, .ref a_T_used, .ref a_T_ahead, .int v_T_undoMany, .long v_T_drawn, .ref a_T_isKept, .ref a_T_kept, .ref a_T_keptAhead, .ref a_T_keptMany])), (a_T_st, .inl (gI g, 27, .inl v_T_st)), (a_T_refused, .inl (gI g, 3, .inl v_T_refused))]) (ov := some (.int o3)) lb_X4_isWhat lk_X4_217 hX hB hM hO hT hE hP hD hS hA (c_X4_isWhat l g _ p2 o3 hc) ⟨rfl, rfl⟩ ⟨Nat.le_of_ble_eq_true rfl, Nat.le_of_ble_eq_true rfl⟩ [] [0, 1, 2] [0, 1, 2] rfl rfl rfl rfl (by decide) rfl rfl rfl rfl hl.1 (Nat.le_of_ble_eq_true rfl) ⟨Nat.zero_le _, Nat.zero_le _⟩ rfl dX4_cars_9 (fun H locs hP hD hS => ?_)
    refine lv_if_ne (pc := 12) (tgt := 20) hX hB dX4_cars_12 (by decide) (fun hq => ?_) (fun hq => ?_)
    · have hf := zs_in hf hq
      refine lv_iload_n (pc := 20) hX hB dX4_cars_20 rfl (lv_at hl 2 rfl) ?_
      refine lv_if_ne (pc := 21) (tgt := 38) hX hB dX4_cars_21 (by decide) (fun hq => ?_) (fun hq => ?_)
      · have hf := zs_in hf hq
        refine lv_iconst (pc := 38) (v := 0) hX hB dX4_cars_38 (by decide) ?_
        refine lv_istore_n (pc := 39) (lv' := [(3, .int (0 : Int32)), (0, .ref a_T), (1, .int p1), (2, .int p2)]) hX hB dX4_cars_39 rfl hl (by decide) rfl (fun ls hl => ?_)
        refine lv_iconst (pc := 40) (v := 0) hX hB dX4_cars_40 (by decide) ?_
        refine lv_istore (pc := 41) (lv' := [(4, .int (0 : Int32)), (3, .int (0 : Int32)), (0, .ref a_T), (1, .int p1), (2, .int p2)]) hX hB dX4_cars_41 hl (by decide) rfl (fun ls hl => ?_)
        obtain ⟨y5, hj, hf⟩ := zs_bind hf
        refine zs_then (α := Unit) (fun _ H locs ls => CC g A s.heap 5 [(a_T, .inr (4, [.ref a_T_st, .long v_T_above, .long v_T_below, .ref a_T_refused, .ref a_T_text, .int v_T_bytes, .int v_T_place, .int v_T_token, .int v_T_value, .int v_T_begins, .ref a_T_row, .int v_T_toldHolders, .ref a_T_points, .ref a_T_used, .ref a_T_ahead, .int v_T_undoMany, .long v_T_drawn, .ref a_T_isKept, .ref a_T_kept, .ref a_T_keptAhead, .ref a_T_keptMany])), (a_T_st, .inl (gI g, 27, .inl v_T_st)), (a_T_refused, .inl (gI g, 3, .inl v_T_refused))] [(3, .int y5)] H locs ls) (fun _ ls => F0 m 75 ls []) (fun _ H locs ls hC => ?_) (fun X => ?_)
        · obtain ⟨hP, hD, hS, hl⟩ := hC
          refine lv_iload_n (pc := 75) hX hB dX4_cars_75 rfl (lv_at hl 0 rfl) ?_
          obtain rfl := Option.some.inj hf
          exact zs_iret (pc := 76) hX hB hR hK hP hD hS dX4_cars_76
        · refine zs_loop (fun x4 H locs ls => CC g A s.heap 5 [(a_T, .inr (4, [.ref a_T_st, .long v_T_above, .long v_T_below, .ref a_T_refused, .ref a_T_text, .int v_T_bytes, .int v_T_place, .int v_T_token, .int v_T_value, .int v_T_begins, .ref a_T_row, .int v_T_toldHolders, .ref a_T_points, .ref a_T_used, .ref a_T_ahead, .int v_T_undoMany, .long v_T_drawn, .ref a_T_isKept, .ref a_T_kept, .ref a_T_keptAhead, .ref a_T_keptMany])), (a_T_st, .inl (gI g, 27, .inl v_T_st)), (a_T_refused, .inl (gI g, 3, .inl v_T_refused))] [(0, .ref a_T), (3, .int x4.1), (4, .int x4.2)] H locs ls) hj (fun n x4 q hf hr ih H locs ls hC => ?_) ⟨hP, hD, hS, lv_sub hl [2, 1, 0] rfl⟩
          obtain ⟨hP, hD, hS, hl⟩ := hC
          unfold b_X4_cars_43 at hf
          refine lv_iload (pc := 43) hX hB dX4_cars_43 (lv_at hl 2 rfl) ?_
          refine lv_aload_n (pc := 45) hX hB dX4_cars_45 rfl (lv_at hl 0 rfl) ?_
          obtain ⟨o6, hc, hf⟩ := zs_bind hf
          refine zs_V (q := (RX4, TX4, 21)) (ci := 4) (q0 := 0) (b := a_T) (pc := 46) (As := []) (rest := [.int x4.2]) (st1 := [.int o6, .int x4.2]) (wc := [(a_T, .inr (4, [.ref a_T_st, .long v_T_above, .long v_T_below, .ref a_T_refused, .ref a_T_text, .int v_T_bytes, .int v_T_place, .int v_T_token, .int v_T_value, .int v_T_begins, .ref a_T_row, .int v_T_toldHolders, .ref a_T_points, .ref a_T_used, .ref a_T_ahead, .int v_T_undoMany, .long v_T_drawn, .ref a_T_isKept, .ref a_T_kept, .ref a_T_keptAhead, .ref a_T_keptMany])), (a_T_st, .inl (gI g, 27, .inl v_T_st))]) (wr := [(a_T_refused, .inl (gI g, 3, .inl v_T_refused))]) (w1 := [(a_T, .inr (4, [.ref a_T_st, .long v_T_above, .long v_T_below, .ref a_T_refused, .ref a_T_text, .int v_T_bytes, .int v_T_place, .int v_T_token, .int v_T_value, .int v_T_begins, .ref a_T_row, .int v_T_toldHolders, .ref a_T_points, .ref a_T_used, .ref a_T_ahead, .int v_T_undoMany, .long v_T_drawn, .ref a_T_isKept, .ref a_T_kept, .ref a_T_keptAhead, .ref a_T_keptMany])), (a_T_st, .inl (gI g, 27, .inl v_T_st))]) (w2 := [(a_T, .inr (4, [.ref a_T_st, .long v_T_above, .long v_T_below, .ref a_T_refused, .ref a_T_text, .int v_T_bytes, .int v_T_place, .int v_T_token, .int v_T_value, .int v_T_begins, .ref a_T_row, .int v_T_toldHolders, .ref a_T_points, .ref a_T_used, .ref a_T_ahead, .int v_T_undoMany, .long v_T_drawn, .ref a_T_isKept, .ref a_T_kept, .ref a_T_keptAhead, .ref a_T_keptMany])), (a_T_st, .inl (gI g, 27, .inl v_T_st)), (a_T_refused, .inl (gI g, 3, .inl v_T_refused))]) (ov := some (.int o6)) lb_X4_everybody lk_X4_220 hX hB hM hO hT hE hP hD hS hA (c_X4_everybody l g _ a_T a_T_refused a_T_text a_T_row a_T_points a_T_used a_T_ahead a_T_isKept a_T_kept a_T_keptAhead a_T_keptMany a_T_st v_T_above v_T_below v_T_bytes v_T_place v_T_token v_T_value v_T_begins v_T_toldHolders v_T_undoMany v_T_drawn v_T_st o6 hc) ⟨rfl, rfl⟩ ⟨Nat.le_of_ble_eq_true rfl, Nat.le_of_ble_eq_true rfl⟩ rfl rfl [0, 1] [2] [1, 2, 0] rfl rfl rfl rfl (by decide) rfl rfl rfl rfl hl.1 (Nat.le_of_ble_eq_true rfl) ⟨Nat.zero_le _, Nat.zero_le _⟩ rfl dX4_cars_46 (fun H locs hP hD hS => ?_)
          refine lv_icmp_gt (pc := 49) (tgt := 75) hX hB dX4_cars_49 (by decide) (fun hq => ?_) (fun hq => ?_)
          · have hf := zs_ip hf hq
            obtain rfl := Option.some.inj hf
            obtain rfl := hr
            exact X () _ _ _ ⟨hP, hD, hS, lv_sub hl [1] rfl⟩
          · have hf := zs_in hf hq
            refine lv_iload_n (pc := 52) hX hB dX4_cars_52 rfl (lv_at hl 1 rfl) ?_
            refine lv_aload_n (pc := 53) hX hB dX4_cars_53 rfl (lv_at hl 0 rfl) ?_
            refine lv_iload (pc := 54) hX hB dX4_cars_54 (lv_at hl 2 rfl) ?_
            obtain ⟨o7, hc, hf⟩ := zs_bind hf
            refine zs_V (q := (RX4, TX4, 21)) (ci := 4) (q0 := 0) (b := a_T) (pc := 56) (As := [.int x4.2]) (rest := [.int x4.1]) (st1 := [.int o7, .int x4.1]) (wc := [(a_T, .inr (4, [.ref a_T_st, .long v_T_above, .long v_T_below, .ref a_T_refused, .ref a_T_text, .int v_T_bytes, .int v_T_place, .int v_T_token, .int v_T_value, .int v_T_begins, .ref a_T_row, .int v_T_toldHolders, .ref a_T_points, .ref a_T_used, .ref a_T_ahead, .int v_T_undoMany, .long v_T_drawn, .ref a_T_isKept, .ref a_T_kept, .ref a_T_keptAhead, .ref a_T_keptMany])), (a_T_st, .inl (gI g, 27, .inl v_T_st))]) (wr := [(a_T_refused, .inl (gI g, 3, .inl v_T_refused))]) (w1 := [(a_T, .inr (4, [.ref a_T_st, .long v_T_above, .long v_T_below, .ref a_T_refused, .ref a_T_text, .int v_T_bytes, .int v_T_place, .int v_T_token, .int v_T_value, .int v_T_begins, .ref a_T_row, .int v_T_toldHolders, .ref a_T_points, .ref a_T_used, .ref a_T_ahead, .int v_T_undoMany, .long v_T_drawn, .ref a_T_isKept, .ref a_T_kept, .ref a_T_keptAhead, .ref a_T_keptMany])), (a_T_st, .inl (gI g, 27, .inl v_T_st))]) (w2 := [(a_T, .inr (4, [.ref a_T_st, .long v_T_above, .long v_T_below, .ref a_T_refused, .ref a_T_text, .int v_T_bytes, .int v_T_place, .int v_T_token, .int v_T_value, .int v_T_begins, .ref a_T_row, .int v_T_toldHolders, .ref a_T_points, .ref a_T_used, .ref a_T_ahead, .int v_T_undoMany, .long v_T_drawn, .ref a_T_isKept, .ref a_T_kept, .ref a_T_keptAhead, .ref a_T_keptMany])), (a_T_st, .inl (gI g, 27, .inl v_T_st)), (a_T_refused, .inl (gI g, 3, .inl v_T_refused))]) (ov := some (.int o7)) lb_X4_isParting lk_X4_236 hX hB hM hO hT hE hP hD hS hA (c_X4_isParting l g _ a_T a_T_refused a_T_text a_T_row a_T_points a_T_used a_T_ahead a_T_isKept a_T_kept a_T_keptAhead a_T_keptMany a_T_st v_T_above v_T_below v_T_bytes v_T_place v_T_token v_T_value v_T_begins v_T_toldHolders v_T_undoMany v_T_drawn v_T_st x4.2 o7 hc) ⟨rfl, rfl⟩ ⟨Nat.le_of_ble_eq_true rfl, Nat.le_of_ble_eq_true rfl⟩ rfl rfl [0, 1] [2] [1, 2, 0] rfl rfl rfl rfl (by decide) rfl rfl rfl rfl hl.1 (Nat.le_of_ble_eq_true rfl) ⟨Nat.zero_le _, Nat.zero_le _⟩ rfl dX4_cars_56 (fun H locs hP hD hS => ?_)
            refine lv_if_eq (pc := 59) (tgt := 66) hX hB dX4_cars_59 (by decide) (fun hq => ?_) (fun hq => ?_)
            · have hf := zs_ip hf hq
              refine lv_iconst (pc := 66) (v := 0) hX hB dX4_cars_66 (by decide) ?_
              refine lv_iadd (pc := 67) hX hB dX4_cars_67 ?_
              refine lv_istore_n (pc := 68) (lv' := [(3, .int (x4.1 + (0 : Int32))), (0, .ref a_T), (4, .int x4.2)]) hX hB dX4_cars_68 rfl hl (by decide) rfl (fun ls hl => ?_)
              refine lv_iinc (pc := 69) (v := x4.2 + (1 : Int32)) (lv' := [(4, .int (x4.2 + (1 : Int32))), (3, .int (x4.1 + (0 : Int32))), (0, .ref a_T)]) hX hB dX4_cars_69 hl (k := 2) rfl rfl (by decide) rfl (fun ls hl => ?_)
              refine lv_goto (pc := 72) (tgt := 43) hX hB dX4_cars_72 (by decide) ?_
              obtain rfl := Option.some.inj hf
              exact ih _ hr _ _ _ ⟨hP, hD, hS, lv_sub hl [2, 1, 0] rfl⟩
            · have hf := zs_in hf hq
              refine lv_iconst (pc := 62) (v := 1) hX hB dX4_cars_62 (by decide) ?_
              refine lv_goto (pc := 63) (tgt := 67) hX hB dX4_cars_63 (by decide) ?_
              refine lv_iadd (pc := 67) hX hB dX4_cars_67 ?_
              refine lv_istore_n (pc := 68) (lv' := [(3, .int (x4.1 + (1 : Int32))), (0, .ref a_T), (4, .int x4.2)]) hX hB dX4_cars_68 rfl hl (by decide) rfl (fun ls hl => ?_)
              refine lv_iinc (pc := 69) (v := x4.2 + (1 : Int32)) (lv' := [(4, .int (x4.2 + (1 : Int32))), (3, .int (x4.1 + (1 : Int32))), (0, .ref a_T)]) hX hB dX4_cars_69 hl (k := 2) rfl rfl (by decide) rfl (fun ls hl => ?_)
              refine lv_goto (pc := 72) (tgt := 43) hX hB dX4_cars_72 (by decide) ?_
              obtain rfl := Option.some.inj hf
              exact ih _ hr _ _ _ ⟨hP, hD, hS, lv_sub hl [2, 1, 0] rfl⟩
      · have hf := zs_ip hf hq
        refine lv_aload_n (pc := 24) hX hB dX4_cars_24 rfl (lv_at hl 0 rfl) ?_
        refine lv_iload_n (pc := 25) hX hB dX4_cars_25 rfl (lv_at hl 1 rfl) ?_
        obtain ⟨o8, hc, hf⟩ := zs_bind hf
        refine zs_V (q := (RX4, TX4, 21)) (ci := 4) (q0 := 0) (b := a_T) (pc := 26) (As := [.int p1]) (rest := []) (st1 := [.int o8]) (wc := [(a_T, .inr (4, [.ref a_T_st, .long v_T_above, .long v_T_below, .ref a_T_refused, .ref a_T_text, .int v_T_bytes, .int v_T_place, .int v_T_token, .int v_T_value, .int v_T_begins, .ref a_T_row, .int v_T_toldHolders, .ref a_T_points, .ref a_T_used, .ref a_T_ahead, .int v_T_undoMany, .long v_T_drawn, .ref a_T_isKept, .ref a_T_kept, .ref a_T_keptAhead, .ref a_T_keptMany])), (a_T_st, .inl (gI g, 27, .inl v_T_st))]) (wr := [(a_T_refused, .inl (gI g, 3, .inl v_T_refused))]) (w1 := [(a_T, .inr (4, [.ref a_T_st, .long v_T_above, .long v_T_below, .ref a_T_refused, .ref a_T_text, .int v_T_bytes, .int v_T_place, .int v_T_token, .int v_T_value, .int v_T_begins, .ref a_T_row, .int v_T_toldHolders, .ref a_T_points, .ref a_T_used, .ref a_T_ahead, .int v_T_undoMany, .long v_T_drawn, .ref a_T_isKept, .ref a_T_kept, .ref a_T_keptAhead, .ref a_T_keptMany])), (a_T_st, .inl (gI g, 27, .inl v_T_st))]) (w2 := [(a_T, .inr (4, [.ref a_T_st, .long v_T_above, .long v_T_below, .ref a_T_refused, .ref a_T_text, .int v_T_bytes, .int v_T_place, .int v_T_token, .int v_T_value, .int v_T_begins, .ref a_T_row, .int v_T_toldHolders, .ref a_T_points, .ref a_T_used, .ref a_T_ahead, .int v_T_undoMany, .long v_T_drawn, .ref a_T_isKept, .ref a_T_kept, .ref a_T_keptAhead, .ref a_T_keptMany])), (a_T_st, .inl (gI g, 27, .inl v_T_st)), (a_T_refused, .inl (gI g, 3, .inl v_T_refused))]) (ov := some (.int o8)) lb_X4_isParting lk_X4_236 hX hB hM hO hT hE hP hD hS hA (c_X4_isParting l g _ a_T a_T_refused a_T_text a_T_row a_T_points a_T_used a_T_ahead a_T_isKept a_T_kept a_T_keptAhead a_T_keptMany a_T_st v_T_above v_T_below v_T_bytes v_T_place v_T_token v_T_value v_T_begins v_T_toldHolders v_T_undoMany v_T_drawn v_T_st p1 o8 hc) ⟨rfl, rfl⟩ ⟨Nat.le_of_ble_eq_true rfl, Nat.le_of_ble_eq_true rfl⟩ rfl rfl [0, 1] [2] [1, 2, 0] rfl rfl rfl rfl (by decide) rfl rfl rfl rfl hl.1 (Nat.le_of_ble_eq_true rfl) ⟨Nat.zero_le _, Nat.zero_le _⟩ rfl dX4_cars_26 (fun H locs hP hD hS => ?_)
        refine lv_if_eq (pc := 29) (tgt := 36) hX hB dX4_cars_29 (by decide) (fun hq => ?_) (fun hq => ?_)
        · have hf := zs_ip hf hq
          refine lv_iconst (pc := 36) (v := 0) hX hB dX4_cars_36 (by decide) ?_
          obtain rfl := Option.some.inj hf
          exact zs_iret (pc := 37) hX hB hR hK hP hD hS dX4_cars_37
        · have hf := zs_in hf hq
          refine lv_iconst (pc := 32) (v := 1) hX hB dX4_cars_32 (by decide) ?_
          refine lv_goto (pc := 33) (tgt := 37) hX hB dX4_cars_33 (by decide) ?_
          obtain rfl := Option.some.inj hf
          exact zs_iret (pc := 37) hX hB hR hK hP hD hS dX4_cars_37
    · have hf := zs_ip hf hq
      refine lv_aload_n (pc := 15) hX hB dX4_cars_15 rfl (lv_at hl 0 rfl) ?_
      obtain ⟨o9, hc, hf⟩ := zs_bind hf
      refine zs_V (q := (RX4, TX4, 21)) (ci := 4) (q0 := 0) (b := a_T) (pc := 16) (As := []) (rest := []) (st1 := [.int o9.1]) (wc := [(a_T, .inr (4, [.ref a_T_st, .long v_T_above, .long v_T_below, .ref a_T_refused, .ref a_T_text, .int v_T_bytes, .int v_T_place, .int v_T_token, .int v_T_value, .int v_T_begins, .ref a_T_row, .int v_T_toldHolders, .ref a_T_points, .ref a_T_used, .ref a_T_ahead, .int v_T_undoMany, .long v_T_drawn, .ref a_T_isKept, .ref a_T_kept, .ref a_T_keptAhead, .ref a_T_keptMany])), (a_T_refused, .inl (gI g, 3, .inl v_T_refused))]) (wr := [(a_T_st, .inl (gI g, 27, .inl v_T_st))]) (w1 := [(a_T, .inr (4, [.ref a_T_st, .long v_T_above, .long v_T_below, .ref a_T_refused, .ref a_T_text, .int v_T_bytes, .int v_T_place, .int v_T_token, .int v_T_value, .int v_T_begins, .ref a_T_row, .int v_T_toldHolders, .ref a_T_points, .ref a_T_used, .ref a_T_ahead, .int v_T_undoMany, .long v_T_drawn, .ref a_T_isKept, .ref a_T_kept, .ref a_T_keptAhead, .ref a_T_keptMany])), (a_T_refused, .inl (gI g, 3, .inl o9.2))]) (w2 := [(a_T, .inr (4, [.ref a_T_st, .long v_T_above, .long v_T_below, .ref a_T_refused, .ref a_T_text, .int v_T_bytes, .int v_T_place, .int v_T_token, .int v_T_value, .int v_T_begins, .ref a_T_row, .int v_T_toldHolders, .ref a_T_points, .ref a_T_used, .ref a_T_ahead, .int v_T_undoMany, .long v_T_drawn, .ref a_T_isKept, .ref a_T_kept, .ref a_T_keptAhead, .ref a_T_keptMany])), (a_T_st, .inl (gI g, 27, .inl v_T_st)), (a_T_refused, .inl (gI g, 3, .inl o9.2))]) (ov := some (.int o9.1)) lb_X4_bad lk_X4_64 hX hB hM hO hT hE hP hD hS hA (c_X4_bad l g _ a_T a_T_st a_T_text a_T_row a_T_points a_T_used a_T_ahead a_T_isKept a_T_kept a_T_keptAhead a_T_keptMany a_T_refused v_T_above v_T_below v_T_bytes v_T_place v_T_token v_T_value v_T_begins v_T_toldHolders v_T_undoMany v_T_drawn v_T_refused o9 hc) ⟨rfl, rfl⟩ ⟨Nat.le_of_ble_eq_true rfl, Nat.le_of_ble_eq_true rfl⟩ rfl rfl [0, 2] [1] [1, 0, 2] rfl rfl rfl rfl (by decide) rfl rfl rfl rfl hl.1 (Nat.le_of_ble_eq_true rfl) ⟨Nat.zero_le _, Nat.zero_le _⟩ rfl dX4_cars_16 (fun H locs hP hD hS => ?_)
      obtain rfl := Option.some.inj hf
      exact zs_iret (pc := 19) hX hB hR hK hP hD hS dX4_cars_19

def b_X4_note_50 (v_T_st : Nat → Int32) (y1 : Int32 × (Nat → Int32)) (x2 : Int32 × (Nat → Int32)) : Option ((Int32 × (Nat → Int32)) ⊕ ((Nat → Int32))) :=
  if (6 : Int32) ≤ x2.1 then (some (Sum.inr x2.2)) else (gd (inb ((2 : Int32) + x2.1) 27) (gd (inb (((6 : Int32) * y1.1) + x2.1) 48) (some (Sum.inl (x2.1 + (1 : Int32), upd x2.2 (((6 : Int32) * y1.1) + x2.1).toNatClampNeg (v_T_st ((2 : Int32) + x2.1).toNatClampNeg))))))
def b_X4_note_11 (x4 : Int32 × (Nat → Int32)) : Option ((Int32 × (Nat → Int32)) ⊕ ((Nat → Int32))) :=
  if (42 : Int32) ≤ x4.1 then (some (Sum.inr x4.2)) else (gd (inb (x4.1 + (6 : Int32)) 48) (gd (inb x4.1 48) (some (Sum.inl (x4.1 + (1 : Int32), upd x4.2 x4.1.toNatClampNeg (x4.2 (x4.1 + (6 : Int32)).toNatClampNeg))))))
def f_X4_note (v_T_undoMany : Int32) (v_T_st : Nat → Int32) (v_T_ahead : Nat → Int32) : Option (Int32 × (Nat → Int32)) :=
  (if v_T_undoMany = (8 : Int32) then ((lp (b_X4_note_11) 200 ((0 : Int32), v_T_ahead)).bind (fun y5 => some (v_T_undoMany - (1 : Int32), y5))) else (some (v_T_undoMany, v_T_ahead))).bind (fun y1 => (lp (b_X4_note_50 v_T_st y1) 200 ((0 : Int32), y1.2)).bind (fun y3 => some (y1.1 + (1 : Int32), y3)))
set_option maxHeartbeats 4000000 in
set_option maxRecDepth 100000 in
theorem c_X4_note (l : Launch) (g : GG) (sz : Nat) (a_T a_T_refused a_T_text a_T_row a_T_points a_T_used a_T_isKept a_T_kept a_T_keptAhead a_T_keptMany a_T_st a_T_ahead : Nat) (v_T_above : Int64) (v_T_below : Int64) (v_T_bytes : Int32) (v_T_place : Int32) (v_T_token : Int32) (v_T_value : Int32) (v_T_begins : Int32) (v_T_toldHolders : Int32) (v_T_undoMany : Int32) (v_T_drawn : Int64) (v_T_st : Nat → Int32) (v_T_ahead : Nat → Int32) (o : Int32 × (Nat → Int32)) (hf : f_X4_note v_T_undoMany v_T_st v_T_ahead = some o) : Met l yX4_note (Cond.code yX4_note cX4_note 2 none :: TB) { frames := 0, cells := 0, slots := 0, locals := 0 } (Pst g [(a_T, .inr (4, [.ref a_T_st, .long v_T_above, .long v_T_below, .ref a_T_refused, .ref a_T_text, .int v_T_bytes, .int v_T_place, .int v_T_token, .int v_T_value, .int v_T_begins, .ref a_T_row, .int v_T_toldHolders, .ref a_T_points, .ref a_T_used, .ref a_T_ahead, .int v_T_undoMany, .long v_T_drawn, .ref a_T_isKept, .ref a_T_kept, .ref a_T_keptAhead, .ref a_T_keptMany])), (a_T_st, .inl (gI g, 27, .inl v_T_st)), (a_T_ahead, .inl (gI g, 48, .inl v_T_ahead))] [.ref a_T] sz) (Qst g [(a_T, .inr (4, [.ref a_T_st, .long v_T_above, .long v_T_below, .ref a_T_refused, .ref a_T_text, .int v_T_bytes, .int v_T_place, .int v_T_token, .int v_T_value, .int v_T_begins, .ref a_T_row, .int v_T_toldHolders, .ref a_T_points, .ref a_T_used, .ref a_T_ahead, .int o.1, .long v_T_drawn, .ref a_T_isKept, .ref a_T_kept, .ref a_T_keptAhead, .ref a_T_keptMany])), (a_T_st, .inl (gI g, 27, .inl v_T_st)), (a_T_ahead, .inl (gI g, 48, .inl o.2))] (none) (va_A [(a_T, .inr (4, [.ref a_T_st, .long v_T_above, .long v_T_below, .ref a_T_refused, .ref a_T_text, .int v_T_bytes, .int v_T_place, .int v_T_token, .int v_T_value, .int v_T_begins, .ref a_T_row, .int v_T_toldHolders, .ref a_T_points, .ref a_T_used, .ref a_T_ahead, .int v_T_undoMany, .long v_T_drawn, .ref a_T_isKept, .ref a_T_kept, .ref a_T_keptAhead, .ref a_T_keptMany])), (a_T_st, .inl (gI g, 27, .inl v_T_st)), (a_T_ahead, .inl (gI g, 48, .inl v_T_ahead))] sz)) 0 0 (va_A [(a_T, .inr (4, [.ref a_T_st, .long v_T_above, .long v_T_below, .ref a_T_refused, .ref a_T_text, .int v_T_bytes, .int v_T_place, .int v_T_token, .int v_T_value, .int v_T_begins, .ref a_T_row, .int v_T_toldHolders, .ref a_T_points, .ref a_T_used, .ref a_T_ahead, .int v_T_undoMany, .long v_T_drawn, .ref a_T_isKept, .ref a_T_kept, .ref a_T_keptAhead, .ref a_T_keptMany])), (a_T_st, .inl (gI g, 27, .inl v_T_st)), (a_T_ahead, .inl (gI g, 48, .inl v_T_ahead))] sz) := by
  unfold f_X4_note at hf
  refine zs_met (own := RX4) (plainFor_of_name (by decide)) rfl (Nat.le_of_ble_eq_true rfl) ?_
  intro p e s m below meth c A ls hX hB hR hM hT hO hK hN hA hE hP hD hS hl
  have hl : lv_has ls 2 [(0, .ref a_T)] := hl
  refine lv_aload_n (pc := 0) hX hB dX4_note_0 rfl (lv_at hl 0 rfl) ?_
  refine gf_X4_56 (pc := 1) (v := .int v_T_undoMany) hX hB hT hO hE hP 0 rfl rfl dX4_note_1 ?_
  refine lv_bipush (pc := 4) (v := 8) hX hB dX4_note_4 (by decide) ?_
  obtain ⟨y1, hj, hf⟩ := zs_bind hf
  refine zs_then (α := Unit) (fun _ H locs ls => CC g A s.heap 2 [(a_T, .inr (4, [.ref a_T_st, .long v_T_above, .long v_T_below, .ref a_T_refused, .ref a_T_text, .int v_T_bytes, .int v_T_place, .int v_T_token, .int v_T_value, .int v_T_begins, .ref a_T_row, .int v_T_toldHolders, .ref a_T_points, .ref a_T_used, .ref a_T_ahead, .int y1.1, .long v_T_drawn, .ref a_T_isKept, .ref a_T_kept, .ref a_T_keptAhead, .ref a_T_keptMany])), (a_T_st, .inl (gI g, 27, .inl v_T_st)), (a_T_ahead, .inl (gI g, 48, .inl y1.2))] [(0, .ref a_T)] H locs ls) (fun _ ls => F0 m 48 ls []) (fun _ H locs ls hC => ?_) (fun X => ?_)
  · obtain ⟨hP, hD, hS, hl⟩ := hC
    refine lv_iconst (pc := 48) (v := 0) hX hB dX4_note_48 (by decide) ?_
    refine lv_istore_n (pc := 49) (lv' := [(1, .int (0 : Int32)), (0, .ref a_T)]) hX hB dX4_note_49 rfl hl (by decide) rfl (fun ls hl => ?_)
    obtain ⟨y3, hj, hf⟩ := zs_bind hf
    refine zs_then (α := Unit) (fun _ H locs ls => CC g A s.heap 2 [(a_T, .inr (4, [.ref a_T_st, .long v_T_above, .long v_T_below, .ref a_T_refused, .ref a_T_text, .int v_T_bytes, .int v_T_place, .int v_T_token, .int v_T_value, .int v_T_begins, .ref a_T_row, .int v_T_toldHolders, .ref a_T_points, .ref a_T_used, .ref a_T_ahead, .int y1.1, .long v_T_drawn, .ref a_T_isKept, .ref a_T_kept, .ref a_T_keptAhead, .ref a_T_keptMany])), (a_T_st, .inl (gI g, 27, .inl v_T_st)), (a_T_ahead, .inl (gI g, 48, .inl y3))] [(0, .ref a_T)] H locs ls) (fun _ ls => F0 m 84 ls []) (fun _ H locs ls hC => ?_) (fun X => ?_)
    · obtain ⟨hP, hD, hS, hl⟩ := hC
      refine lv_aload_n (pc := 84) hX hB dX4_note_84 rfl (lv_at hl 0 rfl) ?_
      refine lv_dup (pc := 85) hX hB dX4_note_85 rfl ?_
      refine gf_X4_56 (pc := 86) (v := .int y1.1) hX hB hT hO hE hP 0 rfl rfl dX4_note_86 ?_
      refine lv_iconst (pc := 89) (v := 1) hX hB dX4_note_89 (by decide) ?_
      refine lv_iadd (pc := 90) hX hB dX4_note_90 ?_
      refine pf_X4_56 (pc := 91) (x := y1.1 + (1 : Int32)) (w2 := [(a_T, .inr (4, [.ref a_T_st, .long v_T_above, .long v_T_below, .ref a_T_refused, .ref a_T_text, .int v_T_bytes, .int v_T_place, .int v_T_token, .int v_T_value, .int v_T_begins, .ref a_T_row, .int v_T_toldHolders, .ref a_T_points, .ref a_T_used, .ref a_T_ahead, .int (y1.1 + (1 : Int32)), .long v_T_drawn, .ref a_T_isKept, .ref a_T_kept, .ref a_T_keptAhead, .ref a_T_keptMany])), (a_T_st, .inl (gI g, 27, .inl v_T_st)), (a_T_ahead, .inl (gI g, 48, .inl y3))]) hX hB hT hO hE hP hD hS 0 rfl (Nat.le_of_ble_eq_true rfl) rfl dX4_note_91 (fun H locs hP hD hS => ?_)
      obtain rfl := Option.some.inj hf
      exact zs_vret (pc := 94) hX hB hR hK hP hD hS dX4_note_94
    · refine zs_loop (fun x2 H locs ls => CC g A s.heap 2 [(a_T, .inr (4, [.ref a_T_st, .long v_T_above, .long v_T_below, .ref a_T_refused, .ref a_T_text, .int v_T_bytes, .int v_T_place, .int v_T_token, .int v_T_value, .int v_T_begins, .ref a_T_row, .int v_T_toldHolders, .ref a_T_points, .ref a_T_used, .ref a_T_ahead, .int y1.1, .long v_T_drawn, .ref a_T_isKept, .ref a_T_kept, .ref a_T_keptAhead, .ref a_T_keptMany])), (a_T_st, .inl (gI g, 27, .inl v_T_st)), (a_T_ahead, .inl (gI g, 48, .inl x2.2))] [(0, .ref a_T), (1, .int x2.1)] H locs ls) hj (fun n x2 q hf hr ih H locs ls hC => ?_) ⟨hP, hD, hS, lv_sub hl [1, 0] rfl⟩
      obtain ⟨hP, hD, hS, hl⟩ := hC
      unfold b_X4_note_50 at hf
      refine lv_iload_n (pc := 50) hX hB dX4_note_50 rfl (lv_at hl 1 rfl) ?_
      refine lv_bipush (pc := 51) (v := 6) hX hB dX4_note_51 (by decide) ?_
      refine lv_icmp_ge (pc := 53) (tgt := 84) hX hB dX4_note_53 (by decide) (fun hq => ?_) (fun hq => ?_)
      · have hf := zs_ip hf hq
        obtain rfl := Option.some.inj hf
        obtain rfl := hr
        exact X () _ _ _ ⟨hP, hD, hS, lv_sub hl [0] rfl⟩
      · have hf := zs_in hf hq
        refine lv_aload_n (pc := 56) hX hB dX4_note_56 rfl (lv_at hl 0 rfl) ?_
        refine gf_X4_32 (pc := 57) (v := .ref a_T_ahead) hX hB hT hO hE hP 0 rfl rfl dX4_note_57 ?_
        refine lv_bipush (pc := 60) (v := 6) hX hB dX4_note_60 (by decide) ?_
        refine lv_aload_n (pc := 62) hX hB dX4_note_62 rfl (lv_at hl 0 rfl) ?_
        refine gf_X4_56 (pc := 63) (v := .int y1.1) hX hB hT hO hE hP 0 rfl rfl dX4_note_63 ?_
        refine lv_imul (pc := 66) hX hB dX4_note_66 ?_
        refine lv_iload_n (pc := 67) hX hB dX4_note_67 rfl (lv_at hl 1 rfl) ?_
        refine lv_iadd (pc := 68) hX hB dX4_note_68 ?_
        refine lv_aload_n (pc := 69) hX hB dX4_note_69 rfl (lv_at hl 0 rfl) ?_
        refine gf_X4_7 (pc := 70) (v := .ref a_T_st) hX hB hT hO hE hP 0 rfl rfl dX4_note_70 ?_
        refine lv_iconst (pc := 73) (v := 2) hX hB dX4_note_73 (by decide) ?_
        refine lv_iload_n (pc := 74) hX hB dX4_note_74 rfl (lv_at hl 1 rfl) ?_
        refine lv_iadd (pc := 75) hX hB dX4_note_75 ?_
        obtain ⟨hg, hf⟩ := zs_gd hf
        refine va_iald (pc := 76) hX hB hE.1 hP 1 0 rfl rfl (zs_inb hg) dX4_note_76 ?_
        obtain ⟨hg, hf⟩ := zs_gd hf
        refine zs_iast (pc := 77) (w2 := [(a_T, .inr (4, [.ref a_T_st, .long v_T_above, .long v_T_below, .ref a_T_refused, .ref a_T_text, .int v_T_bytes, .int v_T_place, .int v_T_token, .int v_T_value, .int v_T_begins, .ref a_T_row, .int v_T_toldHolders, .ref a_T_points, .ref a_T_used, .ref a_T_ahead, .int y1.1, .long v_T_drawn, .ref a_T_isKept, .ref a_T_kept, .ref a_T_keptAhead, .ref a_T_keptMany])), (a_T_st, .inl (gI g, 27, .inl v_T_st)), (a_T_ahead, .inl (gI g, 48, .inl (upd x2.2 (((6 : Int32) * y1.1) + x2.1).toNatClampNeg (v_T_st ((2 : Int32) + x2.1).toNatClampNeg))))]) hX hB hE hP hD hS 2 rfl (zs_inb hg) rfl dX4_note_77 (fun H locs hP hD hS => ?_)
        refine lv_iinc (pc := 78) (v := x2.1 + (1 : Int32)) (lv' := [(1, .int (x2.1 + (1 : Int32))), (0, .ref a_T)]) hX hB dX4_note_78 hl (k := 1) rfl rfl (by decide) rfl (fun ls hl => ?_)
        refine lv_goto (pc := 81) (tgt := 50) hX hB dX4_note_81 (by decide) ?_
        obtain rfl := Option.some.inj hf
        exact ih _ hr _ _ _ ⟨hP, hD, hS, lv_sub hl [1, 0] rfl⟩
  · have hf := hj
    refine lv_icmp_ne (pc := 6) (tgt := 48) hX hB dX4_note_6 (by decide) (fun hq => ?_) (fun hq => ?_)
    · have hf := zs_in hf hq
      obtain rfl := Option.some.inj hf
      exact X () _ _ _ ⟨hP, hD, hS, lv_sub hl [0] rfl⟩
    · have hf := zs_ip hf hq
      refine lv_iconst (pc := 9) (v := 0) hX hB dX4_note_9 (by decide) ?_
      refine lv_istore_n (pc := 10) (lv' := [(1, .int (0 : Int32)), (0, .ref a_T)]) hX hB dX4_note_10 rfl hl (by decide) rfl (fun ls hl => ?_)
      obtain ⟨y5, hj, hf⟩ := zs_bind hf
      refine zs_then (α := Unit) (fun _ H locs ls => CC g A s.heap 2 [(a_T, .inr (4, [.ref a_T_st, .long v_T_above, .long v_T_below, .ref a_T_refused, .ref a_T_text, .int v_T_bytes, .int v_T_place, .int v_T_token, .int v_T_value, .int v_T_begins, .ref a_T_row, .int v_T_toldHolders, .ref a_T_points, .ref a_T_used, .ref a_T_ahead, .int v_T_undoMany, .long v_T_drawn, .ref a_T_isKept, .ref a_T_kept, .ref a_T_keptAhead, .ref a_T_keptMany])), (a_T_st, .inl (gI g, 27, .inl v_T_st)), (a_T_ahead, .inl (gI g, 48, .inl y5))] [(0, .ref a_T)] H locs ls) (fun _ ls => F0 m 38 ls []) (fun _ H locs ls hC => ?_) (fun X => ?_)
      · obtain ⟨hP, hD, hS, hl⟩ := hC
        refine lv_aload_n (pc := 38) hX hB dX4_note_38 rfl (lv_at hl 0 rfl) ?_
        refine lv_dup (pc := 39) hX hB dX4_note_39 rfl ?_
        refine gf_X4_56 (pc := 40) (v := .int v_T_undoMany) hX hB hT hO hE hP 0 rfl rfl dX4_note_40 ?_
        refine lv_iconst (pc := 43) (v := 1) hX hB dX4_note_43 (by decide) ?_
        refine lv_isub (pc := 44) hX hB dX4_note_44 ?_
        refine pf_X4_56 (pc := 45) (x := v_T_undoMany - (1 : Int32)) (w2 := [(a_T, .inr (4, [.ref a_T_st, .long v_T_above, .long v_T_below, .ref a_T_refused, .ref a_T_text, .int v_T_bytes, .int v_T_place, .int v_T_token, .int v_T_value, .int v_T_begins, .ref a_T_row, .int v_T_toldHolders, .ref a_T_points, .ref a_T_used, .ref a_T_ahead, .int (v_T_undoMany - (1 : Int32)), .long v_T_drawn, .ref a_T_isKept, .ref a_T_kept, .ref a_T_keptAhead, .ref a_T_keptMany])), (a_T_st, .inl (gI g, 27, .inl v_T_st)), (a_T_ahead, .inl (gI g, 48, .inl y5))]) hX hB hT hO hE hP hD hS 0 rfl (Nat.le_of_ble_eq_true rfl) rfl dX4_note_45 (fun H locs hP hD hS => ?_)
        obtain rfl := Option.some.inj hf
        exact X () _ _ _ ⟨hP, hD, hS, lv_sub hl [0] rfl⟩
      · refine zs_loop (fun x4 H locs ls => CC g A s.heap 2 [(a_T, .inr (4, [.ref a_T_st, .long v_T_above, .long v_T_below, .ref a_T_refused, .ref a_T_text, .int v_T_bytes, .int v_T_place, .int v_T_token, .int v_T_value, .int v_T_begins, .ref a_T_row, .int v_T_toldHolders, .ref a_T_points, .ref a_T_used, .ref a_T_ahead, .int v_T_undoMany, .long v_T_drawn, .ref a_T_isKept, .ref a_T_kept, .ref a_T_keptAhead, .ref a_T_keptMany])), (a_T_st, .inl (gI g, 27, .inl v_T_st)), (a_T_ahead, .inl (gI g, 48, .inl x4.2))] [(0, .ref a_T), (1, .int x4.1)] H locs ls) hj (fun n x4 q hf hr ih H locs ls hC => ?_) ⟨hP, hD, hS, lv_sub hl [1, 0] rfl⟩
        obtain ⟨hP, hD, hS, hl⟩ := hC
        unfold b_X4_note_11 at hf
        refine lv_iload_n (pc := 11) hX hB dX4_note_11 rfl (lv_at hl 1 rfl) ?_
        refine lv_bipush (pc := 12) (v := 42) hX hB dX4_note_12 (by decide) ?_
        refine lv_icmp_ge (pc := 14) (tgt := 38) hX hB dX4_note_14 (by decide) (fun hq => ?_) (fun hq => ?_)
        · have hf := zs_ip hf hq
          obtain rfl := Option.some.inj hf
          obtain rfl := hr
          exact X () _ _ _ ⟨hP, hD, hS, lv_sub hl [0] rfl⟩
        · have hf := zs_in hf hq
          refine lv_aload_n (pc := 17) hX hB dX4_note_17 rfl (lv_at hl 0 rfl) ?_
          refine gf_X4_32 (pc := 18) (v := .ref a_T_ahead) hX hB hT hO hE hP 0 rfl rfl dX4_note_18 ?_
          refine lv_iload_n (pc := 21) hX hB dX4_note_21 rfl (lv_at hl 1 rfl) ?_
          refine lv_aload_n (pc := 22) hX hB dX4_note_22 rfl (lv_at hl 0 rfl) ?_
          refine gf_X4_32 (pc := 23) (v := .ref a_T_ahead) hX hB hT hO hE hP 0 rfl rfl dX4_note_23 ?_
          refine lv_iload_n (pc := 26) hX hB dX4_note_26 rfl (lv_at hl 1 rfl) ?_
          refine lv_bipush (pc := 27) (v := 6) hX hB dX4_note_27 (by decide) ?_
          refine lv_iadd (pc := 29) hX hB dX4_note_29 ?_
          obtain ⟨hg, hf⟩ := zs_gd hf
          refine va_iald (pc := 30) hX hB hE.1 hP 2 0 rfl rfl (zs_inb hg) dX4_note_30 ?_
          obtain ⟨hg, hf⟩ := zs_gd hf
          refine zs_iast (pc := 31) (w2 := [(a_T, .inr (4, [.ref a_T_st, .long v_T_above, .long v_T_below, .ref a_T_refused, .ref a_T_text, .int v_T_bytes, .int v_T_place, .int v_T_token, .int v_T_value, .int v_T_begins, .ref a_T_row, .int v_T_toldHolders, .ref a_T_points, .ref a_T_used, .ref a_T_ahead, .int v_T_undoMany, .long v_T_drawn, .ref a_T_isKept, .ref a_T_kept, .ref a_T_keptAhead, .ref a_T_keptMany])), (a_T_st, .inl (gI g, 27, .inl v_T_st)), (a_T_ahead, .inl (gI g, 48, .inl (upd x4.2 x4.1.toNatClampNeg (x4.2 (x4.1 + (6 : Int32)).toNatClampNeg))))]) hX hB hE hP hD hS 2 rfl (zs_inb hg) rfl dX4_note_31 (fun H locs hP hD hS => ?_)
          refine lv_iinc (pc := 32) (v := x4.1 + (1 : Int32)) (lv' := [(1, .int (x4.1 + (1 : Int32))), (0, .ref a_T)]) hX hB dX4_note_32 hl (k := 1) rfl rfl (by decide) rfl (fun ls hl => ?_)
          refine lv_goto (pc := 35) (tgt := 11) hX hB dX4_note_35 (by decide) ?_
          obtain rfl := Option.some.inj hf
          exact ih _ hr _ _ _ ⟨hP, hD, hS, lv_sub hl [1, 0] rfl⟩

def f_X4_draw (v_T_drawn : Int64) (p1 : Int32) : Option (Int32 × Int64) :=
  gd (decide (¬ p1.toInt64 = 0)) (some ((jlrem ((jlrem ((v_T_drawn * (1103515245 : Int64)) + (12345 : Int64)) (2147483648 : Int64)) / (65536 : Int64)) p1.toInt64).toInt32, jlrem ((v_T_drawn * (1103515245 : Int64)) + (12345 : Int64)) (2147483648 : Int64)))
set_option maxHeartbeats 4000000 in
set_option maxRecDepth 100000 in
theorem c_X4_draw (l : Launch) (g : GG) (sz : Nat) (a_T a_T_st a_T_refused a_T_text a_T_row a_T_points a_T_used a_T_ahead a_T_isKept a_T_kept a_T_keptAhead a_T_keptMany : Nat) (v_T_above : Int64) (v_T_below : Int64) (v_T_bytes : Int32) (v_T_place : Int32) (v_T_token : Int32) (v_T_value : Int32) (v_T_begins : Int32) (v_T_toldHolders : Int32) (v_T_undoMany : Int32) (v_T_drawn : Int64) (p1 : Int32) (o : Int32 × Int64) (hf : f_X4_draw v_T_drawn p1 = some o) : Met l yX4_draw (Cond.code yX4_draw cX4_draw 2 (some .int) :: TB) { frames := 0, cells := 0, slots := 0, locals := 0 } (Pst g [(a_T, .inr (4, [.ref a_T_st, .long v_T_above, .long v_T_below, .ref a_T_refused, .ref a_T_text, .int v_T_bytes, .int v_T_place, .int v_T_token, .int v_T_value, .int v_T_begins, .ref a_T_row, .int v_T_toldHolders, .ref a_T_points, .ref a_T_used, .ref a_T_ahead, .int v_T_undoMany, .long v_T_drawn, .ref a_T_isKept, .ref a_T_kept, .ref a_T_keptAhead, .ref a_T_keptMany]))] [.ref a_T, .int p1] sz) (Qst g [(a_T, .inr (4, [.ref a_T_st, .long v_T_above, .long v_T_below, .ref a_T_refused, .ref a_T_text, .int v_T_bytes, .int v_T_place, .int v_T_token, .int v_T_value, .int v_T_begins, .ref a_T_row, .int v_T_toldHolders, .ref a_T_points, .ref a_T_used, .ref a_T_ahead, .int v_T_undoMany, .long o.2, .ref a_T_isKept, .ref a_T_kept, .ref a_T_keptAhead, .ref a_T_keptMany]))] (some (.int o.1)) (va_A [(a_T, .inr (4, [.ref a_T_st, .long v_T_above, .long v_T_below, .ref a_T_refused, .ref a_T_text, .int v_T_bytes, .int v_T_place, .int v_T_token, .int v_T_value, .int v_T_begins, .ref a_T_row, .int v_T_toldHolders, .ref a_T_points, .ref a_T_used, .ref a_T_ahead, .int v_T_undoMany, .long v_T_drawn, .ref a_T_isKept, .ref a_T_kept, .ref a_T_keptAhead, .ref a_T_keptMany]))] sz)) 0 0 (va_A [(a_T, .inr (4, [.ref a_T_st, .long v_T_above, .long v_T_below, .ref a_T_refused, .ref a_T_text, .int v_T_bytes, .int v_T_place, .int v_T_token, .int v_T_value, .int v_T_begins, .ref a_T_row, .int v_T_toldHolders, .ref a_T_points, .ref a_T_used, .ref a_T_ahead, .int v_T_undoMany, .long v_T_drawn, .ref a_T_isKept, .ref a_T_kept, .ref a_T_keptAhead, .ref a_T_keptMany]))] sz) := by
  unfold f_X4_draw at hf
  refine zs_met (own := RX4) (plainFor_of_name (by decide)) rfl (Nat.le_of_ble_eq_true rfl) ?_
  intro p e s m below meth c A ls hX hB hR hM hT hO hK hN hA hE hP hD hS hl
  have hl : lv_has ls 2 [(0, .ref a_T), (1, .int p1)] := hl
  refine lv_aload_n (pc := 0) hX hB dX4_draw_0 rfl (lv_at hl 0 rfl) ?_
  refine lv_aload_n (pc := 1) hX hB dX4_draw_1 rfl (lv_at hl 0 rfl) ?_
  refine gf_X4_173 (pc := 2) (v := .long v_T_drawn) hX hB hT hO hE hP 0 rfl rfl dX4_draw_2 ?_
  refine lv_ldc2 (pc := 5) (v := 1103515245) hX hB hO (hT _ tw_4_131) dX4_draw_5 ?_
  refine lv_lmul (pc := 8) hX hB dX4_draw_8 ?_
  refine lv_ldc2 (pc := 9) (v := 12345) hX hB hO (hT _ tw_4_132) dX4_draw_9 ?_
  refine lv_ladd (pc := 12) hX hB dX4_draw_12 ?_
  refine lv_ldc2 (pc := 13) (v := 2147483648) hX hB hO (hT _ tw_4_133) dX4_draw_13 ?_
  refine zs_lrem (pc := 16) hX hB dX4_draw_16 (by decide) ?_
  refine pf_X4_173 (pc := 17) (x := jlrem ((v_T_drawn * (1103515245 : Int64)) + (12345 : Int64)) (2147483648 : Int64)) (w2 := [(a_T, .inr (4, [.ref a_T_st, .long v_T_above, .long v_T_below, .ref a_T_refused, .ref a_T_text, .int v_T_bytes, .int v_T_place, .int v_T_token, .int v_T_value, .int v_T_begins, .ref a_T_row, .int v_T_toldHolders, .ref a_T_points, .ref a_T_used, .ref a_T_ahead, .int v_T_undoMany, .long (jlrem ((v_T_drawn * (1103515245 : Int64)) + (12345 : Int64)) (2147483648 : Int64)), .ref a_T_isKept, .ref a_T_kept, .ref a_T_keptAhead, .ref a_T_keptMany]))]) hX hB hT hO hE hP hD hS 0 rfl (Nat.le_of_ble_eq_true rfl) rfl dX4_draw_17 (fun H locs hP hD hS => ?_)
  refine lv_aload_n (pc := 20) hX hB dX4_draw_20 rfl (lv_at hl 0 rfl) ?_
  refine gf_X4_173 (pc := 21) (v := .long (jlrem ((v_T_drawn * (1103515245 : Int64)) + (12345 : Int64)) (2147483648 : Int64))) hX hB hT hO hE hP 0 rfl rfl dX4_draw_21 ?_
  refine lv_ldc2 (pc := 24) (v := 65536) hX hB hO (hT _ tw_4_134) dX4_draw_24 ?_
  refine lv_ldiv (pc := 27) hX hB dX4_draw_27 (by decide) ?_
  refine lv_iload_n (pc := 28) hX hB dX4_draw_28 rfl (lv_at hl 1 rfl) ?_
  refine lv_i2l (pc := 29) (v := p1.toInt64) hX hB dX4_draw_29 rfl ?_
  obtain ⟨hg, hf⟩ := zs_gd hf
  refine zs_lrem (pc := 30) hX hB dX4_draw_30 (of_decide_eq_true hg) ?_
  refine lv_l2i (pc := 31) (v := (jlrem ((jlrem ((v_T_drawn * (1103515245 : Int64)) + (12345 : Int64)) (2147483648 : Int64)) / (65536 : Int64)) p1.toInt64).toInt32) hX hB dX4_draw_31 rfl ?_
  obtain rfl := Option.some.inj hf
  exact zs_iret (pc := 32) hX hB hR hK hP hD hS dX4_draw_32

def b_X4_change_29 (x3 : Int32 × Int64 × (Nat → Int32)) : Option ((Int32 × Int64 × (Nat → Int32)) ⊕ (Int64 × (Nat → Int32))) :=
  gd (inb (1 : Int32) 27) (if (x3.2.2 (1 : Int32).toNatClampNeg) ≤ x3.1 then (some (Sum.inr (x3.2.1, x3.2.2))) else (gd (inb (((2 : Int32) + x3.1) - (1 : Int32)) 27) ((f_X4_draw x3.2.1 (97 : Int32)).bind (fun o5 => gd (inb (((2 : Int32) + x3.1) - (1 : Int32)) 27) (some (Sum.inl (x3.1 + (1 : Int32), o5.2, upd x3.2.2 (((2 : Int32) + x3.1) - (1 : Int32)).toNatClampNeg (jrem ((x3.2.2 (((2 : Int32) + x3.1) - (1 : Int32)).toNatClampNeg) + o5.1) (97 : Int32)))))))))
def f_X4_change (v_T_undoMany : Int32) (v_T_drawn : Int64) (v_T_st : Nat → Int32) (v_T_refused : Nat → Int32) (v_T_ahead : Nat → Int32) (p1 : Int32) : Option (Int32 × Int32 × Int64 × (Nat → Int32) × (Nat → Int32) × (Nat → Int32)) :=
  (f_X4_in p1.toInt64 (0 : Int64) (999999 : Int64)).bind (fun o1 => if o1 = (0 : Int32) then ((f_X4_bad v_T_refused).bind (fun o6 => some (o6.1, v_T_undoMany, v_T_drawn, v_T_st, o6.2, v_T_ahead))) else ((f_X4_note v_T_undoMany v_T_st v_T_ahead).bind (fun o2 => (lp (b_X4_change_29) 200 ((1 : Int32), p1.toInt64, v_T_st)).bind (fun y4 => gd (inb (1 : Int32) 27) (some ((y4.2 (1 : Int32).toNatClampNeg) - (1 : Int32), o2.1, y4.1, y4.2, v_T_refused, o2.2))))))
set_option maxHeartbeats 4000000 in
set_option maxRecDepth 100000 in
theorem c_X4_change (l : Launch) (g : GG) (sz : Nat) (a_T a_T_text a_T_row a_T_points a_T_used a_T_isKept a_T_kept a_T_keptAhead a_T_keptMany a_T_st a_T_refused a_T_ahead : Nat) (v_T_above : Int64) (v_T_below : Int64) (v_T_bytes : Int32) (v_T_place : Int32) (v_T_token : Int32) (v_T_value : Int32) (v_T_begins : Int32) (v_T_toldHolders : Int32) (v_T_undoMany : Int32) (v_T_drawn : Int64) (v_T_st : Nat → Int32) (v_T_refused : Nat → Int32) (v_T_ahead : Nat → Int32) (p1 : Int32) (o : Int32 × Int32 × Int64 × (Nat → Int32) × (Nat → Int32) × (Nat → Int32)) (hf : f_X4_change v_T_undoMany v_T_drawn v_T_st v_T_refused v_T_ahead p1 = some o) : Met l yX4_change (Cond.code yX4_change cX4_change 3 (some .int) :: TB) { frames := 1, cells := 0, slots := 0, locals := 25 } (Pst g [(a_T, .inr (4, [.ref a_T_st, .long v_T_above, .long v_T_below, .ref a_T_refused, .ref a_T_text, .int v_T_bytes, .int v_T_place, .int v_T_token, .int v_T_value, .int v_T_begins, .ref a_T_row, .int v_T_toldHolders, .ref a_T_points, .ref a_T_used, .ref a_T_ahead, .int v_T_undoMany, .long v_T_drawn, .ref a_T_isKept, .ref a_T_kept, .ref a_T_keptAhead, .ref a_T_keptMany])), (a_T_st, .inl (gI g, 27, .inl v_T_st)), (a_T_refused, .inl (gI g, 3, .inl v_T_refused)), (a_T_ahead, .inl (gI g, 48, .inl v_T_ahead))] [.ref a_T, .int p1] sz) (Qst g [(a_T, .inr (4, [.ref a_T_st, .long v_T_above, .long v_T_below, .ref a_T_refused, .ref a_T_text, .int v_T_bytes, .int v_T_place, .int v_T_token, .int v_T_value, .int v_T_begins, .ref a_T_row, .int v_T_toldHolders, .ref a_T_points, .ref a_T_used, .ref a_T_ahead, .int o.2.1, .long o.2.2.1, .ref a_T_isKept, .ref a_T_kept, .ref a_T_keptAhead, .ref a_T_keptMany])), (a_T_st, .inl (gI g, 27, .inl o.2.2.2.1)), (a_T_refused, .inl (gI g, 3, .inl o.2.2.2.2.1)), (a_T_ahead, .inl (gI g, 48, .inl o.2.2.2.2.2))] (some (.int o.1)) (va_A [(a_T, .inr (4, [.ref a_T_st, .long v_T_above, .long v_T_below, .ref a_T_refused, .ref a_T_text, .int v_T_bytes, .int v_T_place, .int v_T_token, .int v_T_value, .int v_T_begins, .ref a_T_row, .int v_T_toldHolders, .ref a_T_points, .ref a_T_used, .ref a_T_ahead, .int v_T_undoMany, .long v_T_drawn, .ref a_T_isKept, .ref a_T_kept, .ref a_T_keptAhead, .ref a_T_keptMany])), (a_T_st, .inl (gI g, 27, .inl v_T_st)), (a_T_refused, .inl (gI g, 3, .inl v_T_refused)), (a_T_ahead, .inl (gI g, 48, .inl v_T_ahead))] sz)) 0 0 (va_A [(a_T, .inr (4, [.ref a_T_st, .long v_T_above, .long v_T_below, .ref a_T_refused, .ref a_T_text, .int v_T_bytes, .int v_T_place, .int v_T_token, .int v_T_value, .int v_T_begins, .ref a_T_row, .int v_T_toldHolders, .ref a_T_points, .ref a_T_used, .ref a_T_ahead, .int v_T_undoMany, .long v_T_drawn, .ref a_T_isKept, .ref a_T_kept, .ref a_T_keptAhead, .ref a_T_keptMany])), (a_T_st, .inl (gI g, 27, .inl v_T_st)), (a_T_refused, .inl (gI g, 3, .inl v_T_refused)), (a_T_ahead, .inl (gI g, 48, .inl v_T_ahead))] sz) := by
  unfold f_X4_change at hf
  refine zs_met (own := RX4) (plainFor_of_name (by decide)) rfl (Nat.le_of_ble_eq_true rfl) ?_
  intro p e s m below meth c A ls hX hB hR hM hT hO hK hN hA hE hP hD hS hl
  have hl : lv_has ls 3 [(0, .ref a_T), (1, .int p1)] := hl
  refine lv_iload_n (pc := 0) hX hB dX4_change_0 rfl (lv_at hl 1 rfl) ?_
  refine lv_i2l (pc := 1) (v := p1.toInt64) hX hB dX4_change_1 rfl ?_
  refine lv_lconst (pc := 2) (v := 0) hX hB dX4_change_2 (by decide) ?_
  refine lv_ldc2 (pc := 3) (v := 999999) hX hB hO (hT _ tw_4_126) dX4_change_3 ?_
  obtain ⟨o1, hc, hf⟩ := zs_bind hf
  refine zs_S (pc := 6) (As := [.long p1.toInt64, .long (0 : Int64), .long (999999 : Int64)]) (rest := []) (st1 := [.int o1]) (wc := []) (wr := [(a_T, .inr (4, [.ref a_T_st, .long v_T_above, .long v_T_below, .ref a_T_refused, .ref a_T_text, .int v_T_bytes, .int v_T_place, .int v_T_token, .int v_T_value, .int v_T_begins, .ref a_T_row, .int v_T_toldHolders, .ref a_T_points, .ref a_T_used, .ref a_T_ahead, .int v_T_undoMany, .long v_T_drawn, .ref a_T_isKept, .ref a_T_kept, .ref a_T_keptAhead, .ref a_T_keptMany])), (a_T_st, .inl (gI g, 27, .inl v_T_st)), (a_T_refused, .inl (gI g, 3, .inl v_T_refused)), (a_T_ahead, .inl (gI g, 48, .inl v_T_ahead))]) (w1 := []) (w2 := [(a_T, .inr (4, [.ref a_T_st, .long v_T_above, .long v_T_below, .ref a_T_refused, .ref a_T_text, .int v_T_bytes, .int v_T_place, .int v_T_token, .int v_T_value, .int v_T_begins, .ref a_T_row, .int v_T_toldHolders, .ref a_T_points, .ref a_T_used, .ref a_T_ahead, .int v_T_undoMany, .long v_T_drawn, .ref a_T_isKept, .ref a_T_kept, .ref a_T_keptAhead, .ref a_T_keptMany])), (a_T_st, .inl (gI g, 27, .inl v_T_st)), (a_T_refused, .inl (gI g, 3, .inl v_T_refused)), (a_T_ahead, .inl (gI g, 48, .inl v_T_ahead))]) (ov := some (.int o1)) lb_X4_in lk_X4_52 hX hB hM hO hT hE hP hD hS hA (c_X4_in l g _ p1.toInt64 (0 : Int64) (999999 : Int64) o1 hc) ⟨rfl, rfl⟩ ⟨Nat.le_of_ble_eq_true rfl, Nat.le_of_ble_eq_true rfl⟩ [] [0, 1, 2, 3] [0, 1, 2, 3] rfl rfl rfl rfl (by decide) rfl rfl rfl rfl hl.1 (Nat.le_of_ble_eq_true rfl) ⟨Nat.zero_le _, Nat.zero_le _⟩ rfl dX4_change_6 (fun H locs hP hD hS => ?_)
  refine lv_if_ne (pc := 9) (tgt := 17) hX hB dX4_change_9 (by decide) (fun hq => ?_) (fun hq => ?_)
  · have hf := zs_in hf hq
    refine lv_aload_n (pc := 17) hX hB dX4_change_17 rfl (lv_at hl 0 rfl) ?_
    obtain ⟨o2, hc, hf⟩ := zs_bind hf
    refine zs_V (q := (RX4, TX4, 21)) (ci := 4) (q0 := 0) (b := a_T) (pc := 18) (As := []) (rest := []) (st1 := []) (wc := [(a_T, .inr (4, [.ref a_T_st, .long v_T_above, .long v_T_below, .ref a_T_refused, .ref a_T_text, .int v_T_bytes, .int v_T_place, .int v_T_token, .int v_T_value, .int v_T_begins, .ref a_T_row, .int v_T_toldHolders, .ref a_T_points, .ref a_T_used, .ref a_T_ahead, .int v_T_undoMany, .long v_T_drawn, .ref a_T_isKept, .ref a_T_kept, .ref a_T_keptAhead, .ref a_T_keptMany])), (a_T_st, .inl (gI g, 27, .inl v_T_st)), (a_T_ahead, .inl (gI g, 48, .inl v_T_ahead))]) (wr := [(a_T_refused, .inl (gI g, 3, .inl v_T_refused))]) (w1 := [(a_T, .inr (4, [.ref a_T_st, .long v_T_above, .long v_T_below, .ref a_T_refused, .ref a_T_text, .int v_T_bytes, .int v_T_place, .int v_T_token, .int v_T_value, .int v_T_begins, .ref a_T_row, .int v_T_toldHolders, .ref a_T_points, .ref a_T_used, .ref a_T_ahead, .int o2.1, .long v_T_drawn, .ref a_T_isKept, .ref a_T_kept, .ref a_T_keptAhead, .ref a_T_keptMany])), (a_T_st, .inl (gI g, 27, .inl v_T_st)), (a_T_ahead, .inl (gI g, 48, .inl o2.2))]) (w2 := [(a_T, .inr (4, [.ref a_T_st, .long v_T_above, .long v_T_below, .ref a_T_refused, .ref a_T_text, .int v_T_bytes, .int v_T_place, .int v_T_token, .int v_T_value, .int v_T_begins, .ref a_T_row, .int v_T_toldHolders, .ref a_T_points, .ref a_T_used, .ref a_T_ahead, .int o2.1, .long v_T_drawn, .ref a_T_isKept, .ref a_T_kept, .ref a_T_keptAhead, .ref a_T_keptMany])), (a_T_st, .inl (gI g, 27, .inl v_T_st)), (a_T_refused, .inl (gI g, 3, .inl v_T_refused)), (a_T_ahead, .inl (gI g, 48, .inl o2.2))]) (ov := none) lb_X4_note lk_X4_167 hX hB hM hO hT hE hP hD hS hA (c_X4_note l g _ a_T a_T_refused a_T_text a_T_row a_T_points a_T_used a_T_isKept a_T_kept a_T_keptAhead a_T_keptMany a_T_st a_T_ahead v_T_above v_T_below v_T_bytes v_T_place v_T_token v_T_value v_T_begins v_T_toldHolders v_T_undoMany v_T_drawn v_T_st v_T_ahead o2 hc) ⟨rfl, rfl⟩ ⟨Nat.le_of_ble_eq_true rfl, Nat.le_of_ble_eq_true rfl⟩ rfl rfl [0, 1, 3] [2] [1, 2, 0, 3] rfl rfl rfl rfl (by decide) rfl rfl rfl rfl hl.1 (Nat.le_of_ble_eq_true rfl) ⟨Nat.zero_le _, Nat.zero_le _⟩ rfl dX4_change_18 (fun H locs hP hD hS => ?_)
    refine lv_aload_n (pc := 21) hX hB dX4_change_21 rfl (lv_at hl 0 rfl) ?_
    refine lv_iload_n (pc := 22) hX hB dX4_change_22 rfl (lv_at hl 1 rfl) ?_
    refine lv_i2l (pc := 23) (v := p1.toInt64) hX hB dX4_change_23 rfl ?_
    refine pf_X4_173 (pc := 24) (x := p1.toInt64) (w2 := [(a_T, .inr (4, [.ref a_T_st, .long v_T_above, .long v_T_below, .ref a_T_refused, .ref a_T_text, .int v_T_bytes, .int v_T_place, .int v_T_token, .int v_T_value, .int v_T_begins, .ref a_T_row, .int v_T_toldHolders, .ref a_T_points, .ref a_T_used, .ref a_T_ahead, .int o2.1, .long p1.toInt64, .ref a_T_isKept, .ref a_T_kept, .ref a_T_keptAhead, .ref a_T_keptMany])), (a_T_st, .inl (gI g, 27, .inl v_T_st)), (a_T_refused, .inl (gI g, 3, .inl v_T_refused)), (a_T_ahead, .inl (gI g, 48, .inl o2.2))]) hX hB hT hO hE hP hD hS 0 rfl (Nat.le_of_ble_eq_true rfl) rfl dX4_change_24 (fun H locs hP hD hS => ?_)
    refine lv_iconst (pc := 27) (v := 1) hX hB dX4_change_27 (by decide) ?_
    refine lv_istore_n (pc := 28) (lv' := [(2, .int (1 : Int32)), (0, .ref a_T), (1, .int p1)]) hX hB dX4_change_28 rfl hl (by decide) rfl (fun ls hl => ?_)
    obtain ⟨y4, hj, hf⟩ := zs_bind hf
    refine zs_then (α := Unit) (fun _ H locs ls => CC g A s.heap 3 [(a_T, .inr (4, [.ref a_T_st, .long v_T_above, .long v_T_below, .ref a_T_refused, .ref a_T_text, .int v_T_bytes, .int v_T_place, .int v_T_token, .int v_T_value, .int v_T_begins, .ref a_T_row, .int v_T_toldHolders, .ref a_T_points, .ref a_T_used, .ref a_T_ahead, .int o2.1, .long y4.1, .ref a_T_isKept, .ref a_T_kept, .ref a_T_keptAhead, .ref a_T_keptMany])), (a_T_st, .inl (gI g, 27, .inl y4.2)), (a_T_refused, .inl (gI g, 3, .inl v_T_refused)), (a_T_ahead, .inl (gI g, 48, .inl o2.2))] [(0, .ref a_T)] H locs ls) (fun _ ls => F0 m 75 ls []) (fun _ H locs ls hC => ?_) (fun X => ?_)
    · obtain ⟨hP, hD, hS, hl⟩ := hC
      refine lv_aload_n (pc := 75) hX hB dX4_change_75 rfl (lv_at hl 0 rfl) ?_
      refine gf_X4_7 (pc := 76) (v := .ref a_T_st) hX hB hT hO hE hP 0 rfl rfl dX4_change_76 ?_
      refine lv_iconst (pc := 79) (v := 1) hX hB dX4_change_79 (by decide) ?_
      obtain ⟨hg, hf⟩ := zs_gd hf
      refine va_iald (pc := 80) hX hB hE.1 hP 1 0 rfl rfl (zs_inb hg) dX4_change_80 ?_
      refine lv_iconst (pc := 81) (v := 1) hX hB dX4_change_81 (by decide) ?_
      refine lv_isub (pc := 82) hX hB dX4_change_82 ?_
      obtain rfl := Option.some.inj hf
      exact zs_iret (pc := 83) hX hB hR hK hP hD hS dX4_change_83
    · refine zs_loop (fun x3 H locs ls => CC g A s.heap 3 [(a_T, .inr (4, [.ref a_T_st, .long v_T_above, .long v_T_below, .ref a_T_refused, .ref a_T_text, .int v_T_bytes, .int v_T_place, .int v_T_token, .int v_T_value, .int v_T_begins, .ref a_T_row, .int v_T_toldHolders, .ref a_T_points, .ref a_T_used, .ref a_T_ahead, .int o2.1, .long x3.2.1, .ref a_T_isKept, .ref a_T_kept, .ref a_T_keptAhead, .ref a_T_keptMany])), (a_T_st, .inl (gI g, 27, .inl x3.2.2)), (a_T_refused, .inl (gI g, 3, .inl v_T_refused)), (a_T_ahead, .inl (gI g, 48, .inl o2.2))] [(0, .ref a_T), (2, .int x3.1)] H locs ls) hj (fun n x3 q hf hr ih H locs ls hC => ?_) ⟨hP, hD, hS, lv_sub hl [1, 0] rfl⟩
      obtain ⟨hP, hD, hS, hl⟩ := hC
      unfold b_X4_change_29 at hf
      refine lv_iload_n (pc := 29) hX hB dX4_change_29 rfl (lv_at hl 1 rfl) ?_
      refine lv_aload_n (pc := 30) hX hB dX4_change_30 rfl (lv_at hl 0 rfl) ?_
      refine gf_X4_7 (pc := 31) (v := .ref a_T_st) hX hB hT hO hE hP 0 rfl rfl dX4_change_31 ?_
      refine lv_iconst (pc := 34) (v := 1) hX hB dX4_change_34 (by decide) ?_
      obtain ⟨hg, hf⟩ := zs_gd hf
      refine va_iald (pc := 35) hX hB hE.1 hP 1 0 rfl rfl (zs_inb hg) dX4_change_35 ?_
      refine lv_icmp_ge (pc := 36) (tgt := 75) hX hB dX4_change_36 (by decide) (fun hq => ?_) (fun hq => ?_)
      · have hf := zs_ip hf hq
        obtain rfl := Option.some.inj hf
        obtain rfl := hr
        exact X () _ _ _ ⟨hP, hD, hS, lv_sub hl [0] rfl⟩
      · have hf := zs_in hf hq
        refine lv_aload_n (pc := 39) hX hB dX4_change_39 rfl (lv_at hl 0 rfl) ?_
        refine gf_X4_7 (pc := 40) (v := .ref a_T_st) hX hB hT hO hE hP 0 rfl rfl dX4_change_40 ?_
        refine lv_iconst (pc := 43) (v := 2) hX hB dX4_change_43 (by decide) ?_
        refine lv_iload_n (pc := 44) hX hB dX4_change_44 rfl (lv_at hl 1 rfl) ?_
        refine lv_iadd (pc := 45) hX hB dX4_change_45 ?_
        refine lv_iconst (pc := 46) (v := 1) hX hB dX4_change_46 (by decide) ?_
        refine lv_isub (pc := 47) hX hB dX4_change_47 ?_
        refine lv_aload_n (pc := 48) hX hB dX4_change_48 rfl (lv_at hl 0 rfl) ?_
        refine gf_X4_7 (pc := 49) (v := .ref a_T_st) hX hB hT hO hE hP 0 rfl rfl dX4_change_49 ?_
        refine lv_iconst (pc := 52) (v := 2) hX hB dX4_change_52 (by decide) ?_
        refine lv_iload_n (pc := 53) hX hB dX4_change_53 rfl (lv_at hl 1 rfl) ?_
        refine lv_iadd (pc := 54) hX hB dX4_change_54 ?_
        refine lv_iconst (pc := 55) (v := 1) hX hB dX4_change_55 (by decide) ?_
        refine lv_isub (pc := 56) hX hB dX4_change_56 ?_
        obtain ⟨hg, hf⟩ := zs_gd hf
        refine va_iald (pc := 57) hX hB hE.1 hP 1 0 rfl rfl (zs_inb hg) dX4_change_57 ?_
        refine lv_aload_n (pc := 58) hX hB dX4_change_58 rfl (lv_at hl 0 rfl) ?_
        refine lv_bipush (pc := 59) (v := 97) hX hB dX4_change_59 (by decide) ?_
        obtain ⟨o5, hc, hf⟩ := zs_bind hf
        refine zs_V (q := (RX4, TX4, 21)) (ci := 4) (q0 := 0) (b := a_T) (pc := 61) (As := [.int (97 : Int32)]) (rest := [.int (x3.2.2 (((2 : Int32) + x3.1) - (1 : Int32)).toNatClampNeg), .int (((2 : Int32) + x3.1) - (1 : Int32)), .ref a_T_st]) (st1 := [.int o5.1, .int (x3.2.2 (((2 : Int32) + x3.1) - (1 : Int32)).toNatClampNeg), .int (((2 : Int32) + x3.1) - (1 : Int32)), .ref a_T_st]) (wc := [(a_T, .inr (4, [.ref a_T_st, .long v_T_above, .long v_T_below, .ref a_T_refused, .ref a_T_text, .int v_T_bytes, .int v_T_place, .int v_T_token, .int v_T_value, .int v_T_begins, .ref a_T_row, .int v_T_toldHolders, .ref a_T_points, .ref a_T_used, .ref a_T_ahead, .int o2.1, .long x3.2.1, .ref a_T_isKept, .ref a_T_kept, .ref a_T_keptAhead, .ref a_T_keptMany]))]) (wr := [(a_T_st, .inl (gI g, 27, .inl x3.2.2)), (a_T_refused, .inl (gI g, 3, .inl v_T_refused)), (a_T_ahead, .inl (gI g, 48, .inl o2.2))]) (w1 := [(a_T, .inr (4, [.ref a_T_st, .long v_T_above, .long v_T_below, .ref a_T_refused, .ref a_T_text, .int v_T_bytes, .int v_T_place, .int v_T_token, .int v_T_value, .int v_T_begins, .ref a_T_row, .int v_T_toldHolders, .ref a_T_points, .ref a_T_used, .ref a_T_ahead, .int o2.1, .long o5.2, .ref a_T_isKept, .ref a_T_kept, .ref a_T_keptAhead, .ref a_T_keptMany]))]) (w2 := [(a_T, .inr (4, [.ref a_T_st, .long v_T_above, .long v_T_below, .ref a_T_refused, .ref a_T_text, .int v_T_bytes, .int v_T_place, .int v_T_token, .int v_T_value, .int v_T_begins, .ref a_T_row, .int v_T_toldHolders, .ref a_T_points, .ref a_T_used, .ref a_T_ahead, .int o2.1, .long o5.2, .ref a_T_isKept, .ref a_T_kept, .ref a_T_keptAhead, .ref a_T_keptMany])), (a_T_st, .inl (gI g, 27, .inl x3.2.2)), (a_T_refused, .inl (gI g, 3, .inl v_T_refused)), (a_T_ahead, .inl (gI g, 48, .inl o2.2))]) (ov := some (.int o5.1)) lb_X4_draw lk_X4_186 hX hB hM hO hT hE hP hD hS hA (c_X4_draw l g _ a_T a_T_st a_T_refused a_T_text a_T_row a_T_points a_T_used a_T_ahead a_T_isKept a_T_kept a_T_keptAhead a_T_keptMany v_T_above v_T_below v_T_bytes v_T_place v_T_token v_T_value v_T_begins v_T_toldHolders o2.1 x3.2.1 (97 : Int32) o5 hc) ⟨rfl, rfl⟩ ⟨Nat.le_of_ble_eq_true rfl, Nat.le_of_ble_eq_true rfl⟩ rfl rfl [0] [1, 2, 3] [3, 0, 1, 2] rfl rfl rfl rfl (by decide) rfl rfl rfl rfl hl.1 (Nat.le_of_ble_eq_true rfl) ⟨Nat.zero_le _, Nat.zero_le _⟩ rfl dX4_change_61 (fun H locs hP hD hS => ?_)
        refine lv_iadd (pc := 64) hX hB dX4_change_64 ?_
        refine lv_bipush (pc := 65) (v := 97) hX hB dX4_change_65 (by decide) ?_
        refine zs_irem (pc := 67) hX hB dX4_change_67 (by decide) ?_
        obtain ⟨hg, hf⟩ := zs_gd hf
        refine zs_iast (pc := 68) (w2 := [(a_T, .inr (4, [.ref a_T_st, .long v_T_above, .long v_T_below, .ref a_T_refused, .ref a_T_text, .int v_T_bytes, .int v_T_place, .int v_T_token, .int v_T_value, .int v_T_begins, .ref a_T_row, .int v_T_toldHolders, .ref a_T_points, .ref a_T_used, .ref a_T_ahead, .int o2.1, .long o5.2, .ref a_T_isKept, .ref a_T_kept, .ref a_T_keptAhead, .ref a_T_keptMany])), (a_T_st, .inl (gI g, 27, .inl (upd x3.2.2 (((2 : Int32) + x3.1) - (1 : Int32)).toNatClampNeg (jrem ((x3.2.2 (((2 : Int32) + x3.1) - (1 : Int32)).toNatClampNeg) + o5.1) (97 : Int32))))), (a_T_refused, .inl (gI g, 3, .inl v_T_refused)), (a_T_ahead, .inl (gI g, 48, .inl o2.2))]) hX hB hE hP hD hS 1 rfl (zs_inb hg) rfl dX4_change_68 (fun H locs hP hD hS => ?_)
        refine lv_iinc (pc := 69) (v := x3.1 + (1 : Int32)) (lv' := [(2, .int (x3.1 + (1 : Int32))), (0, .ref a_T)]) hX hB dX4_change_69 hl (k := 1) rfl rfl (by decide) rfl (fun ls hl => ?_)
        refine lv_goto (pc := 72) (tgt := 29) hX hB dX4_change_72 (by decide) ?_
        obtain rfl := Option.some.inj hf
        exact ih _ hr _ _ _ ⟨hP, hD, hS, lv_sub hl [1, 0] rfl⟩
  · have hf := zs_ip hf hq
    refine lv_aload_n (pc := 12) hX hB dX4_change_12 rfl (lv_at hl 0 rfl) ?_
    obtain ⟨o6, hc, hf⟩ := zs_bind hf
    refine zs_V (q := (RX4, TX4, 21)) (ci := 4) (q0 := 0) (b := a_T) (pc := 13) (As := []) (rest := []) (st1 := [.int o6.1]) (wc := [(a_T, .inr (4, [.ref a_T_st, .long v_T_above, .long v_T_below, .ref a_T_refused, .ref a_T_text, .int v_T_bytes, .int v_T_place, .int v_T_token, .int v_T_value, .int v_T_begins, .ref a_T_row, .int v_T_toldHolders, .ref a_T_points, .ref a_T_used, .ref a_T_ahead, .int v_T_undoMany, .long v_T_drawn, .ref a_T_isKept, .ref a_T_kept, .ref a_T_keptAhead, .ref a_T_keptMany])), (a_T_refused, .inl (gI g, 3, .inl v_T_refused))]) (wr := [(a_T_st, .inl (gI g, 27, .inl v_T_st)), (a_T_ahead, .inl (gI g, 48, .inl v_T_ahead))]) (w1 := [(a_T, .inr (4, [.ref a_T_st, .long v_T_above, .long v_T_below, .ref a_T_refused, .ref a_T_text, .int v_T_bytes, .int v_T_place, .int v_T_token, .int v_T_value, .int v_T_begins, .ref a_T_row, .int v_T_toldHolders, .ref a_T_points, .ref a_T_used, .ref a_T_ahead, .int v_T_undoMany, .long v_T_drawn, .ref a_T_isKept, .ref a_T_kept, .ref a_T_keptAhead, .ref a_T_keptMany])), (a_T_refused, .inl (gI g, 3, .inl o6.2))]) (w2 := [(a_T, .inr (4, [.ref a_T_st, .long v_T_above, .long v_T_below, .ref a_T_refused, .ref a_T_text, .int v_T_bytes, .int v_T_place, .int v_T_token, .int v_T_value, .int v_T_begins, .ref a_T_row, .int v_T_toldHolders, .ref a_T_points, .ref a_T_used, .ref a_T_ahead, .int v_T_undoMany, .long v_T_drawn, .ref a_T_isKept, .ref a_T_kept, .ref a_T_keptAhead, .ref a_T_keptMany])), (a_T_st, .inl (gI g, 27, .inl v_T_st)), (a_T_refused, .inl (gI g, 3, .inl o6.2)), (a_T_ahead, .inl (gI g, 48, .inl v_T_ahead))]) (ov := some (.int o6.1)) lb_X4_bad lk_X4_64 hX hB hM hO hT hE hP hD hS hA (c_X4_bad l g _ a_T a_T_st a_T_text a_T_row a_T_points a_T_used a_T_ahead a_T_isKept a_T_kept a_T_keptAhead a_T_keptMany a_T_refused v_T_above v_T_below v_T_bytes v_T_place v_T_token v_T_value v_T_begins v_T_toldHolders v_T_undoMany v_T_drawn v_T_refused o6 hc) ⟨rfl, rfl⟩ ⟨Nat.le_of_ble_eq_true rfl, Nat.le_of_ble_eq_true rfl⟩ rfl rfl [0, 2] [1, 3] [2, 0, 3, 1] rfl rfl rfl rfl (by decide) rfl rfl rfl rfl hl.1 (Nat.le_of_ble_eq_true rfl) ⟨Nat.zero_le _, Nat.zero_le _⟩ rfl dX4_change_13 (fun H locs hP hD hS => ?_)
    obtain rfl := Option.some.inj hf
    exact zs_iret (pc := 16) hX hB hR hK hP hD hS dX4_change_16

def f_X4_clear (v_T_bytes : Int32) : Option (Int32 × Int32) :=
  some (v_T_bytes, (0 : Int32))
set_option maxHeartbeats 4000000 in
set_option maxRecDepth 100000 in
theorem c_X4_clear (l : Launch) (g : GG) (sz : Nat) (a_T a_T_st a_T_refused a_T_text a_T_row a_T_points a_T_used a_T_ahead a_T_isKept a_T_kept a_T_keptAhead a_T_keptMany : Nat) (v_T_above : Int64) (v_T_below : Int64) (v_T_bytes : Int32) (v_T_place : Int32) (v_T_token : Int32) (v_T_value : Int32) (v_T_begins : Int32) (v_T_toldHolders : Int32) (v_T_undoMany : Int32) (v_T_drawn : Int64) (o : Int32 × Int32) (hf : f_X4_clear v_T_bytes = some o) : Met l yX4_clear (Cond.code yX4_clear cX4_clear 2 (some .int) :: TB) { frames := 0, cells := 0, slots := 0, locals := 0 } (Pst g [(a_T, .inr (4, [.ref a_T_st, .long v_T_above, .long v_T_below, .ref a_T_refused, .ref a_T_text, .int v_T_bytes, .int v_T_place, .int v_T_token, .int v_T_value, .int v_T_begins, .ref a_T_row, .int v_T_toldHolders, .ref a_T_points, .ref a_T_used, .ref a_T_ahead, .int v_T_undoMany, .long v_T_drawn, .ref a_T_isKept, .ref a_T_kept, .ref a_T_keptAhead, .ref a_T_keptMany]))] [.ref a_T] sz) (Qst g [(a_T, .inr (4, [.ref a_T_st, .long v_T_above, .long v_T_below, .ref a_T_refused, .ref a_T_text, .int o.2, .int v_T_place, .int v_T_token, .int v_T_value, .int v_T_begins, .ref a_T_row, .int v_T_toldHolders, .ref a_T_points, .ref a_T_used, .ref a_T_ahead, .int v_T_undoMany, .long v_T_drawn, .ref a_T_isKept, .ref a_T_kept, .ref a_T_keptAhead, .ref a_T_keptMany]))] (some (.int o.1)) (va_A [(a_T, .inr (4, [.ref a_T_st, .long v_T_above, .long v_T_below, .ref a_T_refused, .ref a_T_text, .int v_T_bytes, .int v_T_place, .int v_T_token, .int v_T_value, .int v_T_begins, .ref a_T_row, .int v_T_toldHolders, .ref a_T_points, .ref a_T_used, .ref a_T_ahead, .int v_T_undoMany, .long v_T_drawn, .ref a_T_isKept, .ref a_T_kept, .ref a_T_keptAhead, .ref a_T_keptMany]))] sz)) 0 0 (va_A [(a_T, .inr (4, [.ref a_T_st, .long v_T_above, .long v_T_below, .ref a_T_refused, .ref a_T_text, .int v_T_bytes, .int v_T_place, .int v_T_token, .int v_T_value, .int v_T_begins, .ref a_T_row, .int v_T_toldHolders, .ref a_T_points, .ref a_T_used, .ref a_T_ahead, .int v_T_undoMany, .long v_T_drawn, .ref a_T_isKept, .ref a_T_kept, .ref a_T_keptAhead, .ref a_T_keptMany]))] sz) := by
  unfold f_X4_clear at hf
  refine zs_met (own := RX4) (plainFor_of_name (by decide)) rfl (Nat.le_of_ble_eq_true rfl) ?_
  intro p e s m below meth c A ls hX hB hR hM hT hO hK hN hA hE hP hD hS hl
  have hl : lv_has ls 2 [(0, .ref a_T)] := hl
  refine lv_aload_n (pc := 0) hX hB dX4_clear_0 rfl (lv_at hl 0 rfl) ?_
  refine gf_X4_80 (pc := 1) (v := .int v_T_bytes) hX hB hT hO hE hP 0 rfl rfl dX4_clear_1 ?_
  refine lv_istore_n (pc := 4) (lv' := [(1, .int v_T_bytes), (0, .ref a_T)]) hX hB dX4_clear_4 rfl hl (by decide) rfl (fun ls hl => ?_)
  refine lv_aload_n (pc := 5) hX hB dX4_clear_5 rfl (lv_at hl 1 rfl) ?_
  refine lv_iconst (pc := 6) (v := 0) hX hB dX4_clear_6 (by decide) ?_
  refine pf_X4_80 (pc := 7) (x := (0 : Int32)) (w2 := [(a_T, .inr (4, [.ref a_T_st, .long v_T_above, .long v_T_below, .ref a_T_refused, .ref a_T_text, .int (0 : Int32), .int v_T_place, .int v_T_token, .int v_T_value, .int v_T_begins, .ref a_T_row, .int v_T_toldHolders, .ref a_T_points, .ref a_T_used, .ref a_T_ahead, .int v_T_undoMany, .long v_T_drawn, .ref a_T_isKept, .ref a_T_kept, .ref a_T_keptAhead, .ref a_T_keptMany]))]) hX hB hT hO hE hP hD hS 0 rfl (Nat.le_of_ble_eq_true rfl) rfl dX4_clear_7 (fun H locs hP hD hS => ?_)
  refine lv_iload_n (pc := 10) hX hB dX4_clear_10 rfl (lv_at hl 0 rfl) ?_
  obtain rfl := Option.some.inj hf
  exact zs_iret (pc := 11) hX hB hR hK hP hD hS dX4_clear_11

def b_X4_shareOf_18 (v_P1 : Nat → Int32) (p2 : Int32) (p3 : Int32) (n1 : Nat) (x1 : Int32 × Int32 × Int32) : Option ((Int32 × Int32 × Int32) ⊕ (Int32)) :=
  gd (inb (p2 + (1 : Int32)) n1) (if (v_P1 (p2 + (1 : Int32)).toNatClampNeg) ≤ x1.2.2 then (some (Sum.inr x1.2.1)) else (gd (inb (((p2 + (2 : Int32)) + x1.2.2) - (1 : Int32)) n1) (nm (jrem (x1.2.1 + ((v_P1 (((p2 + (2 : Int32)) + x1.2.2) - (1 : Int32)).toNatClampNeg) * (jrem (x1.1 * (p3 + (1 : Int32))) (97 : Int32)))) (97 : Int32)) (fun w3 => some (Sum.inl (jrem (x1.1 * (p3 + (1 : Int32))) (97 : Int32), w3, x1.2.2 + (1 : Int32)))))))
def f_X4_shareOf (n1 : Nat) (v_P1 : Nat → Int32) (p2 : Int32) (p3 : Int32) : Option (Int32) :=
  gd (inb (p2 + (0 : Int32)) n1) ((lp (b_X4_shareOf_18 v_P1 p2 p3 n1) 200 ((1 : Int32), v_P1 (p2 + (0 : Int32)).toNatClampNeg, (1 : Int32))).bind (fun y2 => some y2))
set_option maxHeartbeats 4000000 in
set_option maxRecDepth 100000 in
theorem c_X4_shareOf (l : Launch) (g : GG) (sz : Nat) (a_P1 a_T : Nat) (n1 : Nat) (v_P1 : Nat → Int32) (p2 : Int32) (p3 : Int32) (o : Int32) (hf : f_X4_shareOf n1 v_P1 p2 p3 = some o) : Met l yX4_shareOf (Cond.code yX4_shareOf cX4_shareOf 8 (some .int) :: TB) { frames := 0, cells := 0, slots := 0, locals := 0 } (Pst g [(a_P1, .inl (gI g, n1, .inl v_P1))] [.ref a_T, .ref a_P1, .int p2, .int p3] sz) (Qst g [(a_P1, .inl (gI g, n1, .inl v_P1))] (some (.int o)) (va_A [(a_P1, .inl (gI g, n1, .inl v_P1))] sz)) 0 0 (va_A [(a_P1, .inl (gI g, n1, .inl v_P1))] sz) := by
  unfold f_X4_shareOf at hf
  refine zs_met (own := RX4) (plainFor_of_name (by decide)) rfl (Nat.le_of_ble_eq_true rfl) ?_
  intro p e s m below meth c A ls hX hB hR hM hT hO hK hN hA hE hP hD hS hl
  have hl : lv_has ls 8 [(0, .ref a_T), (1, .ref a_P1), (2, .int p2), (3, .int p3)] := hl
  refine lv_iload_n (pc := 0) hX hB dX4_shareOf_0 rfl (lv_at hl 3 rfl) ?_
  refine lv_iconst (pc := 1) (v := 1) hX hB dX4_shareOf_1 (by decide) ?_
  refine lv_iadd (pc := 2) hX hB dX4_shareOf_2 ?_
  refine lv_istore (pc := 3) (lv' := [(4, .int (p3 + (1 : Int32))), (0, .ref a_T), (1, .ref a_P1), (2, .int p2), (3, .int p3)]) hX hB dX4_shareOf_3 hl (by decide) rfl (fun ls hl => ?_)
  refine lv_iconst (pc := 5) (v := 1) hX hB dX4_shareOf_5 (by decide) ?_
  refine lv_istore (pc := 6) (lv' := [(5, .int (1 : Int32)), (4, .int (p3 + (1 : Int32))), (0, .ref a_T), (1, .ref a_P1), (2, .int p2), (3, .int p3)]) hX hB dX4_shareOf_6 hl (by decide) rfl (fun ls hl => ?_)
  refine lv_aload_n (pc := 8) hX hB dX4_shareOf_8 rfl (lv_at hl 3 rfl) ?_
  refine lv_iload_n (pc := 9) hX hB dX4_shareOf_9 rfl (lv_at hl 4 rfl) ?_
  refine lv_iconst (pc := 10) (v := 0) hX hB dX4_shareOf_10 (by decide) ?_
  refine lv_iadd (pc := 11) hX hB dX4_shareOf_11 ?_
  obtain ⟨hg, hf⟩ := zs_gd hf
  refine va_iald (pc := 12) hX hB hE.1 hP 0 0 rfl rfl (zs_inb hg) dX4_shareOf_12 ?_
  refine lv_istore (pc := 13) (lv' := [(6, .int (v_P1 (p2 + (0 : Int32)).toNatClampNeg)), (5, .int (1 : Int32)), (4, .int (p3 + (1 : Int32))), (0, .ref a_T), (1, .ref a_P1), (2, .int p2), (3, .int p3)]) hX hB dX4_shareOf_13 hl (by decide) rfl (fun ls hl => ?_)
  refine lv_iconst (pc := 15) (v := 1) hX hB dX4_shareOf_15 (by decide) ?_
  refine lv_istore (pc := 16) (lv' := [(7, .int (1 : Int32)), (6, .int (v_P1 (p2 + (0 : Int32)).toNatClampNeg)), (5, .int (1 : Int32)), (4, .int (p3 + (1 : Int32))), (0, .ref a_T), (1, .ref a_P1), (2, .int p2), (3, .int p3)]) hX hB dX4_shareOf_16 hl (by decide) rfl (fun ls hl => ?_)
  obtain ⟨y2, hj, hf⟩ := zs_bind hf
  refine zs_then (α := Unit) (fun _ H locs ls => CC g A s.heap 8 [(a_P1, .inl (gI g, n1, .inl v_P1))] [(6, .int y2)] H locs ls) (fun _ ls => F0 m 65 ls []) (fun _ H locs ls hC => ?_) (fun X => ?_)
  · obtain ⟨hP, hD, hS, hl⟩ := hC
    refine lv_iload (pc := 65) hX hB dX4_shareOf_65 (lv_at hl 0 rfl) ?_
    obtain rfl := Option.some.inj hf
    exact zs_iret (pc := 67) hX hB hR hK hP hD hS dX4_shareOf_67
  · refine zs_loop (fun x1 H locs ls => CC g A s.heap 8 [(a_P1, .inl (gI g, n1, .inl v_P1))] [(1, .ref a_P1), (2, .int p2), (4, .int (p3 + (1 : Int32))), (5, .int x1.1), (6, .int x1.2.1), (7, .int x1.2.2)] H locs ls) hj (fun n x1 q hf hr ih H locs ls hC => ?_) ⟨hP, hD, hS, lv_sub hl [5, 6, 3, 2, 1, 0] rfl⟩
    obtain ⟨hP, hD, hS, hl⟩ := hC
    unfold b_X4_shareOf_18 at hf
    refine lv_iload (pc := 18) hX hB dX4_shareOf_18 (lv_at hl 5 rfl) ?_
    refine lv_aload_n (pc := 20) hX hB dX4_shareOf_20 rfl (lv_at hl 0 rfl) ?_
    refine lv_iload_n (pc := 21) hX hB dX4_shareOf_21 rfl (lv_at hl 1 rfl) ?_
    refine lv_iconst (pc := 22) (v := 1) hX hB dX4_shareOf_22 (by decide) ?_
    refine lv_iadd (pc := 23) hX hB dX4_shareOf_23 ?_
    obtain ⟨hg, hf⟩ := zs_gd hf
    refine va_iald (pc := 24) hX hB hE.1 hP 0 0 rfl rfl (zs_inb hg) dX4_shareOf_24 ?_
    refine lv_icmp_ge (pc := 25) (tgt := 65) hX hB dX4_shareOf_25 (by decide) (fun hq => ?_) (fun hq => ?_)
    · have hf := zs_ip hf hq
      obtain rfl := Option.some.inj hf
      obtain rfl := hr
      exact X () _ _ _ ⟨hP, hD, hS, lv_sub hl [4] rfl⟩
    · have hf := zs_in hf hq
      refine lv_iload (pc := 28) hX hB dX4_shareOf_28 (lv_at hl 3 rfl) ?_
      refine lv_iload (pc := 30) hX hB dX4_shareOf_30 (lv_at hl 2 rfl) ?_
      refine lv_imul (pc := 32) hX hB dX4_shareOf_32 ?_
      refine lv_bipush (pc := 33) (v := 97) hX hB dX4_shareOf_33 (by decide) ?_
      refine zs_irem (pc := 35) hX hB dX4_shareOf_35 (by decide) ?_
      refine lv_istore (pc := 36) (lv' := [(5, .int (jrem (x1.1 * (p3 + (1 : Int32))) (97 : Int32))), (1, .ref a_P1), (2, .int p2), (4, .int (p3 + (1 : Int32))), (6, .int x1.2.1), (7, .int x1.2.2)]) hX hB dX4_shareOf_36 hl (by decide) rfl (fun ls hl => ?_)
      refine lv_iload (pc := 38) hX hB dX4_shareOf_38 (lv_at hl 4 rfl) ?_
      refine lv_aload_n (pc := 40) hX hB dX4_shareOf_40 rfl (lv_at hl 1 rfl) ?_
      refine lv_iload_n (pc := 41) hX hB dX4_shareOf_41 rfl (lv_at hl 2 rfl) ?_
      refine lv_iconst (pc := 42) (v := 2) hX hB dX4_shareOf_42 (by decide) ?_
      refine lv_iadd (pc := 43) hX hB dX4_shareOf_43 ?_
      refine lv_iload (pc := 44) hX hB dX4_shareOf_44 (lv_at hl 5 rfl) ?_
      refine lv_iadd (pc := 46) hX hB dX4_shareOf_46 ?_
      refine lv_iconst (pc := 47) (v := 1) hX hB dX4_shareOf_47 (by decide) ?_
      refine lv_isub (pc := 48) hX hB dX4_shareOf_48 ?_
      obtain ⟨hg, hf⟩ := zs_gd hf
      refine va_iald (pc := 49) hX hB hE.1 hP 0 0 rfl rfl (zs_inb hg) dX4_shareOf_49 ?_
      refine lv_iload (pc := 50) hX hB dX4_shareOf_50 (lv_at hl 0 rfl) ?_
      refine lv_imul (pc := 52) hX hB dX4_shareOf_52 ?_
      refine lv_iadd (pc := 53) hX hB dX4_shareOf_53 ?_
      refine lv_bipush (pc := 54) (v := 97) hX hB dX4_shareOf_54 (by decide) ?_
      refine zs_irem (pc := 56) hX hB dX4_shareOf_56 (by decide) ?_
      obtain ⟨w3, ew3, hf⟩ := zs_nm hf
      rw [← ew3]
      refine lv_istore (pc := 57) (lv' := [(6, .int w3), (5, .int (jrem (x1.1 * (p3 + (1 : Int32))) (97 : Int32))), (1, .ref a_P1), (2, .int p2), (4, .int (p3 + (1 : Int32))), (7, .int x1.2.2)]) hX hB dX4_shareOf_57 hl (by decide) rfl (fun ls hl => ?_)
      refine lv_iinc (pc := 59) (v := x1.2.2 + (1 : Int32)) (lv' := [(7, .int (x1.2.2 + (1 : Int32))), (6, .int w3), (5, .int (jrem (x1.1 * (p3 + (1 : Int32))) (97 : Int32))), (1, .ref a_P1), (2, .int p2), (4, .int (p3 + (1 : Int32)))]) hX hB dX4_shareOf_59 hl (k := 5) rfl rfl (by decide) rfl (fun ls hl => ?_)
      refine lv_goto (pc := 62) (tgt := 18) hX hB dX4_shareOf_62 (by decide) ?_
      obtain rfl := Option.some.inj hf
      exact ih _ hr _ _ _ ⟨hP, hD, hS, lv_sub hl [3, 4, 5, 2, 1, 0] rfl⟩

def f_X4_toldOf (v_T_st : Nat → Int32) (p1 : Int32) (p2 : Int32) (p3 : Int32) (p4 : Int32) : Option (Int32) :=
  gd (inb ((9 : Int32) + p1) 27) (gd (inb ((15 : Int32) + p1) 27) (if (v_T_st ((9 : Int32) + p1).toNatClampNeg) = (1 : Int32) then (gd (decide (¬ ((jrem (v_T_st ((15 : Int32) + p1).toNatClampNeg) (5 : Int32)) + (2 : Int32)) = 0)) ((if (jrem p3 ((jrem (v_T_st ((15 : Int32) + p1).toNatClampNeg) (5 : Int32)) + (2 : Int32))) = (0 : Int32) then (some (1 : Int32)) else (if (v_T_st ((9 : Int32) + p1).toNatClampNeg) = (4 : Int32) then (if (jrem p3 (2 : Int32)) = (1 : Int32) then (some (1 : Int32)) else (some (0 : Int32))) else (some (0 : Int32)))).bind (fun y1 => if y1 = (0 : Int32) then (some p2) else (some (-1 : Int32))))) else (if (v_T_st ((9 : Int32) + p1).toNatClampNeg) = (4 : Int32) then (gd (decide (¬ ((jrem (v_T_st ((15 : Int32) + p1).toNatClampNeg) (5 : Int32)) + (2 : Int32)) = 0)) ((if (jrem p3 ((jrem (v_T_st ((15 : Int32) + p1).toNatClampNeg) (5 : Int32)) + (2 : Int32))) = (0 : Int32) then (some (1 : Int32)) else (if (v_T_st ((9 : Int32) + p1).toNatClampNeg) = (4 : Int32) then (if (jrem p3 (2 : Int32)) = (1 : Int32) then (some (1 : Int32)) else (some (0 : Int32))) else (some (0 : Int32)))).bind (fun y2 => if y2 = (0 : Int32) then (some p2) else (some (-1 : Int32))))) else (if (v_T_st ((9 : Int32) + p1).toNatClampNeg) = (0 : Int32) then (some p2) else (if (v_T_st ((9 : Int32) + p1).toNatClampNeg) = (3 : Int32) then (if p4 ≤ (2 : Int32) then (if (v_T_st ((9 : Int32) + p1).toNatClampNeg) = (5 : Int32) then (some (jrem ((p2 + (v_T_st ((15 : Int32) + p1).toNatClampNeg)) + p3) (97 : Int32))) else (some (jrem ((p2 + (v_T_st ((15 : Int32) + p1).toNatClampNeg)) + (0 : Int32)) (97 : Int32)))) else (some p2)) else (if (v_T_st ((9 : Int32) + p1).toNatClampNeg) = (5 : Int32) then (some (jrem ((p2 + (v_T_st ((15 : Int32) + p1).toNatClampNeg)) + p3) (97 : Int32))) else (some (jrem ((p2 + (v_T_st ((15 : Int32) + p1).toNatClampNeg)) + (0 : Int32)) (97 : Int32)))))))))
set_option maxHeartbeats 4000000 in
set_option maxRecDepth 100000 in
theorem c_X4_toldOf (l : Launch) (g : GG) (sz : Nat) (a_T a_T_refused a_T_text a_T_row a_T_points a_T_used a_T_ahead a_T_isKept a_T_kept a_T_keptAhead a_T_keptMany a_T_st : Nat) (v_T_above : Int64) (v_T_below : Int64) (v_T_bytes : Int32) (v_T_place : Int32) (v_T_token : Int32) (v_T_value : Int32) (v_T_begins : Int32) (v_T_toldHolders : Int32) (v_T_undoMany : Int32) (v_T_drawn : Int64) (v_T_st : Nat → Int32) (p1 : Int32) (p2 : Int32) (p3 : Int32) (p4 : Int32) (o : Int32) (hf : f_X4_toldOf v_T_st p1 p2 p3 p4 = some o) : Met l yX4_toldOf (Cond.code yX4_toldOf cX4_toldOf 8 (some .int) :: TB) { frames := 0, cells := 0, slots := 0, locals := 0 } (Pst g [(a_T, .inr (4, [.ref a_T_st, .long v_T_above, .long v_T_below, .ref a_T_refused, .ref a_T_text, .int v_T_bytes, .int v_T_place, .int v_T_token, .int v_T_value, .int v_T_begins, .ref a_T_row, .int v_T_toldHolders, .ref a_T_points, .ref a_T_used, .ref a_T_ahead, .int v_T_undoMany, .long v_T_drawn, .ref a_T_isKept, .ref a_T_kept, .ref a_T_keptAhead, .ref a_T_keptMany])), (a_T_st, .inl (gI g, 27, .inl v_T_st))] [.ref a_T, .int p1, .int p2, .int p3, .int p4] sz) (Qst g [(a_T, .inr (4, [.ref a_T_st, .long v_T_above, .long v_T_below, .ref a_T_refused, .ref a_T_text, .int v_T_bytes, .int v_T_place, .int v_T_token, .int v_T_value, .int v_T_begins, .ref a_T_row, .int v_T_toldHolders, .ref a_T_points, .ref a_T_used, .ref a_T_ahead, .int v_T_undoMany, .long v_T_drawn, .ref a_T_isKept, .ref a_T_kept, .ref a_T_keptAhead, .ref a_T_keptMany])), (a_T_st, .inl (gI g, 27, .inl v_T_st))] (some (.int o)) (va_A [(a_T, .inr (4, [.ref a_T_st, .long v_T_above, .long v_T_below, .ref a_T_refused, .ref a_T_text, .int v_T_bytes, .int v_T_place, .int v_T_token, .int v_T_value, .int v_T_begins, .ref a_T_row, .int v_T_toldHolders, .ref a_T_points, .ref a_T_used, .ref a_T_ahead, .int v_T_undoMany, .long v_T_drawn, .ref a_T_isKept, .ref a_T_kept, .ref a_T_keptAhead, .ref a_T_keptMany])), (a_T_st, .inl (gI g, 27, .inl v_T_st))] sz)) 0 0 (va_A [(a_T, .inr (4, [.ref a_T_st, .long v_T_above, .long v_T_below, .ref a_T_refused, .ref a_T_text, .int v_T_bytes, .int v_T_place, .int v_T_token, .int v_T_value, .int v_T_begins, .ref a_T_row, .int v_T_toldHolders, .ref a_T_points, .ref a_T_used, .ref a_T_ahead, .int v_T_undoMany, .long v_T_drawn, .ref a_T_isKept, .ref a_T_kept, .ref a_T_keptAhead, .ref a_T_keptMany])), (a_T_st, .inl (gI g, 27, .inl v_T_st))] sz) := by
  unfold f_X4_toldOf at hf
  refine zs_met (own := RX4) (plainFor_of_name (by decide)) rfl (Nat.le_of_ble_eq_true rfl) ?_
  intro p e s m below meth c A ls hX hB hR hM hT hO hK hN hA hE hP hD hS hl
  have hl : lv_has ls 8 [(0, .ref a_T), (1, .int p1), (2, .int p2), (3, .int p3), (4, .int p4)] := hl
  refine lv_aload_n (pc := 0) hX hB dX4_toldOf_0 rfl (lv_at hl 0 rfl) ?_
  refine gf_X4_7 (pc := 1) (v := .ref a_T_st) hX hB hT hO hE hP 0 rfl rfl dX4_toldOf_1 ?_
  refine lv_bipush (pc := 4) (v := 9) hX hB dX4_toldOf_4 (by decide) ?_
  refine lv_iload_n (pc := 6) hX hB dX4_toldOf_6 rfl (lv_at hl 1 rfl) ?_
  refine lv_iadd (pc := 7) hX hB dX4_toldOf_7 ?_
  obtain ⟨hg, hf⟩ := zs_gd hf
  refine va_iald (pc := 8) hX hB hE.1 hP 1 0 rfl rfl (zs_inb hg) dX4_toldOf_8 ?_
  refine lv_istore (pc := 9) (lv' := [(5, .int (v_T_st ((9 : Int32) + p1).toNatClampNeg)), (0, .ref a_T), (1, .int p1), (2, .int p2), (3, .int p3), (4, .int p4)]) hX hB dX4_toldOf_9 hl (by decide) rfl (fun ls hl => ?_)
  refine lv_aload_n (pc := 11) hX hB dX4_toldOf_11 rfl (lv_at hl 1 rfl) ?_
  refine gf_X4_7 (pc := 12) (v := .ref a_T_st) hX hB hT hO hE hP 0 rfl rfl dX4_toldOf_12 ?_
  refine lv_bipush (pc := 15) (v := 15) hX hB dX4_toldOf_15 (by decide) ?_
  refine lv_iload_n (pc := 17) hX hB dX4_toldOf_17 rfl (lv_at hl 2 rfl) ?_
  refine lv_iadd (pc := 18) hX hB dX4_toldOf_18 ?_
  obtain ⟨hg, hf⟩ := zs_gd hf
  refine va_iald (pc := 19) hX hB hE.1 hP 1 0 rfl rfl (zs_inb hg) dX4_toldOf_19 ?_
  refine lv_istore (pc := 20) (lv' := [(6, .int (v_T_st ((15 : Int32) + p1).toNatClampNeg)), (5, .int (v_T_st ((9 : Int32) + p1).toNatClampNeg)), (0, .ref a_T), (1, .int p1), (2, .int p2), (3, .int p3), (4, .int p4)]) hX hB dX4_toldOf_20 hl (by decide) rfl (fun ls hl => ?_)
  refine lv_iload (pc := 22) hX hB dX4_toldOf_22 (lv_at hl 1 rfl) ?_
  refine lv_iconst (pc := 24) (v := 1) hX hB dX4_toldOf_24 (by decide) ?_
  refine lv_icmp_eq (pc := 25) (tgt := 34) hX hB dX4_toldOf_25 (by decide) (fun hq => ?_) (fun hq => ?_)
  · have hf := zs_ip hf hq
    refine lv_iload_n (pc := 34) hX hB dX4_toldOf_34 rfl (lv_at hl 5 rfl) ?_
    refine lv_iload (pc := 35) hX hB dX4_toldOf_35 (lv_at hl 0 rfl) ?_
    refine lv_iconst (pc := 37) (v := 5) hX hB dX4_toldOf_37 (by decide) ?_
    refine zs_irem (pc := 38) hX hB dX4_toldOf_38 (by decide) ?_
    refine lv_iconst (pc := 39) (v := 2) hX hB dX4_toldOf_39 (by decide) ?_
    refine lv_iadd (pc := 40) hX hB dX4_toldOf_40 ?_
    obtain ⟨hg, hf⟩ := zs_gd hf
    refine zs_irem (pc := 41) hX hB dX4_toldOf_41 (of_decide_eq_true hg) ?_
    obtain ⟨y1, hj, hf⟩ := zs_bind hf
    refine zs_then (α := Unit) (fun _ H locs ls => CC g A s.heap 8 [(a_T, .inr (4, [.ref a_T_st, .long v_T_above, .long v_T_below, .ref a_T_refused, .ref a_T_text, .int v_T_bytes, .int v_T_place, .int v_T_token, .int v_T_value, .int v_T_begins, .ref a_T_row, .int v_T_toldHolders, .ref a_T_points, .ref a_T_used, .ref a_T_ahead, .int v_T_undoMany, .long v_T_drawn, .ref a_T_isKept, .ref a_T_kept, .ref a_T_keptAhead, .ref a_T_keptMany])), (a_T_st, .inl (gI g, 27, .inl v_T_st))] [(2, .int p2)] H locs ls) (fun _ ls => F0 m 63 ls [.int y1]) (fun _ H locs ls hC => ?_) (fun X => ?_)
    · obtain ⟨hP, hD, hS, hl⟩ := hC
      refine lv_istore (pc := 63) (lv' := [(7, .int y1), (2, .int p2)]) hX hB dX4_toldOf_63 hl (by decide) rfl (fun ls hl => ?_)
      refine lv_iload (pc := 65) hX hB dX4_toldOf_65 (lv_at hl 0 rfl) ?_
      refine lv_if_eq (pc := 67) (tgt := 74) hX hB dX4_toldOf_67 (by decide) (fun hq => ?_) (fun hq => ?_)
      · have hf := zs_ip hf hq
        refine lv_iload_n (pc := 74) hX hB dX4_toldOf_74 rfl (lv_at hl 1 rfl) ?_
        obtain rfl := Option.some.inj hf
        exact zs_iret (pc := 75) hX hB hR hK hP hD hS dX4_toldOf_75
      · have hf := zs_in hf hq
        refine lv_iconst (pc := 70) (v := -1) hX hB dX4_toldOf_70 (by decide) ?_
        refine lv_goto (pc := 71) (tgt := 75) hX hB dX4_toldOf_71 (by decide) ?_
        obtain rfl := Option.some.inj hf
        exact zs_iret (pc := 75) hX hB hR hK hP hD hS dX4_toldOf_75
    · have hf := hj
      refine lv_if_eq (pc := 42) (tgt := 58) hX hB dX4_toldOf_42 (by decide) (fun hq => ?_) (fun hq => ?_)
      · have hf := zs_ip hf hq
        refine lv_iconst (pc := 58) (v := 1) hX hB dX4_toldOf_58 (by decide) ?_
        refine lv_goto (pc := 59) (tgt := 63) hX hB dX4_toldOf_59 (by decide) ?_
        obtain rfl := Option.some.inj hf
        exact X () _ _ _ ⟨hP, hD, hS, lv_sub hl [4] rfl⟩
      · have hf := zs_in hf hq
        refine lv_iload (pc := 45) hX hB dX4_toldOf_45 (lv_at hl 1 rfl) ?_
        refine lv_iconst (pc := 47) (v := 4) hX hB dX4_toldOf_47 (by decide) ?_
        refine lv_icmp_ne (pc := 48) (tgt := 62) hX hB dX4_toldOf_48 (by decide) (fun hq => ?_) (fun hq => ?_)
        · have hf := zs_in hf hq
          refine lv_iconst (pc := 62) (v := 0) hX hB dX4_toldOf_62 (by decide) ?_
          obtain rfl := Option.some.inj hf
          exact X () _ _ _ ⟨hP, hD, hS, lv_sub hl [4] rfl⟩
        · have hf := zs_ip hf hq
          refine lv_iload_n (pc := 51) hX hB dX4_toldOf_51 rfl (lv_at hl 5 rfl) ?_
          refine lv_iconst (pc := 52) (v := 2) hX hB dX4_toldOf_52 (by decide) ?_
          refine zs_irem (pc := 53) hX hB dX4_toldOf_53 (by decide) ?_
          refine lv_iconst (pc := 54) (v := 1) hX hB dX4_toldOf_54 (by decide) ?_
          refine lv_icmp_ne (pc := 55) (tgt := 62) hX hB dX4_toldOf_55 (by decide) (fun hq => ?_) (fun hq => ?_)
          · have hf := zs_in hf hq
            refine lv_iconst (pc := 62) (v := 0) hX hB dX4_toldOf_62 (by decide) ?_
            obtain rfl := Option.some.inj hf
            exact X () _ _ _ ⟨hP, hD, hS, lv_sub hl [4] rfl⟩
          · have hf := zs_ip hf hq
            refine lv_iconst (pc := 58) (v := 1) hX hB dX4_toldOf_58 (by decide) ?_
            refine lv_goto (pc := 59) (tgt := 63) hX hB dX4_toldOf_59 (by decide) ?_
            obtain rfl := Option.some.inj hf
            exact X () _ _ _ ⟨hP, hD, hS, lv_sub hl [4] rfl⟩
  · have hf := zs_in hf hq
    refine lv_iload (pc := 28) hX hB dX4_toldOf_28 (lv_at hl 1 rfl) ?_
    refine lv_iconst (pc := 30) (v := 4) hX hB dX4_toldOf_30 (by decide) ?_
    refine lv_icmp_ne (pc := 31) (tgt := 76) hX hB dX4_toldOf_31 (by decide) (fun hq => ?_) (fun hq => ?_)
    · have hf := zs_in hf hq
      refine lv_iload (pc := 76) hX hB dX4_toldOf_76 (lv_at hl 1 rfl) ?_
      refine lv_if_eq (pc := 78) (tgt := 93) hX hB dX4_toldOf_78 (by decide) (fun hq => ?_) (fun hq => ?_)
      · have hf := zs_ip hf hq
        refine lv_iload_n (pc := 93) hX hB dX4_toldOf_93 rfl (lv_at hl 4 rfl) ?_
        obtain rfl := Option.some.inj hf
        exact zs_iret (pc := 94) hX hB hR hK hP hD hS dX4_toldOf_94
      · have hf := zs_in hf hq
        refine lv_iload (pc := 81) hX hB dX4_toldOf_81 (lv_at hl 1 rfl) ?_
        refine lv_iconst (pc := 83) (v := 3) hX hB dX4_toldOf_83 (by decide) ?_
        refine lv_icmp_ne (pc := 84) (tgt := 95) hX hB dX4_toldOf_84 (by decide) (fun hq => ?_) (fun hq => ?_)
        · have hf := zs_in hf hq
          refine lv_iload_n (pc := 95) hX hB dX4_toldOf_95 rfl (lv_at hl 4 rfl) ?_
          refine lv_iload (pc := 96) hX hB dX4_toldOf_96 (lv_at hl 0 rfl) ?_
          refine lv_iadd (pc := 98) hX hB dX4_toldOf_98 ?_
          refine lv_iload (pc := 99) hX hB dX4_toldOf_99 (lv_at hl 1 rfl) ?_
          refine lv_iconst (pc := 101) (v := 5) hX hB dX4_toldOf_101 (by decide) ?_
          refine lv_icmp_ne (pc := 102) (tgt := 109) hX hB dX4_toldOf_102 (by decide) (fun hq => ?_) (fun hq => ?_)
          · have hf := zs_in hf hq
            refine lv_iconst (pc := 109) (v := 0) hX hB dX4_toldOf_109 (by decide) ?_
            refine lv_iadd (pc := 110) hX hB dX4_toldOf_110 ?_
            refine lv_bipush (pc := 111) (v := 97) hX hB dX4_toldOf_111 (by decide) ?_
            refine zs_irem (pc := 113) hX hB dX4_toldOf_113 (by decide) ?_
            obtain rfl := Option.some.inj hf
            exact zs_iret (pc := 114) hX hB hR hK hP hD hS dX4_toldOf_114
          · have hf := zs_ip hf hq
            refine lv_iload_n (pc := 105) hX hB dX4_toldOf_105 rfl (lv_at hl 5 rfl) ?_
            refine lv_goto (pc := 106) (tgt := 110) hX hB dX4_toldOf_106 (by decide) ?_
            refine lv_iadd (pc := 110) hX hB dX4_toldOf_110 ?_
            refine lv_bipush (pc := 111) (v := 97) hX hB dX4_toldOf_111 (by decide) ?_
            refine zs_irem (pc := 113) hX hB dX4_toldOf_113 (by decide) ?_
            obtain rfl := Option.some.inj hf
            exact zs_iret (pc := 114) hX hB hR hK hP hD hS dX4_toldOf_114
        · have hf := zs_ip hf hq
          refine lv_iload (pc := 87) hX hB dX4_toldOf_87 (lv_at hl 6 rfl) ?_
          refine lv_iconst (pc := 89) (v := 2) hX hB dX4_toldOf_89 (by decide) ?_
          refine lv_icmp_le (pc := 90) (tgt := 95) hX hB dX4_toldOf_90 (by decide) (fun hq => ?_) (fun hq => ?_)
          · have hf := zs_ip hf hq
            refine lv_iload_n (pc := 95) hX hB dX4_toldOf_95 rfl (lv_at hl 4 rfl) ?_
            refine lv_iload (pc := 96) hX hB dX4_toldOf_96 (lv_at hl 0 rfl) ?_
            refine lv_iadd (pc := 98) hX hB dX4_toldOf_98 ?_
            refine lv_iload (pc := 99) hX hB dX4_toldOf_99 (lv_at hl 1 rfl) ?_
            refine lv_iconst (pc := 101) (v := 5) hX hB dX4_toldOf_101 (by decide) ?_
            refine lv_icmp_ne (pc := 102) (tgt := 109) hX hB dX4_toldOf_102 (by decide) (fun hq => ?_) (fun hq => ?_)
            · have hf := zs_in hf hq
              refine lv_iconst (pc := 109) (v := 0) hX hB dX4_toldOf_109 (by decide) ?_
              refine lv_iadd (pc := 110) hX hB dX4_toldOf_110 ?_
              refine lv_bipush (pc := 111) (v := 97) hX hB dX4_toldOf_111 (by decide) ?_
              refine zs_irem (pc := 113) hX hB dX4_toldOf_113 (by decide) ?_
              obtain rfl := Option.some.inj hf
              exact zs_iret (pc := 114) hX hB hR hK hP hD hS dX4_toldOf_114
            · have hf := zs_ip hf hq
              refine lv_iload_n (pc := 105) hX hB dX4_toldOf_105 rfl (lv_at hl 5 rfl) ?_
              refine lv_goto (pc := 106) (tgt := 110) hX hB dX4_toldOf_106 (by decide) ?_
              refine lv_iadd (pc := 110) hX hB dX4_toldOf_110 ?_
              refine lv_bipush (pc := 111) (v := 97) hX hB dX4_toldOf_111 (by decide) ?_
              refine zs_irem (pc := 113) hX hB dX4_toldOf_113 (by decide) ?_
              obtain rfl := Option.some.inj hf
              exact zs_iret (pc := 114) hX hB hR hK hP hD hS dX4_toldOf_114
          · have hf := zs_in hf hq
            refine lv_iload_n (pc := 93) hX hB dX4_toldOf_93 rfl (lv_at hl 4 rfl) ?_
            obtain rfl := Option.some.inj hf
            exact zs_iret (pc := 94) hX hB hR hK hP hD hS dX4_toldOf_94
    · have hf := zs_ip hf hq
      refine lv_iload_n (pc := 34) hX hB dX4_toldOf_34 rfl (lv_at hl 5 rfl) ?_
      refine lv_iload (pc := 35) hX hB dX4_toldOf_35 (lv_at hl 0 rfl) ?_
      refine lv_iconst (pc := 37) (v := 5) hX hB dX4_toldOf_37 (by decide) ?_
      refine zs_irem (pc := 38) hX hB dX4_toldOf_38 (by decide) ?_
      refine lv_iconst (pc := 39) (v := 2) hX hB dX4_toldOf_39 (by decide) ?_
      refine lv_iadd (pc := 40) hX hB dX4_toldOf_40 ?_
      obtain ⟨hg, hf⟩ := zs_gd hf
      refine zs_irem (pc := 41) hX hB dX4_toldOf_41 (of_decide_eq_true hg) ?_
      obtain ⟨y2, hj, hf⟩ := zs_bind hf
      refine zs_then (α := Unit) (fun _ H locs ls => CC g A s.heap 8 [(a_T, .inr (4, [.ref a_T_st, .long v_T_above, .long v_T_below, .ref a_T_refused, .ref a_T_text, .int v_T_bytes, .int v_T_place, .int v_T_token, .int v_T_value, .int v_T_begins, .ref a_T_row, .int v_T_toldHolders, .ref a_T_points, .ref a_T_used, .ref a_T_ahead, .int v_T_undoMany, .long v_T_drawn, .ref a_T_isKept, .ref a_T_kept, .ref a_T_keptAhead, .ref a_T_keptMany])), (a_T_st, .inl (gI g, 27, .inl v_T_st))] [(2, .int p2)] H locs ls) (fun _ ls => F0 m 63 ls [.int y2]) (fun _ H locs ls hC => ?_) (fun X => ?_)
      · obtain ⟨hP, hD, hS, hl⟩ := hC
        refine lv_istore (pc := 63) (lv' := [(7, .int y2), (2, .int p2)]) hX hB dX4_toldOf_63 hl (by decide) rfl (fun ls hl => ?_)
        refine lv_iload (pc := 65) hX hB dX4_toldOf_65 (lv_at hl 0 rfl) ?_
        refine lv_if_eq (pc := 67) (tgt := 74) hX hB dX4_toldOf_67 (by decide) (fun hq => ?_) (fun hq => ?_)
        · have hf := zs_ip hf hq
          refine lv_iload_n (pc := 74) hX hB dX4_toldOf_74 rfl (lv_at hl 1 rfl) ?_
          obtain rfl := Option.some.inj hf
          exact zs_iret (pc := 75) hX hB hR hK hP hD hS dX4_toldOf_75
        · have hf := zs_in hf hq
          refine lv_iconst (pc := 70) (v := -1) hX hB dX4_toldOf_70 (by decide) ?_
          refine lv_goto (pc := 71) (tgt := 75) hX hB dX4_toldOf_71 (by decide) ?_
          obtain rfl := Option.some.inj hf
          exact zs_iret (pc := 75) hX hB hR hK hP hD hS dX4_toldOf_75
      · have hf := hj
        refine lv_if_eq (pc := 42) (tgt := 58) hX hB dX4_toldOf_42 (by decide) (fun hq => ?_) (fun hq => ?_)
        · have hf := zs_ip hf hq
          refine lv_iconst (pc := 58) (v := 1) hX hB dX4_toldOf_58 (by decide) ?_
          refine lv_goto (pc := 59) (tgt := 63) hX hB dX4_toldOf_59 (by decide) ?_
          obtain rfl := Option.some.inj hf
          exact X () _ _ _ ⟨hP, hD, hS, lv_sub hl [4] rfl⟩
        · have hf := zs_in hf hq
          refine lv_iload (pc := 45) hX hB dX4_toldOf_45 (lv_at hl 1 rfl) ?_
          refine lv_iconst (pc := 47) (v := 4) hX hB dX4_toldOf_47 (by decide) ?_
          refine lv_icmp_ne (pc := 48) (tgt := 62) hX hB dX4_toldOf_48 (by decide) (fun hq => ?_) (fun hq => ?_)
          · have hf := zs_in hf hq
            refine lv_iconst (pc := 62) (v := 0) hX hB dX4_toldOf_62 (by decide) ?_
            obtain rfl := Option.some.inj hf
            exact X () _ _ _ ⟨hP, hD, hS, lv_sub hl [4] rfl⟩
          · have hf := zs_ip hf hq
            refine lv_iload_n (pc := 51) hX hB dX4_toldOf_51 rfl (lv_at hl 5 rfl) ?_
            refine lv_iconst (pc := 52) (v := 2) hX hB dX4_toldOf_52 (by decide) ?_
            refine zs_irem (pc := 53) hX hB dX4_toldOf_53 (by decide) ?_
            refine lv_iconst (pc := 54) (v := 1) hX hB dX4_toldOf_54 (by decide) ?_
            refine lv_icmp_ne (pc := 55) (tgt := 62) hX hB dX4_toldOf_55 (by decide) (fun hq => ?_) (fun hq => ?_)
            · have hf := zs_in hf hq
              refine lv_iconst (pc := 62) (v := 0) hX hB dX4_toldOf_62 (by decide) ?_
              obtain rfl := Option.some.inj hf
              exact X () _ _ _ ⟨hP, hD, hS, lv_sub hl [4] rfl⟩
            · have hf := zs_ip hf hq
              refine lv_iconst (pc := 58) (v := 1) hX hB dX4_toldOf_58 (by decide) ?_
              refine lv_goto (pc := 59) (tgt := 63) hX hB dX4_toldOf_59 (by decide) ?_
              obtain rfl := Option.some.inj hf
              exact X () _ _ _ ⟨hP, hD, hS, lv_sub hl [4] rfl⟩

def b_X4_tellAll_8 (v_T_st : Nat → Int32) (p1 : Int32) (p2 : Int32) (o1 : Int32) (x2 : Int32 × (Nat → Int32)) : Option ((Int32 × (Nat → Int32)) ⊕ ((Nat → Int32))) :=
  if (6 : Int32) ≤ x2.1 then (some (Sum.inr x2.2)) else ((f_X4_has p1 x2.1).bind (fun o4 => (if o4 = (0 : Int32) then (some (-1 : Int32)) else ((f_X4_shareOf 27 v_T_st (0 : Int32) x2.1).bind (fun o6 => (f_X4_toldOf v_T_st x2.1 o6 p2 o1).bind (fun o7 => some o7)))).bind (fun y5 => gd (inb x2.1 6) (some (Sum.inl (x2.1 + (1 : Int32), upd x2.2 x2.1.toNatClampNeg y5))))))
def f_X4_tellAll (v_T_st : Nat → Int32) (v_T_points : Nat → Int32) (p1 : Int32) (p2 : Int32) : Option ((Nat → Int32)) :=
  (f_X4_ones p1).bind (fun o1 => (lp (b_X4_tellAll_8 v_T_st p1 p2 o1) 200 ((0 : Int32), v_T_points)).bind (fun y3 => some y3))
set_option maxHeartbeats 4000000 in
set_option maxRecDepth 100000 in
theorem c_X4_tellAll (l : Launch) (g : GG) (sz : Nat) (a_T a_T_refused a_T_text a_T_row a_T_used a_T_ahead a_T_isKept a_T_kept a_T_keptAhead a_T_keptMany a_T_st a_T_points : Nat) (v_T_above : Int64) (v_T_below : Int64) (v_T_bytes : Int32) (v_T_place : Int32) (v_T_token : Int32) (v_T_value : Int32) (v_T_begins : Int32) (v_T_toldHolders : Int32) (v_T_undoMany : Int32) (v_T_drawn : Int64) (v_T_st : Nat → Int32) (v_T_points : Nat → Int32) (p1 : Int32) (p2 : Int32) (o : (Nat → Int32)) (hf : f_X4_tellAll v_T_st v_T_points p1 p2 = some o) : Met l yX4_tellAll (Cond.code yX4_tellAll cX4_tellAll 5 none :: TB) { frames := 1, cells := 0, slots := 0, locals := 27 } (Pst g [(a_T, .inr (4, [.ref a_T_st, .long v_T_above, .long v_T_below, .ref a_T_refused, .ref a_T_text, .int v_T_bytes, .int v_T_place, .int v_T_token, .int v_T_value, .int v_T_begins, .ref a_T_row, .int v_T_toldHolders, .ref a_T_points, .ref a_T_used, .ref a_T_ahead, .int v_T_undoMany, .long v_T_drawn, .ref a_T_isKept, .ref a_T_kept, .ref a_T_keptAhead, .ref a_T_keptMany])), (a_T_st, .inl (gI g, 27, .inl v_T_st)), (a_T_points, .inl (gI g, 6, .inl v_T_points))] [.ref a_T, .int p1, .int p2] sz) (Qst g [(a_T, .inr (4, [.ref a_T_st, .long v_T_above, .long v_T_below, .ref a_T_refused, .ref a_T_text, .int v_T_bytes, .int v_T_place, .int v_T_token, .int v_T_value, .int v_T_begins, .ref a_T_row, .int v_T_toldHolders, .ref a_T_points, .ref a_T_used, .ref a_T_ahead, .int v_T_undoMany, .long v_T_drawn, .ref a_T_isKept, .ref a_T_kept, .ref a_T_keptAhead, .ref a_T_keptMany])), (a_T_st, .inl (gI g, 27, .inl v_T_st)), (a_T_points, .inl (gI g, 6, .inl o))] (none) (va_A [(a_T, .inr (4, [.ref a_T_st, .long v_T_above, .long v_T_below, .ref a_T_refused, .ref a_T_text, .int v_T_bytes, .int v_T_place, .int v_T_token, .int v_T_value, .int v_T_begins, .ref a_T_row, .int v_T_toldHolders, .ref a_T_points, .ref a_T_used, .ref a_T_ahead, .int v_T_undoMany, .long v_T_drawn, .ref a_T_isKept, .ref a_T_kept, .ref a_T_keptAhead, .ref a_T_keptMany])), (a_T_st, .inl (gI g, 27, .inl v_T_st)), (a_T_points, .inl (gI g, 6, .inl v_T_points))] sz)) 0 0 (va_A [(a_T, .inr (4, [.ref a_T_st, .long v_T_above, .long v_T_below, .ref a_T_refused, .ref a_T_text, .int v_T_bytes, .int v_T_place, .int v_T_token, .int v_T_value, .int v_T_begins, .ref a_T_row, .int v_T_toldHolders, .ref a_T_points, .ref a_T_used, .ref a_T_ahead, .int v_T_undoMany, .long v_T_drawn, .ref a_T_isKept, .ref a_T_kept, .ref a_T_keptAhead, .ref a_T_keptMany])), (a_T_st, .inl (gI g, 27, .inl v_T_st)), (a_T_points, .inl (gI g, 6, .inl v_T_points))] sz) := by
  unfold f_X4_tellAll at hf
  refine zs_met (own := RX4) (plainFor_of_name (by decide)) rfl (Nat.le_of_ble_eq_true rfl) ?_
  intro p e s m below meth c A ls hX hB hR hM hT hO hK hN hA hE hP hD hS hl
  have hl : lv_has ls 5 [(0, .ref a_T), (1, .int p1), (2, .int p2)] := hl
  refine lv_iload_n (pc := 0) hX hB dX4_tellAll_0 rfl (lv_at hl 1 rfl) ?_
  obtain ⟨o1, hc, hf⟩ := zs_bind hf
  refine zs_S (pc := 1) (As := [.int p1]) (rest := []) (st1 := [.int o1]) (wc := []) (wr := [(a_T, .inr (4, [.ref a_T_st, .long v_T_above, .long v_T_below, .ref a_T_refused, .ref a_T_text, .int v_T_bytes, .int v_T_place, .int v_T_token, .int v_T_value, .int v_T_begins, .ref a_T_row, .int v_T_toldHolders, .ref a_T_points, .ref a_T_used, .ref a_T_ahead, .int v_T_undoMany, .long v_T_drawn, .ref a_T_isKept, .ref a_T_kept, .ref a_T_keptAhead, .ref a_T_keptMany])), (a_T_st, .inl (gI g, 27, .inl v_T_st)), (a_T_points, .inl (gI g, 6, .inl v_T_points))]) (w1 := []) (w2 := [(a_T, .inr (4, [.ref a_T_st, .long v_T_above, .long v_T_below, .ref a_T_refused, .ref a_T_text, .int v_T_bytes, .int v_T_place, .int v_T_token, .int v_T_value, .int v_T_begins, .ref a_T_row, .int v_T_toldHolders, .ref a_T_points, .ref a_T_used, .ref a_T_ahead, .int v_T_undoMany, .long v_T_drawn, .ref a_T_isKept, .ref a_T_kept, .ref a_T_keptAhead, .ref a_T_keptMany])), (a_T_st, .inl (gI g, 27, .inl v_T_st)), (a_T_points, .inl (gI g, 6, .inl v_T_points))]) (ov := some (.int o1)) lb_X4_ones lk_X4_138 hX hB hM hO hT hE hP hD hS hA (c_X4_ones l g _ p1 o1 hc) ⟨rfl, rfl⟩ ⟨Nat.le_of_ble_eq_true rfl, Nat.le_of_ble_eq_true rfl⟩ [] [0, 1, 2] [0, 1, 2] rfl rfl rfl rfl (by decide) rfl rfl rfl rfl hl.1 (Nat.le_of_ble_eq_true rfl) ⟨Nat.zero_le _, Nat.zero_le _⟩ rfl dX4_tellAll_1 (fun H locs hP hD hS => ?_)
  refine lv_istore_n (pc := 4) (lv' := [(3, .int o1), (0, .ref a_T), (1, .int p1), (2, .int p2)]) hX hB dX4_tellAll_4 rfl hl (by decide) rfl (fun ls hl => ?_)
  refine lv_iconst (pc := 5) (v := 0) hX hB dX4_tellAll_5 (by decide) ?_
  refine lv_istore (pc := 6) (lv' := [(4, .int (0 : Int32)), (3, .int o1), (0, .ref a_T), (1, .int p1), (2, .int p2)]) hX hB dX4_tellAll_6 hl (by decide) rfl (fun ls hl => ?_)
  obtain ⟨y3, hj, hf⟩ := zs_bind hf
  refine zs_then (α := Unit) (fun _ H locs ls => CC g A s.heap 5 [(a_T, .inr (4, [.ref a_T_st, .long v_T_above, .long v_T_below, .ref a_T_refused, .ref a_T_text, .int v_T_bytes, .int v_T_place, .int v_T_token, .int v_T_value, .int v_T_begins, .ref a_T_row, .int v_T_toldHolders, .ref a_T_points, .ref a_T_used, .ref a_T_ahead, .int v_T_undoMany, .long v_T_drawn, .ref a_T_isKept, .ref a_T_kept, .ref a_T_keptAhead, .ref a_T_keptMany])), (a_T_st, .inl (gI g, 27, .inl v_T_st)), (a_T_points, .inl (gI g, 6, .inl y3))] [] H locs ls) (fun _ ls => F0 m 60 ls []) (fun _ H locs ls hC => ?_) (fun X => ?_)
  · obtain ⟨hP, hD, hS, hl⟩ := hC
    obtain rfl := Option.some.inj hf
    exact zs_vret (pc := 60) hX hB hR hK hP hD hS dX4_tellAll_60
  · refine zs_loop (fun x2 H locs ls => CC g A s.heap 5 [(a_T, .inr (4, [.ref a_T_st, .long v_T_above, .long v_T_below, .ref a_T_refused, .ref a_T_text, .int v_T_bytes, .int v_T_place, .int v_T_token, .int v_T_value, .int v_T_begins, .ref a_T_row, .int v_T_toldHolders, .ref a_T_points, .ref a_T_used, .ref a_T_ahead, .int v_T_undoMany, .long v_T_drawn, .ref a_T_isKept, .ref a_T_kept, .ref a_T_keptAhead, .ref a_T_keptMany])), (a_T_st, .inl (gI g, 27, .inl v_T_st)), (a_T_points, .inl (gI g, 6, .inl x2.2))] [(0, .ref a_T), (1, .int p1), (2, .int p2), (3, .int o1), (4, .int x2.1)] H locs ls) hj (fun n x2 q hf hr ih H locs ls hC => ?_) ⟨hP, hD, hS, lv_sub hl [2, 3, 4, 1, 0] rfl⟩
    obtain ⟨hP, hD, hS, hl⟩ := hC
    unfold b_X4_tellAll_8 at hf
    refine lv_iload (pc := 8) hX hB dX4_tellAll_8 (lv_at hl 4 rfl) ?_
    refine lv_bipush (pc := 10) (v := 6) hX hB dX4_tellAll_10 (by decide) ?_
    refine lv_icmp_ge (pc := 12) (tgt := 60) hX hB dX4_tellAll_12 (by decide) (fun hq => ?_) (fun hq => ?_)
    · have hf := zs_ip hf hq
      obtain rfl := Option.some.inj hf
      obtain rfl := hr
      exact X () _ _ _ ⟨hP, hD, hS, lv_sub hl [] rfl⟩
    · have hf := zs_in hf hq
      refine lv_aload_n (pc := 15) hX hB dX4_tellAll_15 rfl (lv_at hl 0 rfl) ?_
      refine gf_X4_26 (pc := 16) (v := .ref a_T_points) hX hB hT hO hE hP 0 rfl rfl dX4_tellAll_16 ?_
      refine lv_iload (pc := 19) hX hB dX4_tellAll_19 (lv_at hl 4 rfl) ?_
      refine lv_iload_n (pc := 21) hX hB dX4_tellAll_21 rfl (lv_at hl 1 rfl) ?_
      refine lv_iload (pc := 22) hX hB dX4_tellAll_22 (lv_at hl 4 rfl) ?_
      obtain ⟨o4, hc, hf⟩ := zs_bind hf
      refine zs_S (pc := 24) (As := [.int p1, .int x2.1]) (rest := [.int x2.1, .ref a_T_points]) (st1 := [.int o4, .int x2.1, .ref a_T_points]) (wc := []) (wr := [(a_T, .inr (4, [.ref a_T_st, .long v_T_above, .long v_T_below, .ref a_T_refused, .ref a_T_text, .int v_T_bytes, .int v_T_place, .int v_T_token, .int v_T_value, .int v_T_begins, .ref a_T_row, .int v_T_toldHolders, .ref a_T_points, .ref a_T_used, .ref a_T_ahead, .int v_T_undoMany, .long v_T_drawn, .ref a_T_isKept, .ref a_T_kept, .ref a_T_keptAhead, .ref a_T_keptMany])), (a_T_st, .inl (gI g, 27, .inl v_T_st)), (a_T_points, .inl (gI g, 6, .inl x2.2))]) (w1 := []) (w2 := [(a_T, .inr (4, [.ref a_T_st, .long v_T_above, .long v_T_below, .ref a_T_refused, .ref a_T_text, .int v_T_bytes, .int v_T_place, .int v_T_token, .int v_T_value, .int v_T_begins, .ref a_T_row, .int v_T_toldHolders, .ref a_T_points, .ref a_T_used, .ref a_T_ahead, .int v_T_undoMany, .long v_T_drawn, .ref a_T_isKept, .ref a_T_kept, .ref a_T_keptAhead, .ref a_T_keptMany])), (a_T_st, .inl (gI g, 27, .inl v_T_st)), (a_T_points, .inl (gI g, 6, .inl x2.2))]) (ov := some (.int o4)) lb_X4_has lk_X4_141 hX hB hM hO hT hE hP hD hS hA (c_X4_has l g _ p1 x2.1 o4 hc) ⟨rfl, rfl⟩ ⟨Nat.le_of_ble_eq_true rfl, Nat.le_of_ble_eq_true rfl⟩ [] [0, 1, 2] [0, 1, 2] rfl rfl rfl rfl (by decide) rfl rfl rfl rfl hl.1 (Nat.le_of_ble_eq_true rfl) ⟨Nat.zero_le _, Nat.zero_le _⟩ rfl dX4_tellAll_24 (fun H locs hP hD hS => ?_)
      obtain ⟨y5, hj, hf⟩ := zs_bind hf
      refine zs_then (α := Unit) (fun _ H locs ls => CC g A s.heap 5 [(a_T, .inr (4, [.ref a_T_st, .long v_T_above, .long v_T_below, .ref a_T_refused, .ref a_T_text, .int v_T_bytes, .int v_T_place, .int v_T_token, .int v_T_value, .int v_T_begins, .ref a_T_row, .int v_T_toldHolders, .ref a_T_points, .ref a_T_used, .ref a_T_ahead, .int v_T_undoMany, .long v_T_drawn, .ref a_T_isKept, .ref a_T_kept, .ref a_T_keptAhead, .ref a_T_keptMany])), (a_T_st, .inl (gI g, 27, .inl v_T_st)), (a_T_points, .inl (gI g, 6, .inl x2.2))] [(0, .ref a_T), (1, .int p1), (2, .int p2), (3, .int o1), (4, .int x2.1)] H locs ls) (fun _ ls => F0 m 53 ls [.int y5, .int x2.1, .ref a_T_points]) (fun _ H locs ls hC => ?_) (fun X => ?_)
      · obtain ⟨hP, hD, hS, hl⟩ := hC
        obtain ⟨hg, hf⟩ := zs_gd hf
        refine zs_iast (pc := 53) (w2 := [(a_T, .inr (4, [.ref a_T_st, .long v_T_above, .long v_T_below, .ref a_T_refused, .ref a_T_text, .int v_T_bytes, .int v_T_place, .int v_T_token, .int v_T_value, .int v_T_begins, .ref a_T_row, .int v_T_toldHolders, .ref a_T_points, .ref a_T_used, .ref a_T_ahead, .int v_T_undoMany, .long v_T_drawn, .ref a_T_isKept, .ref a_T_kept, .ref a_T_keptAhead, .ref a_T_keptMany])), (a_T_st, .inl (gI g, 27, .inl v_T_st)), (a_T_points, .inl (gI g, 6, .inl (upd x2.2 x2.1.toNatClampNeg y5)))]) hX hB hE hP hD hS 2 rfl (zs_inb hg) rfl dX4_tellAll_53 (fun H locs hP hD hS => ?_)
        refine lv_iinc (pc := 54) (v := x2.1 + (1 : Int32)) (lv' := [(4, .int (x2.1 + (1 : Int32))), (0, .ref a_T), (1, .int p1), (2, .int p2), (3, .int o1)]) hX hB dX4_tellAll_54 hl (k := 4) rfl rfl (by decide) rfl (fun ls hl => ?_)
        refine lv_goto (pc := 57) (tgt := 8) hX hB dX4_tellAll_57 (by decide) ?_
        obtain rfl := Option.some.inj hf
        exact ih _ hr _ _ _ ⟨hP, hD, hS, lv_sub hl [1, 2, 3, 4, 0] rfl⟩
      · have hf := hj
        refine lv_if_eq (pc := 27) (tgt := 52) hX hB dX4_tellAll_27 (by decide) (fun hq => ?_) (fun hq => ?_)
        · have hf := zs_ip hf hq
          refine lv_iconst (pc := 52) (v := -1) hX hB dX4_tellAll_52 (by decide) ?_
          obtain rfl := Option.some.inj hf
          exact X () _ _ _ ⟨hP, hD, hS, lv_sub hl [0, 1, 2, 3, 4] rfl⟩
        · have hf := zs_in hf hq
          refine lv_aload_n (pc := 30) hX hB dX4_tellAll_30 rfl (lv_at hl 0 rfl) ?_
          refine lv_iload (pc := 31) hX hB dX4_tellAll_31 (lv_at hl 4 rfl) ?_
          refine lv_aload_n (pc := 33) hX hB dX4_tellAll_33 rfl (lv_at hl 0 rfl) ?_
          refine lv_aload_n (pc := 34) hX hB dX4_tellAll_34 rfl (lv_at hl 0 rfl) ?_
          refine gf_X4_7 (pc := 35) (v := .ref a_T_st) hX hB hT hO hE hP 0 rfl rfl dX4_tellAll_35 ?_
          refine lv_iconst (pc := 38) (v := 0) hX hB dX4_tellAll_38 (by decide) ?_
          refine lv_iload (pc := 39) hX hB dX4_tellAll_39 (lv_at hl 4 rfl) ?_
          obtain ⟨o6, hc, hf⟩ := zs_bind hf
          refine zs_V (q := (RX4, TX4, 21)) (ci := 4) (q0 := 0) (b := a_T) (pc := 41) (As := [.ref a_T_st, .int (0 : Int32), .int x2.1]) (rest := [.int x2.1, .ref a_T, .int x2.1, .ref a_T_points]) (st1 := [.int o6, .int x2.1, .ref a_T, .int x2.1, .ref a_T_points]) (wc := [(a_T_st, .inl (gI g, 27, .inl v_T_st))]) (wr := [(a_T, .inr (4, [.ref a_T_st, .long v_T_above, .long v_T_below, .ref a_T_refused, .ref a_T_text, .int v_T_bytes, .int v_T_place, .int v_T_token, .int v_T_value, .int v_T_begins, .ref a_T_row, .int v_T_toldHolders, .ref a_T_points, .ref a_T_used, .ref a_T_ahead, .int v_T_undoMany, .long v_T_drawn, .ref a_T_isKept, .ref a_T_kept, .ref a_T_keptAhead, .ref a_T_keptMany])), (a_T_points, .inl (gI g, 6, .inl x2.2))]) (w1 := [(a_T_st, .inl (gI g, 27, .inl v_T_st))]) (w2 := [(a_T, .inr (4, [.ref a_T_st, .long v_T_above, .long v_T_below, .ref a_T_refused, .ref a_T_text, .int v_T_bytes, .int v_T_place, .int v_T_token, .int v_T_value, .int v_T_begins, .ref a_T_row, .int v_T_toldHolders, .ref a_T_points, .ref a_T_used, .ref a_T_ahead, .int v_T_undoMany, .long v_T_drawn, .ref a_T_isKept, .ref a_T_kept, .ref a_T_keptAhead, .ref a_T_keptMany])), (a_T_st, .inl (gI g, 27, .inl v_T_st)), (a_T_points, .inl (gI g, 6, .inl x2.2))]) (ov := some (.int o6)) lb_X4_shareOf lk_X4_145 hX hB hM hO hT hE hP hD hS hA (c_X4_shareOf l g _ a_T_st a_T 27 v_T_st (0 : Int32) x2.1 o6 hc) ⟨rfl, rfl⟩ ⟨Nat.le_of_ble_eq_true rfl, Nat.le_of_ble_eq_true rfl⟩ rfl rfl [1] [0, 2] [0, 2, 1] rfl rfl rfl rfl (by decide) rfl rfl rfl rfl hl.1 (Nat.le_of_ble_eq_true rfl) ⟨Nat.zero_le _, Nat.zero_le _⟩ rfl dX4_tellAll_41 (fun H locs hP hD hS => ?_)
          refine lv_iload_n (pc := 44) hX hB dX4_tellAll_44 rfl (lv_at hl 2 rfl) ?_
          refine lv_iload_n (pc := 45) hX hB dX4_tellAll_45 rfl (lv_at hl 3 rfl) ?_
          obtain ⟨o7, hc, hf⟩ := zs_bind hf
          refine zs_V (q := (RX4, TX4, 21)) (ci := 4) (q0 := 0) (b := a_T) (pc := 46) (As := [.int x2.1, .int o6, .int p2, .int o1]) (rest := [.int x2.1, .ref a_T_points]) (st1 := [.int o7, .int x2.1, .ref a_T_points]) (wc := [(a_T, .inr (4, [.ref a_T_st, .long v_T_above, .long v_T_below, .ref a_T_refused, .ref a_T_text, .int v_T_bytes, .int v_T_place, .int v_T_token, .int v_T_value, .int v_T_begins, .ref a_T_row, .int v_T_toldHolders, .ref a_T_points, .ref a_T_used, .ref a_T_ahead, .int v_T_undoMany, .long v_T_drawn, .ref a_T_isKept, .ref a_T_kept, .ref a_T_keptAhead, .ref a_T_keptMany])), (a_T_st, .inl (gI g, 27, .inl v_T_st))]) (wr := [(a_T_points, .inl (gI g, 6, .inl x2.2))]) (w1 := [(a_T, .inr (4, [.ref a_T_st, .long v_T_above, .long v_T_below, .ref a_T_refused, .ref a_T_text, .int v_T_bytes, .int v_T_place, .int v_T_token, .int v_T_value, .int v_T_begins, .ref a_T_row, .int v_T_toldHolders, .ref a_T_points, .ref a_T_used, .ref a_T_ahead, .int v_T_undoMany, .long v_T_drawn, .ref a_T_isKept, .ref a_T_kept, .ref a_T_keptAhead, .ref a_T_keptMany])), (a_T_st, .inl (gI g, 27, .inl v_T_st))]) (w2 := [(a_T, .inr (4, [.ref a_T_st, .long v_T_above, .long v_T_below, .ref a_T_refused, .ref a_T_text, .int v_T_bytes, .int v_T_place, .int v_T_token, .int v_T_value, .int v_T_begins, .ref a_T_row, .int v_T_toldHolders, .ref a_T_points, .ref a_T_used, .ref a_T_ahead, .int v_T_undoMany, .long v_T_drawn, .ref a_T_isKept, .ref a_T_kept, .ref a_T_keptAhead, .ref a_T_keptMany])), (a_T_st, .inl (gI g, 27, .inl v_T_st)), (a_T_points, .inl (gI g, 6, .inl x2.2))]) (ov := some (.int o7)) lb_X4_toldOf lk_X4_149 hX hB hM hO hT hE hP hD hS hA (c_X4_toldOf l g _ a_T a_T_refused a_T_text a_T_row a_T_points a_T_used a_T_ahead a_T_isKept a_T_kept a_T_keptAhead a_T_keptMany a_T_st v_T_above v_T_below v_T_bytes v_T_place v_T_token v_T_value v_T_begins v_T_toldHolders v_T_undoMany v_T_drawn v_T_st x2.1 o6 p2 o1 o7 hc) ⟨rfl, rfl⟩ ⟨Nat.le_of_ble_eq_true rfl, Nat.le_of_ble_eq_true rfl⟩ rfl rfl [0, 1] [2] [1, 2, 0] rfl rfl rfl rfl (by decide) rfl rfl rfl rfl hl.1 (Nat.le_of_ble_eq_true rfl) ⟨Nat.zero_le _, Nat.zero_le _⟩ rfl dX4_tellAll_46 (fun H locs hP hD hS => ?_)
          refine lv_goto (pc := 49) (tgt := 53) hX hB dX4_tellAll_49 (by decide) ?_
          obtain rfl := Option.some.inj hf
          exact X () _ _ _ ⟨hP, hD, hS, lv_sub hl [0, 1, 2, 3, 4] rfl⟩

def f_X4_found (v_T_st : Nat → Int32) (v_T_points : Nat → Int32) (v_T_used : Nat → Int32) : Option (Int32 × (Nat → Int32)) :=
  (f_X4_pointMany v_T_points).bind (fun o1 => gd (inb (1 : Int32) 27) (if (v_T_st (1 : Int32).toNatClampNeg) ≤ o1 then ((f_X4_valueAt v_T_st v_T_points v_T_used (0 : Int32)).bind (fun o2 => some (o2.1, o2.2))) else (some ((-1 : Int32), v_T_used))))
set_option maxHeartbeats 4000000 in
set_option maxRecDepth 100000 in
theorem c_X4_found (l : Launch) (g : GG) (sz : Nat) (a_T a_T_refused a_T_text a_T_row a_T_ahead a_T_isKept a_T_kept a_T_keptAhead a_T_keptMany a_T_st a_T_points a_T_used : Nat) (v_T_above : Int64) (v_T_below : Int64) (v_T_bytes : Int32) (v_T_place : Int32) (v_T_token : Int32) (v_T_value : Int32) (v_T_begins : Int32) (v_T_toldHolders : Int32) (v_T_undoMany : Int32) (v_T_drawn : Int64) (v_T_st : Nat → Int32) (v_T_points : Nat → Int32) (v_T_used : Nat → Int32) (o : Int32 × (Nat → Int32)) (hf : f_X4_found v_T_st v_T_points v_T_used = some o) : Met l yX4_found (Cond.code yX4_found cX4_found 1 (some .int) :: TB) { frames := 2, cells := 0, slots := 0, locals := 50 } (Pst g [(a_T, .inr (4, [.ref a_T_st, .long v_T_above, .long v_T_below, .ref a_T_refused, .ref a_T_text, .int v_T_bytes, .int v_T_place, .int v_T_token, .int v_T_value, .int v_T_begins, .ref a_T_row, .int v_T_toldHolders, .ref a_T_points, .ref a_T_used, .ref a_T_ahead, .int v_T_undoMany, .long v_T_drawn, .ref a_T_isKept, .ref a_T_kept, .ref a_T_keptAhead, .ref a_T_keptMany])), (a_T_st, .inl (gI g, 27, .inl v_T_st)), (a_T_points, .inl (gI g, 6, .inl v_T_points)), (a_T_used, .inl (gI g, 4, .inl v_T_used))] [.ref a_T] sz) (Qst g [(a_T, .inr (4, [.ref a_T_st, .long v_T_above, .long v_T_below, .ref a_T_refused, .ref a_T_text, .int v_T_bytes, .int v_T_place, .int v_T_token, .int v_T_value, .int v_T_begins, .ref a_T_row, .int v_T_toldHolders, .ref a_T_points, .ref a_T_used, .ref a_T_ahead, .int v_T_undoMany, .long v_T_drawn, .ref a_T_isKept, .ref a_T_kept, .ref a_T_keptAhead, .ref a_T_keptMany])), (a_T_st, .inl (gI g, 27, .inl v_T_st)), (a_T_points, .inl (gI g, 6, .inl v_T_points)), (a_T_used, .inl (gI g, 4, .inl o.2))] (some (.int o.1)) (va_A [(a_T, .inr (4, [.ref a_T_st, .long v_T_above, .long v_T_below, .ref a_T_refused, .ref a_T_text, .int v_T_bytes, .int v_T_place, .int v_T_token, .int v_T_value, .int v_T_begins, .ref a_T_row, .int v_T_toldHolders, .ref a_T_points, .ref a_T_used, .ref a_T_ahead, .int v_T_undoMany, .long v_T_drawn, .ref a_T_isKept, .ref a_T_kept, .ref a_T_keptAhead, .ref a_T_keptMany])), (a_T_st, .inl (gI g, 27, .inl v_T_st)), (a_T_points, .inl (gI g, 6, .inl v_T_points)), (a_T_used, .inl (gI g, 4, .inl v_T_used))] sz)) 0 0 (va_A [(a_T, .inr (4, [.ref a_T_st, .long v_T_above, .long v_T_below, .ref a_T_refused, .ref a_T_text, .int v_T_bytes, .int v_T_place, .int v_T_token, .int v_T_value, .int v_T_begins, .ref a_T_row, .int v_T_toldHolders, .ref a_T_points, .ref a_T_used, .ref a_T_ahead, .int v_T_undoMany, .long v_T_drawn, .ref a_T_isKept, .ref a_T_kept, .ref a_T_keptAhead, .ref a_T_keptMany])), (a_T_st, .inl (gI g, 27, .inl v_T_st)), (a_T_points, .inl (gI g, 6, .inl v_T_points)), (a_T_used, .inl (gI g, 4, .inl v_T_used))] sz) := by
  unfold f_X4_found at hf
  refine zs_met (own := RX4) (plainFor_of_name (by decide)) rfl (Nat.le_of_ble_eq_true rfl) ?_
  intro p e s m below meth c A ls hX hB hR hM hT hO hK hN hA hE hP hD hS hl
  have hl : lv_has ls 1 [(0, .ref a_T)] := hl
  refine lv_aload_n (pc := 0) hX hB dX4_found_0 rfl (lv_at hl 0 rfl) ?_
  obtain ⟨o1, hc, hf⟩ := zs_bind hf
  refine zs_V (q := (RX4, TX4, 21)) (ci := 4) (q0 := 0) (b := a_T) (pc := 1) (As := []) (rest := []) (st1 := [.int o1]) (wc := [(a_T, .inr (4, [.ref a_T_st, .long v_T_above, .long v_T_below, .ref a_T_refused, .ref a_T_text, .int v_T_bytes, .int v_T_place, .int v_T_token, .int v_T_value, .int v_T_begins, .ref a_T_row, .int v_T_toldHolders, .ref a_T_points, .ref a_T_used, .ref a_T_ahead, .int v_T_undoMany, .long v_T_drawn, .ref a_T_isKept, .ref a_T_kept, .ref a_T_keptAhead, .ref a_T_keptMany])), (a_T_points, .inl (gI g, 6, .inl v_T_points))]) (wr := [(a_T_st, .inl (gI g, 27, .inl v_T_st)), (a_T_used, .inl (gI g, 4, .inl v_T_used))]) (w1 := [(a_T, .inr (4, [.ref a_T_st, .long v_T_above, .long v_T_below, .ref a_T_refused, .ref a_T_text, .int v_T_bytes, .int v_T_place, .int v_T_token, .int v_T_value, .int v_T_begins, .ref a_T_row, .int v_T_toldHolders, .ref a_T_points, .ref a_T_used, .ref a_T_ahead, .int v_T_undoMany, .long v_T_drawn, .ref a_T_isKept, .ref a_T_kept, .ref a_T_keptAhead, .ref a_T_keptMany])), (a_T_points, .inl (gI g, 6, .inl v_T_points))]) (w2 := [(a_T, .inr (4, [.ref a_T_st, .long v_T_above, .long v_T_below, .ref a_T_refused, .ref a_T_text, .int v_T_bytes, .int v_T_place, .int v_T_token, .int v_T_value, .int v_T_begins, .ref a_T_row, .int v_T_toldHolders, .ref a_T_points, .ref a_T_used, .ref a_T_ahead, .int v_T_undoMany, .long v_T_drawn, .ref a_T_isKept, .ref a_T_kept, .ref a_T_keptAhead, .ref a_T_keptMany])), (a_T_st, .inl (gI g, 27, .inl v_T_st)), (a_T_points, .inl (gI g, 6, .inl v_T_points)), (a_T_used, .inl (gI g, 4, .inl v_T_used))]) (ov := some (.int o1)) lb_X4_pointMany lk_X4_132 hX hB hM hO hT hE hP hD hS hA (c_X4_pointMany l g _ a_T a_T_st a_T_refused a_T_text a_T_row a_T_used a_T_ahead a_T_isKept a_T_kept a_T_keptAhead a_T_keptMany a_T_points v_T_above v_T_below v_T_bytes v_T_place v_T_token v_T_value v_T_begins v_T_toldHolders v_T_undoMany v_T_drawn v_T_points o1 hc) ⟨rfl, rfl⟩ ⟨Nat.le_of_ble_eq_true rfl, Nat.le_of_ble_eq_true rfl⟩ rfl rfl [0, 2] [1, 3] [2, 0, 3, 1] rfl rfl rfl rfl (by decide) rfl rfl rfl rfl hl.1 (Nat.le_of_ble_eq_true rfl) ⟨Nat.zero_le _, Nat.zero_le _⟩ rfl dX4_found_1 (fun H locs hP hD hS => ?_)
  refine lv_aload_n (pc := 4) hX hB dX4_found_4 rfl (lv_at hl 0 rfl) ?_
  refine gf_X4_7 (pc := 5) (v := .ref a_T_st) hX hB hT hO hE hP 0 rfl rfl dX4_found_5 ?_
  refine lv_iconst (pc := 8) (v := 1) hX hB dX4_found_8 (by decide) ?_
  obtain ⟨hg, hf⟩ := zs_gd hf
  refine va_iald (pc := 9) hX hB hE.1 hP 1 0 rfl rfl (zs_inb hg) dX4_found_9 ?_
  refine lv_icmp_ge (pc := 10) (tgt := 17) hX hB dX4_found_10 (by decide) (fun hq => ?_) (fun hq => ?_)
  · have hf := zs_ip hf hq
    refine lv_aload_n (pc := 17) hX hB dX4_found_17 rfl (lv_at hl 0 rfl) ?_
    refine lv_iconst (pc := 18) (v := 0) hX hB dX4_found_18 (by decide) ?_
    obtain ⟨o2, hc, hf⟩ := zs_bind hf
    refine zs_V (q := (RX4, TX4, 21)) (ci := 4) (q0 := 0) (b := a_T) (pc := 19) (As := [.int (0 : Int32)]) (rest := []) (st1 := [.int o2.1]) (wc := [(a_T, .inr (4, [.ref a_T_st, .long v_T_above, .long v_T_below, .ref a_T_refused, .ref a_T_text, .int v_T_bytes, .int v_T_place, .int v_T_token, .int v_T_value, .int v_T_begins, .ref a_T_row, .int v_T_toldHolders, .ref a_T_points, .ref a_T_used, .ref a_T_ahead, .int v_T_undoMany, .long v_T_drawn, .ref a_T_isKept, .ref a_T_kept, .ref a_T_keptAhead, .ref a_T_keptMany])), (a_T_st, .inl (gI g, 27, .inl v_T_st)), (a_T_points, .inl (gI g, 6, .inl v_T_points)), (a_T_used, .inl (gI g, 4, .inl v_T_used))]) (wr := []) (w1 := [(a_T, .inr (4, [.ref a_T_st, .long v_T_above, .long v_T_below, .ref a_T_refused, .ref a_T_text, .int v_T_bytes, .int v_T_place, .int v_T_token, .int v_T_value, .int v_T_begins, .ref a_T_row, .int v_T_toldHolders, .ref a_T_points, .ref a_T_used, .ref a_T_ahead, .int v_T_undoMany, .long v_T_drawn, .ref a_T_isKept, .ref a_T_kept, .ref a_T_keptAhead, .ref a_T_keptMany])), (a_T_st, .inl (gI g, 27, .inl v_T_st)), (a_T_points, .inl (gI g, 6, .inl v_T_points)), (a_T_used, .inl (gI g, 4, .inl o2.2))]) (w2 := [(a_T, .inr (4, [.ref a_T_st, .long v_T_above, .long v_T_below, .ref a_T_refused, .ref a_T_text, .int v_T_bytes, .int v_T_place, .int v_T_token, .int v_T_value, .int v_T_begins, .ref a_T_row, .int v_T_toldHolders, .ref a_T_points, .ref a_T_used, .ref a_T_ahead, .int v_T_undoMany, .long v_T_drawn, .ref a_T_isKept, .ref a_T_kept, .ref a_T_keptAhead, .ref a_T_keptMany])), (a_T_st, .inl (gI g, 27, .inl v_T_st)), (a_T_points, .inl (gI g, 6, .inl v_T_points)), (a_T_used, .inl (gI g, 4, .inl o2.2))]) (ov := some (.int o2.1)) lb_X4_valueAt lk_X4_135 hX hB hM hO hT hE hP hD hS hA (c_X4_valueAt l g _ a_T a_T_refused a_T_text a_T_row a_T_ahead a_T_isKept a_T_kept a_T_keptAhead a_T_keptMany a_T_st a_T_points a_T_used v_T_above v_T_below v_T_bytes v_T_place v_T_token v_T_value v_T_begins v_T_toldHolders v_T_undoMany v_T_drawn v_T_st v_T_points v_T_used (0 : Int32) o2 hc) ⟨rfl, rfl⟩ ⟨Nat.le_of_ble_eq_true rfl, Nat.le_of_ble_eq_true rfl⟩ rfl rfl [0, 1, 2, 3] [] [0, 1, 2, 3] rfl rfl rfl rfl (by decide) rfl rfl rfl rfl hl.1 (Nat.le_of_ble_eq_true rfl) ⟨Nat.zero_le _, Nat.zero_le _⟩ rfl dX4_found_19 (fun H locs hP hD hS => ?_)
    obtain rfl := Option.some.inj hf
    exact zs_iret (pc := 22) hX hB hR hK hP hD hS dX4_found_22
  · have hf := zs_in hf hq
    refine lv_iconst (pc := 13) (v := -1) hX hB dX4_found_13 (by decide) ?_
    refine lv_goto (pc := 14) (tgt := 22) hX hB dX4_found_14 (by decide) ?_
    obtain rfl := Option.some.inj hf
    exact zs_iret (pc := 22) hX hB hR hK hP hD hS dX4_found_22

def f_X4_triedBy (v_T_st : Nat → Int32) (v_T_points : Nat → Int32) (v_T_used : Nat → Int32) (p1 : Int32) (p2 : Int32) : Option (Int32 × (Nat → Int32) × (Nat → Int32)) :=
  (f_X4_tellAll v_T_st v_T_points p1 p2).bind (fun o1 => (f_X4_found v_T_st o1 v_T_used).bind (fun o2 => if (0 : Int32) ≤ o2.1 then (gd (inb (0 : Int32) 27) (if o2.1 = (v_T_st (0 : Int32).toNatClampNeg) then (some ((1 : Int32), o1, o2.2)) else (some ((2 : Int32), o1, o2.2)))) else (some ((0 : Int32), o1, o2.2))))
set_option maxHeartbeats 4000000 in
set_option maxRecDepth 100000 in
theorem c_X4_triedBy (l : Launch) (g : GG) (sz : Nat) (a_T a_T_refused a_T_text a_T_row a_T_ahead a_T_isKept a_T_kept a_T_keptAhead a_T_keptMany a_T_st a_T_points a_T_used : Nat) (v_T_above : Int64) (v_T_below : Int64) (v_T_bytes : Int32) (v_T_place : Int32) (v_T_token : Int32) (v_T_value : Int32) (v_T_begins : Int32) (v_T_toldHolders : Int32) (v_T_undoMany : Int32) (v_T_drawn : Int64) (v_T_st : Nat → Int32) (v_T_points : Nat → Int32) (v_T_used : Nat → Int32) (p1 : Int32) (p2 : Int32) (o : Int32 × (Nat → Int32) × (Nat → Int32)) (hf : f_X4_triedBy v_T_st v_T_points v_T_used p1 p2 = some o) : Met l yX4_triedBy (Cond.code yX4_triedBy cX4_triedBy 4 (some .int) :: TB) { frames := 3, cells := 0, slots := 0, locals := 70 } (Pst g [(a_T, .inr (4, [.ref a_T_st, .long v_T_above, .long v_T_below, .ref a_T_refused, .ref a_T_text, .int v_T_bytes, .int v_T_place, .int v_T_token, .int v_T_value, .int v_T_begins, .ref a_T_row, .int v_T_toldHolders, .ref a_T_points, .ref a_T_used, .ref a_T_ahead, .int v_T_undoMany, .long v_T_drawn, .ref a_T_isKept, .ref a_T_kept, .ref a_T_keptAhead, .ref a_T_keptMany])), (a_T_st, .inl (gI g, 27, .inl v_T_st)), (a_T_points, .inl (gI g, 6, .inl v_T_points)), (a_T_used, .inl (gI g, 4, .inl v_T_used))] [.ref a_T, .int p1, .int p2] sz) (Qst g [(a_T, .inr (4, [.ref a_T_st, .long v_T_above, .long v_T_below, .ref a_T_refused, .ref a_T_text, .int v_T_bytes, .int v_T_place, .int v_T_token, .int v_T_value, .int v_T_begins, .ref a_T_row, .int v_T_toldHolders, .ref a_T_points, .ref a_T_used, .ref a_T_ahead, .int v_T_undoMany, .long v_T_drawn, .ref a_T_isKept, .ref a_T_kept, .ref a_T_keptAhead, .ref a_T_keptMany])), (a_T_st, .inl (gI g, 27, .inl v_T_st)), (a_T_points, .inl (gI g, 6, .inl o.2.1)), (a_T_used, .inl (gI g, 4, .inl o.2.2))] (some (.int o.1)) (va_A [(a_T, .inr (4, [.ref a_T_st, .long v_T_above, .long v_T_below, .ref a_T_refused, .ref a_T_text, .int v_T_bytes, .int v_T_place, .int v_T_token, .int v_T_value, .int v_T_begins, .ref a_T_row, .int v_T_toldHolders, .ref a_T_points, .ref a_T_used, .ref a_T_ahead, .int v_T_undoMany, .long v_T_drawn, .ref a_T_isKept, .ref a_T_kept, .ref a_T_keptAhead, .ref a_T_keptMany])), (a_T_st, .inl (gI g, 27, .inl v_T_st)), (a_T_points, .inl (gI g, 6, .inl v_T_points)), (a_T_used, .inl (gI g, 4, .inl v_T_used))] sz)) 0 0 (va_A [(a_T, .inr (4, [.ref a_T_st, .long v_T_above, .long v_T_below, .ref a_T_refused, .ref a_T_text, .int v_T_bytes, .int v_T_place, .int v_T_token, .int v_T_value, .int v_T_begins, .ref a_T_row, .int v_T_toldHolders, .ref a_T_points, .ref a_T_used, .ref a_T_ahead, .int v_T_undoMany, .long v_T_drawn, .ref a_T_isKept, .ref a_T_kept, .ref a_T_keptAhead, .ref a_T_keptMany])), (a_T_st, .inl (gI g, 27, .inl v_T_st)), (a_T_points, .inl (gI g, 6, .inl v_T_points)), (a_T_used, .inl (gI g, 4, .inl v_T_used))] sz) := by
  unfold f_X4_triedBy at hf
  refine zs_met (own := RX4) (plainFor_of_name (by decide)) rfl (Nat.le_of_ble_eq_true rfl) ?_
  intro p e s m below meth c A ls hX hB hR hM hT hO hK hN hA hE hP hD hS hl
  have hl : lv_has ls 4 [(0, .ref a_T), (1, .int p1), (2, .int p2)] := hl
  refine lv_aload_n (pc := 0) hX hB dX4_triedBy_0 rfl (lv_at hl 0 rfl) ?_
  refine lv_iload_n (pc := 1) hX hB dX4_triedBy_1 rfl (lv_at hl 1 rfl) ?_
  refine lv_iload_n (pc := 2) hX hB dX4_triedBy_2 rfl (lv_at hl 2 rfl) ?_
  obtain ⟨o1, hc, hf⟩ := zs_bind hf
  refine zs_V (q := (RX4, TX4, 21)) (ci := 4) (q0 := 0) (b := a_T) (pc := 3) (As := [.int p1, .int p2]) (rest := []) (st1 := []) (wc := [(a_T, .inr (4, [.ref a_T_st, .long v_T_above, .long v_T_below, .ref a_T_refused, .ref a_T_text, .int v_T_bytes, .int v_T_place, .int v_T_token, .int v_T_value, .int v_T_begins, .ref a_T_row, .int v_T_toldHolders, .ref a_T_points, .ref a_T_used, .ref a_T_ahead, .int v_T_undoMany, .long v_T_drawn, .ref a_T_isKept, .ref a_T_kept, .ref a_T_keptAhead, .ref a_T_keptMany])), (a_T_st, .inl (gI g, 27, .inl v_T_st)), (a_T_points, .inl (gI g, 6, .inl v_T_points))]) (wr := [(a_T_used, .inl (gI g, 4, .inl v_T_used))]) (w1 := [(a_T, .inr (4, [.ref a_T_st, .long v_T_above, .long v_T_below, .ref a_T_refused, .ref a_T_text, .int v_T_bytes, .int v_T_place, .int v_T_token, .int v_T_value, .int v_T_begins, .ref a_T_row, .int v_T_toldHolders, .ref a_T_points, .ref a_T_used, .ref a_T_ahead, .int v_T_undoMany, .long v_T_drawn, .ref a_T_isKept, .ref a_T_kept, .ref a_T_keptAhead, .ref a_T_keptMany])), (a_T_st, .inl (gI g, 27, .inl v_T_st)), (a_T_points, .inl (gI g, 6, .inl o1))]) (w2 := [(a_T, .inr (4, [.ref a_T_st, .long v_T_above, .long v_T_below, .ref a_T_refused, .ref a_T_text, .int v_T_bytes, .int v_T_place, .int v_T_token, .int v_T_value, .int v_T_begins, .ref a_T_row, .int v_T_toldHolders, .ref a_T_points, .ref a_T_used, .ref a_T_ahead, .int v_T_undoMany, .long v_T_drawn, .ref a_T_isKept, .ref a_T_kept, .ref a_T_keptAhead, .ref a_T_keptMany])), (a_T_st, .inl (gI g, 27, .inl v_T_st)), (a_T_points, .inl (gI g, 6, .inl o1)), (a_T_used, .inl (gI g, 4, .inl v_T_used))]) (ov := none) lb_X4_tellAll lk_X4_153 hX hB hM hO hT hE hP hD hS hA (c_X4_tellAll l g _ a_T a_T_refused a_T_text a_T_row a_T_used a_T_ahead a_T_isKept a_T_kept a_T_keptAhead a_T_keptMany a_T_st a_T_points v_T_above v_T_below v_T_bytes v_T_place v_T_token v_T_value v_T_begins v_T_toldHolders v_T_undoMany v_T_drawn v_T_st v_T_points p1 p2 o1 hc) ⟨rfl, rfl⟩ ⟨Nat.le_of_ble_eq_true rfl, Nat.le_of_ble_eq_true rfl⟩ rfl rfl [0, 1, 2] [3] [1, 2, 3, 0] rfl rfl rfl rfl (by decide) rfl rfl rfl rfl hl.1 (Nat.le_of_ble_eq_true rfl) ⟨Nat.zero_le _, Nat.zero_le _⟩ rfl dX4_triedBy_3 (fun H locs hP hD hS => ?_)
  refine lv_aload_n (pc := 6) hX hB dX4_triedBy_6 rfl (lv_at hl 0 rfl) ?_
  obtain ⟨o2, hc, hf⟩ := zs_bind hf
  refine zs_V (q := (RX4, TX4, 21)) (ci := 4) (q0 := 0) (b := a_T) (pc := 7) (As := []) (rest := []) (st1 := [.int o2.1]) (wc := [(a_T, .inr (4, [.ref a_T_st, .long v_T_above, .long v_T_below, .ref a_T_refused, .ref a_T_text, .int v_T_bytes, .int v_T_place, .int v_T_token, .int v_T_value, .int v_T_begins, .ref a_T_row, .int v_T_toldHolders, .ref a_T_points, .ref a_T_used, .ref a_T_ahead, .int v_T_undoMany, .long v_T_drawn, .ref a_T_isKept, .ref a_T_kept, .ref a_T_keptAhead, .ref a_T_keptMany])), (a_T_st, .inl (gI g, 27, .inl v_T_st)), (a_T_points, .inl (gI g, 6, .inl o1)), (a_T_used, .inl (gI g, 4, .inl v_T_used))]) (wr := []) (w1 := [(a_T, .inr (4, [.ref a_T_st, .long v_T_above, .long v_T_below, .ref a_T_refused, .ref a_T_text, .int v_T_bytes, .int v_T_place, .int v_T_token, .int v_T_value, .int v_T_begins, .ref a_T_row, .int v_T_toldHolders, .ref a_T_points, .ref a_T_used, .ref a_T_ahead, .int v_T_undoMany, .long v_T_drawn, .ref a_T_isKept, .ref a_T_kept, .ref a_T_keptAhead, .ref a_T_keptMany])), (a_T_st, .inl (gI g, 27, .inl v_T_st)), (a_T_points, .inl (gI g, 6, .inl o1)), (a_T_used, .inl (gI g, 4, .inl o2.2))]) (w2 := [(a_T, .inr (4, [.ref a_T_st, .long v_T_above, .long v_T_below, .ref a_T_refused, .ref a_T_text, .int v_T_bytes, .int v_T_place, .int v_T_token, .int v_T_value, .int v_T_begins, .ref a_T_row, .int v_T_toldHolders, .ref a_T_points, .ref a_T_used, .ref a_T_ahead, .int v_T_undoMany, .long v_T_drawn, .ref a_T_isKept, .ref a_T_kept, .ref a_T_keptAhead, .ref a_T_keptMany])), (a_T_st, .inl (gI g, 27, .inl v_T_st)), (a_T_points, .inl (gI g, 6, .inl o1)), (a_T_used, .inl (gI g, 4, .inl o2.2))]) (ov := some (.int o2.1)) lb_X4_found lk_X4_156 hX hB hM hO hT hE hP hD hS hA (c_X4_found l g _ a_T a_T_refused a_T_text a_T_row a_T_ahead a_T_isKept a_T_kept a_T_keptAhead a_T_keptMany a_T_st a_T_points a_T_used v_T_above v_T_below v_T_bytes v_T_place v_T_token v_T_value v_T_begins v_T_toldHolders v_T_undoMany v_T_drawn v_T_st o1 v_T_used o2 hc) ⟨rfl, rfl⟩ ⟨Nat.le_of_ble_eq_true rfl, Nat.le_of_ble_eq_true rfl⟩ rfl rfl [0, 1, 2, 3] [] [0, 1, 2, 3] rfl rfl rfl rfl (by decide) rfl rfl rfl rfl hl.1 (Nat.le_of_ble_eq_true rfl) ⟨Nat.zero_le _, Nat.zero_le _⟩ rfl dX4_triedBy_7 (fun H locs hP hD hS => ?_)
  refine lv_istore_n (pc := 10) (lv' := [(3, .int o2.1), (0, .ref a_T), (1, .int p1), (2, .int p2)]) hX hB dX4_triedBy_10 rfl hl (by decide) rfl (fun ls hl => ?_)
  refine lv_iload_n (pc := 11) hX hB dX4_triedBy_11 rfl (lv_at hl 0 rfl) ?_
  refine lv_if_ge (pc := 12) (tgt := 19) hX hB dX4_triedBy_12 (by decide) (fun hq => ?_) (fun hq => ?_)
  · have hf := zs_ip hf hq
    refine lv_iload_n (pc := 19) hX hB dX4_triedBy_19 rfl (lv_at hl 0 rfl) ?_
    refine lv_aload_n (pc := 20) hX hB dX4_triedBy_20 rfl (lv_at hl 1 rfl) ?_
    refine gf_X4_7 (pc := 21) (v := .ref a_T_st) hX hB hT hO hE hP 0 rfl rfl dX4_triedBy_21 ?_
    refine lv_iconst (pc := 24) (v := 0) hX hB dX4_triedBy_24 (by decide) ?_
    obtain ⟨hg, hf⟩ := zs_gd hf
    refine va_iald (pc := 25) hX hB hE.1 hP 1 0 rfl rfl (zs_inb hg) dX4_triedBy_25 ?_
    refine lv_icmp_ne (pc := 26) (tgt := 33) hX hB dX4_triedBy_26 (by decide) (fun hq => ?_) (fun hq => ?_)
    · have hf := zs_in hf hq
      refine lv_iconst (pc := 33) (v := 2) hX hB dX4_triedBy_33 (by decide) ?_
      obtain rfl := Option.some.inj hf
      exact zs_iret (pc := 34) hX hB hR hK hP hD hS dX4_triedBy_34
    · have hf := zs_ip hf hq
      refine lv_iconst (pc := 29) (v := 1) hX hB dX4_triedBy_29 (by decide) ?_
      refine lv_goto (pc := 30) (tgt := 34) hX hB dX4_triedBy_30 (by decide) ?_
      obtain rfl := Option.some.inj hf
      exact zs_iret (pc := 34) hX hB hR hK hP hD hS dX4_triedBy_34
  · have hf := zs_in hf hq
    refine lv_iconst (pc := 15) (v := 0) hX hB dX4_triedBy_15 (by decide) ?_
    refine lv_goto (pc := 16) (tgt := 34) hX hB dX4_triedBy_16 (by decide) ?_
    obtain rfl := Option.some.inj hf
    exact zs_iret (pc := 34) hX hB hR hK hP hD hS dX4_triedBy_34

def f_X4_comes (v_T_st : Nat → Int32) (v_T_refused : Nat → Int32) (v_T_points : Nat → Int32) (v_T_used : Nat → Int32) (p1 : Int32) (p2 : Int32) : Option (Int32 × (Nat → Int32) × (Nat → Int32) × (Nat → Int32)) :=
  (f_X4_areHolders v_T_st p1).bind (fun o1 => if o1 = (0 : Int32) then ((f_X4_bad v_T_refused).bind (fun o2 => some ((-10 : Int32), o2.2, v_T_points, v_T_used))) else ((f_X4_in p2.toInt64 (0 : Int64) (999 : Int64)).bind (fun o3 => if o3 = (0 : Int32) then ((f_X4_bad v_T_refused).bind (fun o5 => some ((-10 : Int32), o5.2, v_T_points, v_T_used))) else ((f_X4_triedBy v_T_st v_T_points v_T_used p1 p2).bind (fun o4 => some (o4.1, v_T_refused, o4.2.1, o4.2.2))))))
set_option maxHeartbeats 4000000 in
set_option maxRecDepth 100000 in
theorem c_X4_comes (l : Launch) (g : GG) (sz : Nat) (a_T a_T_text a_T_row a_T_ahead a_T_isKept a_T_kept a_T_keptAhead a_T_keptMany a_T_st a_T_refused a_T_points a_T_used : Nat) (v_T_above : Int64) (v_T_below : Int64) (v_T_bytes : Int32) (v_T_place : Int32) (v_T_token : Int32) (v_T_value : Int32) (v_T_begins : Int32) (v_T_toldHolders : Int32) (v_T_undoMany : Int32) (v_T_drawn : Int64) (v_T_st : Nat → Int32) (v_T_refused : Nat → Int32) (v_T_points : Nat → Int32) (v_T_used : Nat → Int32) (p1 : Int32) (p2 : Int32) (o : Int32 × (Nat → Int32) × (Nat → Int32) × (Nat → Int32)) (hf : f_X4_comes v_T_st v_T_refused v_T_points v_T_used p1 p2 = some o) : Met l yX4_comes (Cond.code yX4_comes cX4_comes 3 (some .int) :: TB) { frames := 4, cells := 0, slots := 0, locals := 93 } (Pst g [(a_T, .inr (4, [.ref a_T_st, .long v_T_above, .long v_T_below, .ref a_T_refused, .ref a_T_text, .int v_T_bytes, .int v_T_place, .int v_T_token, .int v_T_value, .int v_T_begins, .ref a_T_row, .int v_T_toldHolders, .ref a_T_points, .ref a_T_used, .ref a_T_ahead, .int v_T_undoMany, .long v_T_drawn, .ref a_T_isKept, .ref a_T_kept, .ref a_T_keptAhead, .ref a_T_keptMany])), (a_T_st, .inl (gI g, 27, .inl v_T_st)), (a_T_refused, .inl (gI g, 3, .inl v_T_refused)), (a_T_points, .inl (gI g, 6, .inl v_T_points)), (a_T_used, .inl (gI g, 4, .inl v_T_used))] [.ref a_T, .int p1, .int p2] sz) (Qst g [(a_T, .inr (4, [.ref a_T_st, .long v_T_above, .long v_T_below, .ref a_T_refused, .ref a_T_text, .int v_T_bytes, .int v_T_place, .int v_T_token, .int v_T_value, .int v_T_begins, .ref a_T_row, .int v_T_toldHolders, .ref a_T_points, .ref a_T_used, .ref a_T_ahead, .int v_T_undoMany, .long v_T_drawn, .ref a_T_isKept, .ref a_T_kept, .ref a_T_keptAhead, .ref a_T_keptMany])), (a_T_st, .inl (gI g, 27, .inl v_T_st)), (a_T_refused, .inl (gI g, 3, .inl o.2.1)), (a_T_points, .inl (gI g, 6, .inl o.2.2.1)), (a_T_used, .inl (gI g, 4, .inl o.2.2.2))] (some (.int o.1)) (va_A [(a_T, .inr (4, [.ref a_T_st, .long v_T_above, .long v_T_below, .ref a_T_refused, .ref a_T_text, .int v_T_bytes, .int v_T_place, .int v_T_token, .int v_T_value, .int v_T_begins, .ref a_T_row, .int v_T_toldHolders, .ref a_T_points, .ref a_T_used, .ref a_T_ahead, .int v_T_undoMany, .long v_T_drawn, .ref a_T_isKept, .ref a_T_kept, .ref a_T_keptAhead, .ref a_T_keptMany])), (a_T_st, .inl (gI g, 27, .inl v_T_st)), (a_T_refused, .inl (gI g, 3, .inl v_T_refused)), (a_T_points, .inl (gI g, 6, .inl v_T_points)), (a_T_used, .inl (gI g, 4, .inl v_T_used))] sz)) 0 0 (va_A [(a_T, .inr (4, [.ref a_T_st, .long v_T_above, .long v_T_below, .ref a_T_refused, .ref a_T_text, .int v_T_bytes, .int v_T_place, .int v_T_token, .int v_T_value, .int v_T_begins, .ref a_T_row, .int v_T_toldHolders, .ref a_T_points, .ref a_T_used, .ref a_T_ahead, .int v_T_undoMany, .long v_T_drawn, .ref a_T_isKept, .ref a_T_kept, .ref a_T_keptAhead, .ref a_T_keptMany])), (a_T_st, .inl (gI g, 27, .inl v_T_st)), (a_T_refused, .inl (gI g, 3, .inl v_T_refused)), (a_T_points, .inl (gI g, 6, .inl v_T_points)), (a_T_used, .inl (gI g, 4, .inl v_T_used))] sz) := by
  unfold f_X4_comes at hf
  refine zs_met (own := RX4) (plainFor_of_name (by decide)) rfl (Nat.le_of_ble_eq_true rfl) ?_
  intro p e s m below meth c A ls hX hB hR hM hT hO hK hN hA hE hP hD hS hl
  have hl : lv_has ls 3 [(0, .ref a_T), (1, .int p1), (2, .int p2)] := hl
  refine lv_aload_n (pc := 0) hX hB dX4_comes_0 rfl (lv_at hl 0 rfl) ?_
  refine lv_iload_n (pc := 1) hX hB dX4_comes_1 rfl (lv_at hl 1 rfl) ?_
  obtain ⟨o1, hc, hf⟩ := zs_bind hf
  refine zs_V (q := (RX4, TX4, 21)) (ci := 4) (q0 := 0) (b := a_T) (pc := 2) (As := [.int p1]) (rest := []) (st1 := [.int o1]) (wc := [(a_T, .inr (4, [.ref a_T_st, .long v_T_above, .long v_T_below, .ref a_T_refused, .ref a_T_text, .int v_T_bytes, .int v_T_place, .int v_T_token, .int v_T_value, .int v_T_begins, .ref a_T_row, .int v_T_toldHolders, .ref a_T_points, .ref a_T_used, .ref a_T_ahead, .int v_T_undoMany, .long v_T_drawn, .ref a_T_isKept, .ref a_T_kept, .ref a_T_keptAhead, .ref a_T_keptMany])), (a_T_st, .inl (gI g, 27, .inl v_T_st))]) (wr := [(a_T_refused, .inl (gI g, 3, .inl v_T_refused)), (a_T_points, .inl (gI g, 6, .inl v_T_points)), (a_T_used, .inl (gI g, 4, .inl v_T_used))]) (w1 := [(a_T, .inr (4, [.ref a_T_st, .long v_T_above, .long v_T_below, .ref a_T_refused, .ref a_T_text, .int v_T_bytes, .int v_T_place, .int v_T_token, .int v_T_value, .int v_T_begins, .ref a_T_row, .int v_T_toldHolders, .ref a_T_points, .ref a_T_used, .ref a_T_ahead, .int v_T_undoMany, .long v_T_drawn, .ref a_T_isKept, .ref a_T_kept, .ref a_T_keptAhead, .ref a_T_keptMany])), (a_T_st, .inl (gI g, 27, .inl v_T_st))]) (w2 := [(a_T, .inr (4, [.ref a_T_st, .long v_T_above, .long v_T_below, .ref a_T_refused, .ref a_T_text, .int v_T_bytes, .int v_T_place, .int v_T_token, .int v_T_value, .int v_T_begins, .ref a_T_row, .int v_T_toldHolders, .ref a_T_points, .ref a_T_used, .ref a_T_ahead, .int v_T_undoMany, .long v_T_drawn, .ref a_T_isKept, .ref a_T_kept, .ref a_T_keptAhead, .ref a_T_keptMany])), (a_T_st, .inl (gI g, 27, .inl v_T_st)), (a_T_refused, .inl (gI g, 3, .inl v_T_refused)), (a_T_points, .inl (gI g, 6, .inl v_T_points)), (a_T_used, .inl (gI g, 4, .inl v_T_used))]) (ov := some (.int o1)) lb_X4_areHolders lk_X4_163 hX hB hM hO hT hE hP hD hS hA (c_X4_areHolders l g _ a_T a_T_refused a_T_text a_T_row a_T_points a_T_used a_T_ahead a_T_isKept a_T_kept a_T_keptAhead a_T_keptMany a_T_st v_T_above v_T_below v_T_bytes v_T_place v_T_token v_T_value v_T_begins v_T_toldHolders v_T_undoMany v_T_drawn v_T_st p1 o1 hc) ⟨rfl, rfl⟩ ⟨Nat.le_of_ble_eq_true rfl, Nat.le_of_ble_eq_true rfl⟩ rfl rfl [0, 1] [2, 3, 4] [3, 4, 0, 1, 2] rfl rfl rfl rfl (by decide) rfl rfl rfl rfl hl.1 (Nat.le_of_ble_eq_true rfl) ⟨Nat.zero_le _, Nat.zero_le _⟩ rfl dX4_comes_2 (fun H locs hP hD hS => ?_)
  refine lv_if_eq (pc := 5) (tgt := 20) hX hB dX4_comes_5 (by decide) (fun hq => ?_) (fun hq => ?_)
  · have hf := zs_ip hf hq
    refine lv_aload_n (pc := 20) hX hB dX4_comes_20 rfl (lv_at hl 0 rfl) ?_
    obtain ⟨o2, hc, hf⟩ := zs_bind hf
    refine zs_V (q := (RX4, TX4, 21)) (ci := 4) (q0 := 0) (b := a_T) (pc := 21) (As := []) (rest := []) (st1 := [.int o2.1]) (wc := [(a_T, .inr (4, [.ref a_T_st, .long v_T_above, .long v_T_below, .ref a_T_refused, .ref a_T_text, .int v_T_bytes, .int v_T_place, .int v_T_token, .int v_T_value, .int v_T_begins, .ref a_T_row, .int v_T_toldHolders, .ref a_T_points, .ref a_T_used, .ref a_T_ahead, .int v_T_undoMany, .long v_T_drawn, .ref a_T_isKept, .ref a_T_kept, .ref a_T_keptAhead, .ref a_T_keptMany])), (a_T_refused, .inl (gI g, 3, .inl v_T_refused))]) (wr := [(a_T_st, .inl (gI g, 27, .inl v_T_st)), (a_T_points, .inl (gI g, 6, .inl v_T_points)), (a_T_used, .inl (gI g, 4, .inl v_T_used))]) (w1 := [(a_T, .inr (4, [.ref a_T_st, .long v_T_above, .long v_T_below, .ref a_T_refused, .ref a_T_text, .int v_T_bytes, .int v_T_place, .int v_T_token, .int v_T_value, .int v_T_begins, .ref a_T_row, .int v_T_toldHolders, .ref a_T_points, .ref a_T_used, .ref a_T_ahead, .int v_T_undoMany, .long v_T_drawn, .ref a_T_isKept, .ref a_T_kept, .ref a_T_keptAhead, .ref a_T_keptMany])), (a_T_refused, .inl (gI g, 3, .inl o2.2))]) (w2 := [(a_T, .inr (4, [.ref a_T_st, .long v_T_above, .long v_T_below, .ref a_T_refused, .ref a_T_text, .int v_T_bytes, .int v_T_place, .int v_T_token, .int v_T_value, .int v_T_begins, .ref a_T_row, .int v_T_toldHolders, .ref a_T_points, .ref a_T_used, .ref a_T_ahead, .int v_T_undoMany, .long v_T_drawn, .ref a_T_isKept, .ref a_T_kept, .ref a_T_keptAhead, .ref a_T_keptMany])), (a_T_st, .inl (gI g, 27, .inl v_T_st)), (a_T_refused, .inl (gI g, 3, .inl o2.2)), (a_T_points, .inl (gI g, 6, .inl v_T_points)), (a_T_used, .inl (gI g, 4, .inl v_T_used))]) (ov := some (.int o2.1)) lb_X4_bad lk_X4_64 hX hB hM hO hT hE hP hD hS hA (c_X4_bad l g _ a_T a_T_st a_T_text a_T_row a_T_points a_T_used a_T_ahead a_T_isKept a_T_kept a_T_keptAhead a_T_keptMany a_T_refused v_T_above v_T_below v_T_bytes v_T_place v_T_token v_T_value v_T_begins v_T_toldHolders v_T_undoMany v_T_drawn v_T_refused o2 hc) ⟨rfl, rfl⟩ ⟨Nat.le_of_ble_eq_true rfl, Nat.le_of_ble_eq_true rfl⟩ rfl rfl [0, 2] [1, 3, 4] [3, 0, 4, 1, 2] rfl rfl rfl rfl (by decide) rfl rfl rfl rfl hl.1 (Nat.le_of_ble_eq_true rfl) ⟨Nat.zero_le _, Nat.zero_le _⟩ rfl dX4_comes_21 (fun H locs hP hD hS => ?_)
    refine lv_pop (pc := 24) hX hB dX4_comes_24 rfl ?_
    refine lv_bipush (pc := 25) (v := -10) hX hB dX4_comes_25 (by decide) ?_
    obtain rfl := Option.some.inj hf
    exact zs_iret (pc := 27) hX hB hR hK hP hD hS dX4_comes_27
  · have hf := zs_in hf hq
    refine lv_iload_n (pc := 8) hX hB dX4_comes_8 rfl (lv_at hl 2 rfl) ?_
    refine lv_i2l (pc := 9) (v := p2.toInt64) hX hB dX4_comes_9 rfl ?_
    refine lv_lconst (pc := 10) (v := 0) hX hB dX4_comes_10 (by decide) ?_
    refine lv_ldc2 (pc := 11) (v := 999) hX hB hO (hT _ tw_4_156) dX4_comes_11 ?_
    obtain ⟨o3, hc, hf⟩ := zs_bind hf
    refine zs_S (pc := 14) (As := [.long p2.toInt64, .long (0 : Int64), .long (999 : Int64)]) (rest := []) (st1 := [.int o3]) (wc := []) (wr := [(a_T, .inr (4, [.ref a_T_st, .long v_T_above, .long v_T_below, .ref a_T_refused, .ref a_T_text, .int v_T_bytes, .int v_T_place, .int v_T_token, .int v_T_value, .int v_T_begins, .ref a_T_row, .int v_T_toldHolders, .ref a_T_points, .ref a_T_used, .ref a_T_ahead, .int v_T_undoMany, .long v_T_drawn, .ref a_T_isKept, .ref a_T_kept, .ref a_T_keptAhead, .ref a_T_keptMany])), (a_T_st, .inl (gI g, 27, .inl v_T_st)), (a_T_refused, .inl (gI g, 3, .inl v_T_refused)), (a_T_points, .inl (gI g, 6, .inl v_T_points)), (a_T_used, .inl (gI g, 4, .inl v_T_used))]) (w1 := []) (w2 := [(a_T, .inr (4, [.ref a_T_st, .long v_T_above, .long v_T_below, .ref a_T_refused, .ref a_T_text, .int v_T_bytes, .int v_T_place, .int v_T_token, .int v_T_value, .int v_T_begins, .ref a_T_row, .int v_T_toldHolders, .ref a_T_points, .ref a_T_used, .ref a_T_ahead, .int v_T_undoMany, .long v_T_drawn, .ref a_T_isKept, .ref a_T_kept, .ref a_T_keptAhead, .ref a_T_keptMany])), (a_T_st, .inl (gI g, 27, .inl v_T_st)), (a_T_refused, .inl (gI g, 3, .inl v_T_refused)), (a_T_points, .inl (gI g, 6, .inl v_T_points)), (a_T_used, .inl (gI g, 4, .inl v_T_used))]) (ov := some (.int o3)) lb_X4_in lk_X4_52 hX hB hM hO hT hE hP hD hS hA (c_X4_in l g _ p2.toInt64 (0 : Int64) (999 : Int64) o3 hc) ⟨rfl, rfl⟩ ⟨Nat.le_of_ble_eq_true rfl, Nat.le_of_ble_eq_true rfl⟩ [] [0, 1, 2, 3, 4] [0, 1, 2, 3, 4] rfl rfl rfl rfl (by decide) rfl rfl rfl rfl hl.1 (Nat.le_of_ble_eq_true rfl) ⟨Nat.zero_le _, Nat.zero_le _⟩ rfl dX4_comes_14 (fun H locs hP hD hS => ?_)
    refine lv_if_ne (pc := 17) (tgt := 28) hX hB dX4_comes_17 (by decide) (fun hq => ?_) (fun hq => ?_)
    · have hf := zs_in hf hq
      refine lv_aload_n (pc := 28) hX hB dX4_comes_28 rfl (lv_at hl 0 rfl) ?_
      refine lv_iload_n (pc := 29) hX hB dX4_comes_29 rfl (lv_at hl 1 rfl) ?_
      refine lv_iload_n (pc := 30) hX hB dX4_comes_30 rfl (lv_at hl 2 rfl) ?_
      obtain ⟨o4, hc, hf⟩ := zs_bind hf
      refine zs_V (q := (RX4, TX4, 21)) (ci := 4) (q0 := 0) (b := a_T) (pc := 31) (As := [.int p1, .int p2]) (rest := []) (st1 := [.int o4.1]) (wc := [(a_T, .inr (4, [.ref a_T_st, .long v_T_above, .long v_T_below, .ref a_T_refused, .ref a_T_text, .int v_T_bytes, .int v_T_place, .int v_T_token, .int v_T_value, .int v_T_begins, .ref a_T_row, .int v_T_toldHolders, .ref a_T_points, .ref a_T_used, .ref a_T_ahead, .int v_T_undoMany, .long v_T_drawn, .ref a_T_isKept, .ref a_T_kept, .ref a_T_keptAhead, .ref a_T_keptMany])), (a_T_st, .inl (gI g, 27, .inl v_T_st)), (a_T_points, .inl (gI g, 6, .inl v_T_points)), (a_T_used, .inl (gI g, 4, .inl v_T_used))]) (wr := [(a_T_refused, .inl (gI g, 3, .inl v_T_refused))]) (w1 := [(a_T, .inr (4, [.ref a_T_st, .long v_T_above, .long v_T_below, .ref a_T_refused, .ref a_T_text, .int v_T_bytes, .int v_T_place, .int v_T_token, .int v_T_value, .int v_T_begins, .ref a_T_row, .int v_T_toldHolders, .ref a_T_points, .ref a_T_used, .ref a_T_ahead, .int v_T_undoMany, .long v_T_drawn, .ref a_T_isKept, .ref a_T_kept, .ref a_T_keptAhead, .ref a_T_keptMany])), (a_T_st, .inl (gI g, 27, .inl v_T_st)), (a_T_points, .inl (gI g, 6, .inl o4.2.1)), (a_T_used, .inl (gI g, 4, .inl o4.2.2))]) (w2 := [(a_T, .inr (4, [.ref a_T_st, .long v_T_above, .long v_T_below, .ref a_T_refused, .ref a_T_text, .int v_T_bytes, .int v_T_place, .int v_T_token, .int v_T_value, .int v_T_begins, .ref a_T_row, .int v_T_toldHolders, .ref a_T_points, .ref a_T_used, .ref a_T_ahead, .int v_T_undoMany, .long v_T_drawn, .ref a_T_isKept, .ref a_T_kept, .ref a_T_keptAhead, .ref a_T_keptMany])), (a_T_st, .inl (gI g, 27, .inl v_T_st)), (a_T_refused, .inl (gI g, 3, .inl v_T_refused)), (a_T_points, .inl (gI g, 6, .inl o4.2.1)), (a_T_used, .inl (gI g, 4, .inl o4.2.2))]) (ov := some (.int o4.1)) lb_X4_triedBy lk_X4_159 hX hB hM hO hT hE hP hD hS hA (c_X4_triedBy l g _ a_T a_T_refused a_T_text a_T_row a_T_ahead a_T_isKept a_T_kept a_T_keptAhead a_T_keptMany a_T_st a_T_points a_T_used v_T_above v_T_below v_T_bytes v_T_place v_T_token v_T_value v_T_begins v_T_toldHolders v_T_undoMany v_T_drawn v_T_st v_T_points v_T_used p1 p2 o4 hc) ⟨rfl, rfl⟩ ⟨Nat.le_of_ble_eq_true rfl, Nat.le_of_ble_eq_true rfl⟩ rfl rfl [0, 1, 3, 4] [2] [1, 2, 0, 3, 4] rfl rfl rfl rfl (by decide) rfl rfl rfl rfl hl.1 (Nat.le_of_ble_eq_true rfl) ⟨Nat.zero_le _, Nat.zero_le _⟩ rfl dX4_comes_31 (fun H locs hP hD hS => ?_)
      obtain rfl := Option.some.inj hf
      exact zs_iret (pc := 34) hX hB hR hK hP hD hS dX4_comes_34
    · have hf := zs_ip hf hq
      refine lv_aload_n (pc := 20) hX hB dX4_comes_20 rfl (lv_at hl 0 rfl) ?_
      obtain ⟨o5, hc, hf⟩ := zs_bind hf
      refine zs_V (q := (RX4, TX4, 21)) (ci := 4) (q0 := 0) (b := a_T) (pc := 21) (As := []) (rest := []) (st1 := [.int o5.1]) (wc := [(a_T, .inr (4, [.ref a_T_st, .long v_T_above, .long v_T_below, .ref a_T_refused, .ref a_T_text, .int v_T_bytes, .int v_T_place, .int v_T_token, .int v_T_value, .int v_T_begins, .ref a_T_row, .int v_T_toldHolders, .ref a_T_points, .ref a_T_used, .ref a_T_ahead, .int v_T_undoMany, .long v_T_drawn, .ref a_T_isKept, .ref a_T_kept, .ref a_T_keptAhead, .ref a_T_keptMany])), (a_T_refused, .inl (gI g, 3, .inl v_T_refused))]) (wr := [(a_T_st, .inl (gI g, 27, .inl v_T_st)), (a_T_points, .inl (gI g, 6, .inl v_T_points)), (a_T_used, .inl (gI g, 4, .inl v_T_used))]) (w1 := [(a_T, .inr (4, [.ref a_T_st, .long v_T_above, .long v_T_below, .ref a_T_refused, .ref a_T_text, .int v_T_bytes, .int v_T_place, .int v_T_token, .int v_T_value, .int v_T_begins, .ref a_T_row, .int v_T_toldHolders, .ref a_T_points, .ref a_T_used, .ref a_T_ahead, .int v_T_undoMany, .long v_T_drawn, .ref a_T_isKept, .ref a_T_kept, .ref a_T_keptAhead, .ref a_T_keptMany])), (a_T_refused, .inl (gI g, 3, .inl o5.2))]) (w2 := [(a_T, .inr (4, [.ref a_T_st, .long v_T_above, .long v_T_below, .ref a_T_refused, .ref a_T_text, .int v_T_bytes, .int v_T_place, .int v_T_token, .int v_T_value, .int v_T_begins, .ref a_T_row, .int v_T_toldHolders, .ref a_T_points, .ref a_T_used, .ref a_T_ahead, .int v_T_undoMany, .long v_T_drawn, .ref a_T_isKept, .ref a_T_kept, .ref a_T_keptAhead, .ref a_T_keptMany])), (a_T_st, .inl (gI g, 27, .inl v_T_st)), (a_T_refused, .inl (gI g, 3, .inl o5.2)), (a_T_points, .inl (gI g, 6, .inl v_T_points)), (a_T_used, .inl (gI g, 4, .inl v_T_used))]) (ov := some (.int o5.1)) lb_X4_bad lk_X4_64 hX hB hM hO hT hE hP hD hS hA (c_X4_bad l g _ a_T a_T_st a_T_text a_T_row a_T_points a_T_used a_T_ahead a_T_isKept a_T_kept a_T_keptAhead a_T_keptMany a_T_refused v_T_above v_T_below v_T_bytes v_T_place v_T_token v_T_value v_T_begins v_T_toldHolders v_T_undoMany v_T_drawn v_T_refused o5 hc) ⟨rfl, rfl⟩ ⟨Nat.le_of_ble_eq_true rfl, Nat.le_of_ble_eq_true rfl⟩ rfl rfl [0, 2] [1, 3, 4] [3, 0, 4, 1, 2] rfl rfl rfl rfl (by decide) rfl rfl rfl rfl hl.1 (Nat.le_of_ble_eq_true rfl) ⟨Nat.zero_le _, Nat.zero_le _⟩ rfl dX4_comes_21 (fun H locs hP hD hS => ?_)
      refine lv_pop (pc := 24) hX hB dX4_comes_24 rfl ?_
      refine lv_bipush (pc := 25) (v := -10) hX hB dX4_comes_25 (by decide) ?_
      obtain rfl := Option.some.inj hf
      exact zs_iret (pc := 27) hX hB hR hK hP hD hS dX4_comes_27
