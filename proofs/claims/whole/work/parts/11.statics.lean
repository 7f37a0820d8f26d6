def f_X3_nextX (p1 : Int64) : Option (Int64) :=
  some (jlrem ((p1 * (1103515245 : Int64)) + (12345 : Int64)) (2147483648 : Int64))
set_option maxHeartbeats 4000000 in
set_option maxRecDepth 100000 in
theorem c_X3_nextX (l : Launch) (g : GG) (sz : Nat) (p1 : Int64) (o : Int64) (hf : f_X3_nextX p1 = some o) : Met l yX3_nextX (Cond.code yX3_nextX cX3_nextX 2 (some .long) :: TB) { frames := 0, cells := 0, slots := 0, locals := 0 } (Pst g [] [.long p1] sz) (Qst g [] (some (.long o)) (va_A [] sz)) 0 0 (va_A [] sz) := by
  unfold f_X3_nextX at hf
  refine zs_met (own := RX3) (plainFor_of_name (by decide)) rfl (Nat.le_of_ble_eq_true rfl) ?_
  intro p e s m below meth c A ls hX hB hR hM hT hO hK hN hA hE hP hD hS hl
  have hl : lv_has ls 2 [(0, .long p1)] := hl
  refine lv_lload_n (pc := 0) hX hB dX3_nextX_0 rfl (lv_at hl 0 rfl) ?_
  refine lv_ldc2 (pc := 1) (v := 1103515245) hX hB hO (hT _ tw_2_205) dX3_nextX_1 ?_
  refine lv_lmul (pc := 4) hX hB dX3_nextX_4 ?_
  refine lv_ldc2 (pc := 5) (v := 12345) hX hB hO (hT _ tw_2_206) dX3_nextX_5 ?_
  refine lv_ladd (pc := 8) hX hB dX3_nextX_8 ?_
  refine lv_ldc2 (pc := 9) (v := 2147483648) hX hB hO (hT _ tw_2_207) dX3_nextX_9 ?_
  refine zs_lrem (pc := 12) hX hB dX3_nextX_12 (by decide) ?_
  obtain rfl := Option.some.inj hf
  exact zs_lret (pc := 13) hX hB hR hK hP hD hS dX3_nextX_13

def f_X3_drawn (p1 : Int64) (p2 : Int32) : Option (Int32) :=
  if (1 : Int32) ≤ p2 then (gd (decide (¬ p2.toInt64 = 0)) (some ((jlrem (p1 / (65536 : Int64)) p2.toInt64).toInt32))) else (some (0 : Int32))
set_option maxHeartbeats 4000000 in
set_option maxRecDepth 100000 in
theorem c_X3_drawn (l : Launch) (g : GG) (sz : Nat) (p1 : Int64) (p2 : Int32) (o : Int32) (hf : f_X3_drawn p1 p2 = some o) : Met l yX3_drawn (Cond.code yX3_drawn cX3_drawn 3 (some .int) :: TB) { frames := 0, cells := 0, slots := 0, locals := 0 } (Pst g [] [.long p1, .int p2] sz) (Qst g [] (some (.int o)) (va_A [] sz)) 0 0 (va_A [] sz) := by
  unfold f_X3_drawn at hf
  refine zs_met (own := RX3) (plainFor_of_name (by decide)) rfl (Nat.le_of_ble_eq_true rfl) ?_
  intro p e s m below meth c A ls hX hB hR hM hT hO hK hN hA hE hP hD hS hl
  have hl : lv_has ls 3 [(0, .long p1), (2, .int p2)] := hl
  refine lv_iload_n (pc := 0) hX hB dX3_drawn_0 rfl (lv_at hl 1 rfl) ?_
  refine lv_iconst (pc := 1) (v := 1) hX hB dX3_drawn_1 (by decide) ?_
  refine lv_icmp_ge (pc := 2) (tgt := 9) hX hB dX3_drawn_2 (by decide) (fun hq => ?_) (fun hq => ?_)
  · have hf := zs_ip hf hq
    refine lv_lload_n (pc := 9) hX hB dX3_drawn_9 rfl (lv_at hl 0 rfl) ?_
    refine lv_ldc2 (pc := 10) (v := 65536) hX hB hO (hT _ tw_2_211) dX3_drawn_10 ?_
    refine lv_ldiv (pc := 13) hX hB dX3_drawn_13 (by decide) ?_
    refine lv_iload_n (pc := 14) hX hB dX3_drawn_14 rfl (lv_at hl 1 rfl) ?_
    refine lv_i2l (pc := 15) (v := p2.toInt64) hX hB dX3_drawn_15 rfl ?_
    obtain ⟨hg, hf⟩ := zs_gd hf
    refine zs_lrem (pc := 16) hX hB dX3_drawn_16 (of_decide_eq_true hg) ?_
    refine lv_l2i (pc := 17) (v := (jlrem (p1 / (65536 : Int64)) p2.toInt64).toInt32) hX hB dX3_drawn_17 rfl ?_
    obtain rfl := Option.some.inj hf
    exact zs_iret (pc := 18) hX hB hR hK hP hD hS dX3_drawn_18
  · have hf := zs_in hf hq
    refine lv_iconst (pc := 5) (v := 0) hX hB dX3_drawn_5 (by decide) ?_
    refine lv_goto (pc := 6) (tgt := 18) hX hB dX3_drawn_6 (by decide) ?_
    obtain rfl := Option.some.inj hf
    exact zs_iret (pc := 18) hX hB hR hK hP hD hS dX3_drawn_18

def f_X3_leftOver (p1 : Int32) : Option (Int32) :=
  if (0 : Int32) ≤ (jrem p1 (97 : Int32)) then (some (jrem p1 (97 : Int32))) else (some ((jrem p1 (97 : Int32)) + (97 : Int32)))
set_option maxHeartbeats 4000000 in
set_option maxRecDepth 100000 in
theorem c_X3_leftOver (l : Launch) (g : GG) (sz : Nat) (p1 : Int32) (o : Int32) (hf : f_X3_leftOver p1 = some o) : Met l yX3_leftOver (Cond.code yX3_leftOver cX3_leftOver 2 (some .int) :: TB) { frames := 0, cells := 0, slots := 0, locals := 0 } (Pst g [] [.int p1] sz) (Qst g [] (some (.int o)) (va_A [] sz)) 0 0 (va_A [] sz) := by
  unfold f_X3_leftOver at hf
  refine zs_met (own := RX3) (plainFor_of_name (by decide)) rfl (Nat.le_of_ble_eq_true rfl) ?_
  intro p e s m below meth c A ls hX hB hR hM hT hO hK hN hA hE hP hD hS hl
  have hl : lv_has ls 2 [(0, .int p1)] := hl
  refine lv_iload_n (pc := 0) hX hB dX3_leftOver_0 rfl (lv_at hl 0 rfl) ?_
  refine lv_bipush (pc := 1) (v := 97) hX hB dX3_leftOver_1 (by decide) ?_
  refine zs_irem (pc := 3) hX hB dX3_leftOver_3 (by decide) ?_
  refine lv_istore_n (pc := 4) (lv' := [(1, .int (jrem p1 (97 : Int32))), (0, .int p1)]) hX hB dX3_leftOver_4 rfl hl (by decide) rfl (fun ls hl => ?_)
  refine lv_iload_n (pc := 5) hX hB dX3_leftOver_5 rfl (lv_at hl 0 rfl) ?_
  refine lv_if_ge (pc := 6) (tgt := 16) hX hB dX3_leftOver_6 (by decide) (fun hq => ?_) (fun hq => ?_)
  · have hf := zs_ip hf hq
    refine lv_iload_n (pc := 16) hX hB dX3_leftOver_16 rfl (lv_at hl 0 rfl) ?_
    obtain rfl := Option.some.inj hf
    exact zs_iret (pc := 17) hX hB hR hK hP hD hS dX3_leftOver_17
  · have hf := zs_in hf hq
    refine lv_iload_n (pc := 9) hX hB dX3_leftOver_9 rfl (lv_at hl 0 rfl) ?_
    refine lv_bipush (pc := 10) (v := 97) hX hB dX3_leftOver_10 (by decide) ?_
    refine lv_iadd (pc := 12) hX hB dX3_leftOver_12 ?_
    refine lv_goto (pc := 13) (tgt := 17) hX hB dX3_leftOver_13 (by decide) ?_
    obtain rfl := Option.some.inj hf
    exact zs_iret (pc := 17) hX hB hR hK hP hD hS dX3_leftOver_17

def f_X3_isIn (p1 : Int32) (p2 : Int32) : Option (Int32) :=
  if ((jshr p1 p2) &&& (1 : Int32)) = (1 : Int32) then (some (1 : Int32)) else (some (0 : Int32))
set_option maxHeartbeats 4000000 in
set_option maxRecDepth 100000 in
theorem c_X3_isIn (l : Launch) (g : GG) (sz : Nat) (p1 : Int32) (p2 : Int32) (o : Int32) (hf : f_X3_isIn p1 p2 = some o) : Met l yX3_isIn (Cond.code yX3_isIn cX3_isIn 2 (some .boolean) :: TB) { frames := 0, cells := 0, slots := 0, locals := 0 } (Pst g [] [.int p1, .int p2] sz) (Qst g [] (some (.int o)) (va_A [] sz)) 0 0 (va_A [] sz) := by
  unfold f_X3_isIn at hf
  refine zs_met (own := RX3) (plainFor_of_name (by decide)) rfl (Nat.le_of_ble_eq_true rfl) ?_
  intro p e s m below meth c A ls hX hB hR hM hT hO hK hN hA hE hP hD hS hl
  have hl : lv_has ls 2 [(0, .int p1), (1, .int p2)] := hl
  refine lv_iload_n (pc := 0) hX hB dX3_isIn_0 rfl (lv_at hl 0 rfl) ?_
  refine lv_iload_n (pc := 1) hX hB dX3_isIn_1 rfl (lv_at hl 1 rfl) ?_
  refine zs_ishr (pc := 2) hX hB dX3_isIn_2 ?_
  refine lv_iconst (pc := 3) (v := 1) hX hB dX3_isIn_3 (by decide) ?_
  refine lv_iand (pc := 4) hX hB dX3_isIn_4 ?_
  refine lv_iconst (pc := 5) (v := 1) hX hB dX3_isIn_5 (by decide) ?_
  refine lv_icmp_ne (pc := 6) (tgt := 13) hX hB dX3_isIn_6 (by decide) (fun hq => ?_) (fun hq => ?_)
  · have hf := zs_in hf hq
    refine lv_iconst (pc := 13) (v := 0) hX hB dX3_isIn_13 (by decide) ?_
    obtain rfl := Option.some.inj hf
    exact zs_zret (v := (0 : Int32)) (pc := 14) hX hB hR hK rfl hP hD hS dX3_isIn_14
  · have hf := zs_ip hf hq
    refine lv_iconst (pc := 9) (v := 1) hX hB dX3_isIn_9 (by decide) ?_
    refine lv_goto (pc := 10) (tgt := 14) hX hB dX3_isIn_10 (by decide) ?_
    obtain rfl := Option.some.inj hf
    exact zs_zret (v := (1 : Int32)) (pc := 14) hX hB hR hK rfl hP hD hS dX3_isIn_14

def f_X3_isWithin (p1 : Int32) (p2 : Int32) (p3 : Int32) : Option (Int32) :=
  if p1 < p2 then (some (0 : Int32)) else (if p3 < p1 then (some (0 : Int32)) else (some (1 : Int32)))
set_option maxHeartbeats 4000000 in
set_option maxRecDepth 100000 in
theorem c_X3_isWithin (l : Launch) (g : GG) (sz : Nat) (p1 : Int32) (p2 : Int32) (p3 : Int32) (o : Int32) (hf : f_X3_isWithin p1 p2 p3 = some o) : Met l yX3_isWithin (Cond.code yX3_isWithin cX3_isWithin 3 (some .boolean) :: TB) { frames := 0, cells := 0, slots := 0, locals := 0 } (Pst g [] [.int p1, .int p2, .int p3] sz) (Qst g [] (some (.int o)) (va_A [] sz)) 0 0 (va_A [] sz) := by
  unfold f_X3_isWithin at hf
  refine zs_met (own := RX3) (plainFor_of_name (by decide)) rfl (Nat.le_of_ble_eq_true rfl) ?_
  intro p e s m below meth c A ls hX hB hR hM hT hO hK hN hA hE hP hD hS hl
  have hl : lv_has ls 3 [(0, .int p1), (1, .int p2), (2, .int p3)] := hl
  refine lv_iload_n (pc := 0) hX hB dX3_isWithin_0 rfl (lv_at hl 0 rfl) ?_
  refine lv_iload_n (pc := 1) hX hB dX3_isWithin_1 rfl (lv_at hl 1 rfl) ?_
  refine lv_icmp_lt (pc := 2) (tgt := 14) hX hB dX3_isWithin_2 (by decide) (fun hq => ?_) (fun hq => ?_)
  · have hf := zs_ip hf hq
    refine lv_iconst (pc := 14) (v := 0) hX hB dX3_isWithin_14 (by decide) ?_
    obtain rfl := Option.some.inj hf
    exact zs_zret (v := (0 : Int32)) (pc := 15) hX hB hR hK rfl hP hD hS dX3_isWithin_15
  · have hf := zs_in hf hq
    refine lv_iload_n (pc := 5) hX hB dX3_isWithin_5 rfl (lv_at hl 0 rfl) ?_
    refine lv_iload_n (pc := 6) hX hB dX3_isWithin_6 rfl (lv_at hl 2 rfl) ?_
    refine lv_icmp_gt (pc := 7) (tgt := 14) hX hB dX3_isWithin_7 (by decide) (fun hq => ?_) (fun hq => ?_)
    · have hf := zs_ip hf hq
      refine lv_iconst (pc := 14) (v := 0) hX hB dX3_isWithin_14 (by decide) ?_
      obtain rfl := Option.some.inj hf
      exact zs_zret (v := (0 : Int32)) (pc := 15) hX hB hR hK rfl hP hD hS dX3_isWithin_15
    · have hf := zs_in hf hq
      refine lv_iconst (pc := 10) (v := 1) hX hB dX3_isWithin_10 (by decide) ?_
      refine lv_goto (pc := 11) (tgt := 15) hX hB dX3_isWithin_11 (by decide) ?_
      obtain rfl := Option.some.inj hf
      exact zs_zret (v := (1 : Int32)) (pc := 15) hX hB hR hK rfl hP hD hS dX3_isWithin_15

def b_X3_power_5 (p1 : Int32) (p2 : Int32) (x1 : Int64 × Int32) : Option ((Int64 × Int32) ⊕ (Int64)) :=
  if p2 ≤ x1.2 then (some (Sum.inr x1.1)) else (some (Sum.inl (x1.1 * p1.toInt64, x1.2 + (1 : Int32))))
def f_X3_power (p1 : Int32) (p2 : Int32) : Option (Int64) :=
  (lp (b_X3_power_5 p1 p2) 200 ((1 : Int64), (0 : Int32))).bind (fun y2 => some y2)
set_option maxHeartbeats 4000000 in
set_option maxRecDepth 100000 in
theorem c_X3_power (l : Launch) (g : GG) (sz : Nat) (p1 : Int32) (p2 : Int32) (o : Int64) (hf : f_X3_power p1 p2 = some o) : Met l yX3_power (Cond.code yX3_power cX3_power 5 (some .long) :: TB) { frames := 0, cells := 0, slots := 0, locals := 0 } (Pst g [] [.int p1, .int p2] sz) (Qst g [] (some (.long o)) (va_A [] sz)) 0 0 (va_A [] sz) := by
  unfold f_X3_power at hf
  refine zs_met (own := RX3) (plainFor_of_name (by decide)) rfl (Nat.le_of_ble_eq_true rfl) ?_
  intro p e s m below meth c A ls hX hB hR hM hT hO hK hN hA hE hP hD hS hl
  have hl : lv_has ls 5 [(0, .int p1), (1, .int p2)] := hl
  refine lv_lconst (pc := 0) (v := 1) hX hB dX3_power_0 (by decide) ?_
  refine lv_lstore_n (pc := 1) (lv' := [(2, .long (1 : Int64)), (0, .int p1), (1, .int p2)]) hX hB dX3_power_1 rfl hl (by decide) rfl (fun ls hl => ?_)
  refine lv_iconst (pc := 2) (v := 0) hX hB dX3_power_2 (by decide) ?_
  refine lv_istore (pc := 3) (lv' := [(4, .int (0 : Int32)), (2, .long (1 : Int64)), (0, .int p1), (1, .int p2)]) hX hB dX3_power_3 hl (by decide) rfl (fun ls hl => ?_)
  obtain ⟨y2, hj, hf⟩ := zs_bind hf
  refine zs_then (α := Unit) (fun _ H locs ls => CC g A s.heap 5 [] [(2, .long y2)] H locs ls) (fun _ ls => F0 m 22 ls []) (fun _ H locs ls hC => ?_) (fun X => ?_)
  · obtain ⟨hP, hD, hS, hl⟩ := hC
    refine lv_lload_n (pc := 22) hX hB dX3_power_22 rfl (lv_at hl 0 rfl) ?_
    obtain rfl := Option.some.inj hf
    exact zs_lret (pc := 23) hX hB hR hK hP hD hS dX3_power_23
  · refine zs_loop (fun x1 H locs ls => CC g A s.heap 5 [] [(0, .int p1), (1, .int p2), (2, .long x1.1), (4, .int x1.2)] H locs ls) hj (fun n x1 q hf hr ih H locs ls hC => ?_) ⟨hP, hD, hS, lv_sub hl [2, 3, 1, 0] rfl⟩
    obtain ⟨hP, hD, hS, hl⟩ := hC
    unfold b_X3_power_5 at hf
    refine lv_iload (pc := 5) hX hB dX3_power_5 (lv_at hl 3 rfl) ?_
    refine lv_iload_n (pc := 7) hX hB dX3_power_7 rfl (lv_at hl 1 rfl) ?_
    refine lv_icmp_ge (pc := 8) (tgt := 22) hX hB dX3_power_8 (by decide) (fun hq => ?_) (fun hq => ?_)
    · have hf := zs_ip hf hq
      obtain rfl := Option.some.inj hf
      obtain rfl := hr
      exact X () _ _ _ ⟨hP, hD, hS, lv_sub hl [2] rfl⟩
    · have hf := zs_in hf hq
      refine lv_lload_n (pc := 11) hX hB dX3_power_11 rfl (lv_at hl 2 rfl) ?_
      refine lv_iload_n (pc := 12) hX hB dX3_power_12 rfl (lv_at hl 0 rfl) ?_
      refine lv_i2l (pc := 13) (v := p1.toInt64) hX hB dX3_power_13 rfl ?_
      refine lv_lmul (pc := 14) hX hB dX3_power_14 ?_
      refine lv_lstore_n (pc := 15) (lv' := [(2, .long (x1.1 * p1.toInt64)), (0, .int p1), (1, .int p2), (4, .int x1.2)]) hX hB dX3_power_15 rfl hl (by decide) rfl (fun ls hl => ?_)
      refine lv_iinc (pc := 16) (v := x1.2 + (1 : Int32)) (lv' := [(4, .int (x1.2 + (1 : Int32))), (2, .long (x1.1 * p1.toInt64)), (0, .int p1), (1, .int p2)]) hX hB dX3_power_16 hl (k := 3) rfl rfl (by decide) rfl (fun ls hl => ?_)
      refine lv_goto (pc := 19) (tgt := 5) hX hB dX3_power_19 (by decide) ?_
      obtain rfl := Option.some.inj hf
      exact ih _ hr _ _ _ ⟨hP, hD, hS, lv_sub hl [2, 3, 1, 0] rfl⟩

def b_X3_partsWithAtLeast_5 (p1 : Int32) (p2 : Int32) (p3 : Int32) (x1 : Int64 × Int32) : Option ((Int64 × Int32) ⊕ (Int64)) :=
  if (jshl (1 : Int32) p2) ≤ x1.2 then (some (Sum.inr x1.1)) else ((f_J6_bitCount_0f7a4 x1.2).bind (fun o3 => if o3 < p1 then (some (Sum.inl (x1.1, x1.2 + (1 : Int32)))) else ((f_X3_power p3 o3).bind (fun o4 => (f_X3_power ((10 : Int32) - p3) (p2 - o3)).bind (fun o5 => some (Sum.inl (x1.1 + (o4 * o5), x1.2 + (1 : Int32))))))))
def f_X3_partsWithAtLeast (p1 : Int32) (p2 : Int32) (p3 : Int32) : Option (Int64) :=
  (lp (b_X3_partsWithAtLeast_5 p1 p2 p3) 200 ((0 : Int64), (0 : Int32))).bind (fun y2 => some y2)
set_option maxHeartbeats 4000000 in
set_option maxRecDepth 100000 in
theorem c_X3_partsWithAtLeast (l : Launch) (g : GG) (sz : Nat) (p1 : Int32) (p2 : Int32) (p3 : Int32) (o : Int64) (hf : f_X3_partsWithAtLeast p1 p2 p3 = some o) : Met l yX3_partsWithAtLeast (Cond.code yX3_partsWithAtLeast cX3_partsWithAtLeast 7 (some .long) :: TB) { frames := 1, cells := 0, slots := 0, locals := 24 } (Pst g [] [.int p1, .int p2, .int p3] sz) (Qst g [] (some (.long o)) (va_A [] sz)) 0 0 (va_A [] sz) := by
  unfold f_X3_partsWithAtLeast at hf
  refine zs_met (own := RX3) (plainFor_of_name (by decide)) rfl (Nat.le_of_ble_eq_true rfl) ?_
  intro p e s m below meth c A ls hX hB hR hM hT hO hK hN hA hE hP hD hS hl
  have hl : lv_has ls 7 [(0, .int p1), (1, .int p2), (2, .int p3)] := hl
  refine lv_lconst (pc := 0) (v := 0) hX hB dX3_partsWithAtLeast_0 (by decide) ?_
  refine lv_lstore_n (pc := 1) (lv' := [(3, .long (0 : Int64)), (0, .int p1), (1, .int p2), (2, .int p3)]) hX hB dX3_partsWithAtLeast_1 rfl hl (by decide) rfl (fun ls hl => ?_)
  refine lv_iconst (pc := 2) (v := 0) hX hB dX3_partsWithAtLeast_2 (by decide) ?_
  refine lv_istore (pc := 3) (lv' := [(5, .int (0 : Int32)), (3, .long (0 : Int64)), (0, .int p1), (1, .int p2), (2, .int p3)]) hX hB dX3_partsWithAtLeast_3 hl (by decide) rfl (fun ls hl => ?_)
  obtain ⟨y2, hj, hf⟩ := zs_bind hf
  refine zs_then (α := Unit) (fun _ H locs ls => CC g A s.heap 7 [] [(3, .long y2)] H locs ls) (fun _ ls => F0 m 53 ls []) (fun _ H locs ls hC => ?_) (fun X => ?_)
  · obtain ⟨hP, hD, hS, hl⟩ := hC
    refine lv_lload_n (pc := 53) hX hB dX3_partsWithAtLeast_53 rfl (lv_at hl 0 rfl) ?_
    obtain rfl := Option.some.inj hf
    exact zs_lret (pc := 54) hX hB hR hK hP hD hS dX3_partsWithAtLeast_54
  · refine zs_loop (fun x1 H locs ls => CC g A s.heap 7 [] [(0, .int p1), (1, .int p2), (2, .int p3), (3, .long x1.1), (5, .int x1.2)] H locs ls) hj (fun n x1 q hf hr ih H locs ls hC => ?_) ⟨hP, hD, hS, lv_sub hl [2, 3, 4, 1, 0] rfl⟩
    obtain ⟨hP, hD, hS, hl⟩ := hC
    unfold b_X3_partsWithAtLeast_5 at hf
    refine lv_iload (pc := 5) hX hB dX3_partsWithAtLeast_5 (lv_at hl 4 rfl) ?_
    refine lv_iconst (pc := 7) (v := 1) hX hB dX3_partsWithAtLeast_7 (by decide) ?_
    refine lv_iload_n (pc := 8) hX hB dX3_partsWithAtLeast_8 rfl (lv_at hl 1 rfl) ?_
    refine zs_ishl (pc := 9) hX hB dX3_partsWithAtLeast_9 ?_
    refine lv_icmp_ge (pc := 10) (tgt := 53) hX hB dX3_partsWithAtLeast_10 (by decide) (fun hq => ?_) (fun hq => ?_)
    · have hf := zs_ip hf hq
      obtain rfl := Option.some.inj hf
      obtain rfl := hr
      exact X () _ _ _ ⟨hP, hD, hS, lv_sub hl [3] rfl⟩
    · have hf := zs_in hf hq
      refine lv_iload (pc := 13) hX hB dX3_partsWithAtLeast_13 (lv_at hl 4 rfl) ?_
      obtain ⟨o3, hc, hf⟩ := zs_bind hf
      refine zs_S (pc := 15) (As := [.int x1.2]) (rest := []) (st1 := [.int o3]) (wc := []) (wr := []) (w1 := []) (w2 := []) (ov := some (.int o3)) lb_J6_bitCount_0f7a4 lk_X3_175 hX hB hM hO hT hE hP hD hS hA (c_J6_bitCount_0f7a4 l g _ x1.2 o3 hc) ⟨rfl, rfl⟩ ⟨Nat.le_of_ble_eq_true rfl, Nat.le_of_ble_eq_true rfl⟩ [] [] [] rfl rfl rfl rfl (by decide) rfl rfl rfl rfl hl.1 (Nat.le_of_ble_eq_true rfl) ⟨Nat.zero_le _, Nat.zero_le _⟩ rfl dX3_partsWithAtLeast_15 (fun H locs hP hD hS => ?_)
      refine lv_istore (pc := 18) (lv' := [(6, .int o3), (0, .int p1), (1, .int p2), (2, .int p3), (3, .long x1.1), (5, .int x1.2)]) hX hB dX3_partsWithAtLeast_18 hl (by decide) rfl (fun ls hl => ?_)
      refine lv_iload (pc := 20) hX hB dX3_partsWithAtLeast_20 (lv_at hl 0 rfl) ?_
      refine lv_iload_n (pc := 22) hX hB dX3_partsWithAtLeast_22 rfl (lv_at hl 1 rfl) ?_
      refine lv_icmp_lt (pc := 23) (tgt := 47) hX hB dX3_partsWithAtLeast_23 (by decide) (fun hq => ?_) (fun hq => ?_)
      · have hf := zs_ip hf hq
        refine lv_iinc (pc := 47) (v := x1.2 + (1 : Int32)) (lv' := [(5, .int (x1.2 + (1 : Int32))), (6, .int o3), (0, .int p1), (1, .int p2), (2, .int p3), (3, .long x1.1)]) hX hB dX3_partsWithAtLeast_47 hl (k := 5) rfl rfl (by decide) rfl (fun ls hl => ?_)
        refine lv_goto (pc := 50) (tgt := 5) hX hB dX3_partsWithAtLeast_50 (by decide) ?_
        obtain rfl := Option.some.inj hf
        exact ih _ hr _ _ _ ⟨hP, hD, hS, lv_sub hl [2, 3, 4, 5, 0] rfl⟩
      · have hf := zs_in hf hq
        refine lv_lload_n (pc := 26) hX hB dX3_partsWithAtLeast_26 rfl (lv_at hl 4 rfl) ?_
        refine lv_iload_n (pc := 27) hX hB dX3_partsWithAtLeast_27 rfl (lv_at hl 3 rfl) ?_
        refine lv_iload (pc := 28) hX hB dX3_partsWithAtLeast_28 (lv_at hl 0 rfl) ?_
        obtain ⟨o4, hc, hf⟩ := zs_bind hf
        refine zs_S (pc := 30) (As := [.int p3, .int o3]) (rest := [.long x1.1]) (st1 := [.long o4, .long x1.1]) (wc := []) (wr := []) (w1 := []) (w2 := []) (ov := some (.long o4)) lb_X3_power lk_X3_220 hX hB hM hO hT hE hP hD hS hA (c_X3_power l g _ p3 o3 o4 hc) ⟨rfl, rfl⟩ ⟨Nat.le_of_ble_eq_true rfl, Nat.le_of_ble_eq_true rfl⟩ [] [] [] rfl rfl rfl rfl (by decide) rfl rfl rfl rfl hl.1 (Nat.le_of_ble_eq_true rfl) ⟨Nat.zero_le _, Nat.zero_le _⟩ rfl dX3_partsWithAtLeast_30 (fun H locs hP hD hS => ?_)
        refine lv_bipush (pc := 33) (v := 10) hX hB dX3_partsWithAtLeast_33 (by decide) ?_
        refine lv_iload_n (pc := 35) hX hB dX3_partsWithAtLeast_35 rfl (lv_at hl 3 rfl) ?_
        refine lv_isub (pc := 36) hX hB dX3_partsWithAtLeast_36 ?_
        refine lv_iload_n (pc := 37) hX hB dX3_partsWithAtLeast_37 rfl (lv_at hl 2 rfl) ?_
        refine lv_iload (pc := 38) hX hB dX3_partsWithAtLeast_38 (lv_at hl 0 rfl) ?_
        refine lv_isub (pc := 40) hX hB dX3_partsWithAtLeast_40 ?_
        obtain ⟨o5, hc, hf⟩ := zs_bind hf
        refine zs_S (pc := 41) (As := [.int ((10 : Int32) - p3), .int (p2 - o3)]) (rest := [.long o4, .long x1.1]) (st1 := [.long o5, .long o4, .long x1.1]) (wc := []) (wr := []) (w1 := []) (w2 := []) (ov := some (.long o5)) lb_X3_power lk_X3_220 hX hB hM hO hT hE hP hD hS hA (c_X3_power l g _ ((10 : Int32) - p3) (p2 - o3) o5 hc) ⟨rfl, rfl⟩ ⟨Nat.le_of_ble_eq_true rfl, Nat.le_of_ble_eq_true rfl⟩ [] [] [] rfl rfl rfl rfl (by decide) rfl rfl rfl rfl hl.1 (Nat.le_of_ble_eq_true rfl) ⟨Nat.zero_le _, Nat.zero_le _⟩ rfl dX3_partsWithAtLeast_41 (fun H locs hP hD hS => ?_)
        refine lv_lmul (pc := 44) hX hB dX3_partsWithAtLeast_44 ?_
        refine lv_ladd (pc := 45) hX hB dX3_partsWithAtLeast_45 ?_
        refine lv_lstore_n (pc := 46) (lv' := [(3, .long (x1.1 + (o4 * o5))), (6, .int o3), (0, .int p1), (1, .int p2), (2, .int p3), (5, .int x1.2)]) hX hB dX3_partsWithAtLeast_46 rfl hl (by decide) rfl (fun ls hl => ?_)
        refine lv_iinc (pc := 47) (v := x1.2 + (1 : Int32)) (lv' := [(5, .int (x1.2 + (1 : Int32))), (3, .long (x1.1 + (o4 * o5))), (6, .int o3), (0, .int p1), (1, .int p2), (2, .int p3)]) hX hB dX3_partsWithAtLeast_47 hl (k := 5) rfl rfl (by decide) rfl (fun ls hl => ?_)
        refine lv_goto (pc := 50) (tgt := 5) hX hB dX3_partsWithAtLeast_50 (by decide) ?_
        obtain rfl := Option.some.inj hf
        exact ih _ hr _ _ _ ⟨hP, hD, hS, lv_sub hl [3, 4, 5, 1, 0] rfl⟩

def f_X3_isDay (p1 : Int32) : Option (Int32) :=
  (f_X3_isWithin p1 (0 : Int32) (999 : Int32)).bind (fun o1 => gd (bz o1) (some o1))
set_option maxHeartbeats 4000000 in
set_option maxRecDepth 100000 in
theorem c_X3_isDay (l : Launch) (g : GG) (sz : Nat) (p1 : Int32) (o : Int32) (hf : f_X3_isDay p1 = some o) : Met l yX3_isDay (Cond.code yX3_isDay cX3_isDay 1 (some .boolean) :: TB) { frames := 1, cells := 0, slots := 0, locals := 22 } (Pst g [] [.int p1] sz) (Qst g [] (some (.int o)) (va_A [] sz)) 0 0 (va_A [] sz) := by
  unfold f_X3_isDay at hf
  refine zs_met (own := RX3) (plainFor_of_name (by decide)) rfl (Nat.le_of_ble_eq_true rfl) ?_
  intro p e s m below meth c A ls hX hB hR hM hT hO hK hN hA hE hP hD hS hl
  have hl : lv_has ls 1 [(0, .int p1)] := hl
  refine lv_iload_n (pc := 0) hX hB dX3_isDay_0 rfl (lv_at hl 0 rfl) ?_
  refine lv_iconst (pc := 1) (v := 0) hX hB dX3_isDay_1 (by decide) ?_
  refine lv_sipush (pc := 2) (v := 999) hX hB dX3_isDay_2 (by decide) ?_
  obtain ⟨o1, hc, hf⟩ := zs_bind hf
  refine zs_S (pc := 5) (As := [.int p1, .int (0 : Int32), .int (999 : Int32)]) (rest := []) (st1 := [.int o1]) (wc := []) (wr := []) (w1 := []) (w2 := []) (ov := some (.int o1)) lb_X3_isWithin lk_X3_63 hX hB hM hO hT hE hP hD hS hA (c_X3_isWithin l g _ p1 (0 : Int32) (999 : Int32) o1 hc) ⟨rfl, rfl⟩ ⟨Nat.le_of_ble_eq_true rfl, Nat.le_of_ble_eq_true rfl⟩ [] [] [] rfl rfl rfl rfl (by decide) rfl rfl rfl rfl hl.1 (Nat.le_of_ble_eq_true rfl) ⟨Nat.zero_le _, Nat.zero_le _⟩ rfl dX3_isDay_5 (fun H locs hP hD hS => ?_)
  obtain ⟨hg, hf⟩ := zs_gd hf
  obtain rfl := Option.some.inj hf
  exact zs_zret (v := o1) (pc := 8) hX hB hR hK (zs_bz hg).1 hP hD hS dX3_isDay_8

def b_X3_commonDivisor_9 (x1 : Int64 × Int64 × Int32) : Option ((Int64 × Int64 × Int32) ⊕ (Int64)) :=
  if (100 : Int32) ≤ x1.2.2 then (some (Sum.inr x1.1)) else (if (lg_cmp x1.2.1 (0 : Int64)) = (0 : Int32) then (some (Sum.inr x1.1)) else (gd (decide (¬ x1.2.1 = 0)) (some (Sum.inl (x1.2.1, jlrem x1.1 x1.2.1, x1.2.2 + (1 : Int32))))))
def f_X3_commonDivisor (p1 : Int64) (p2 : Int64) : Option (Int64) :=
  (lp (b_X3_commonDivisor_9) 200 (p1, p2, (0 : Int32))).bind (fun y2 => some y2)
set_option maxHeartbeats 4000000 in
set_option maxRecDepth 100000 in
theorem c_X3_commonDivisor (l : Launch) (g : GG) (sz : Nat) (p1 : Int64) (p2 : Int64) (o : Int64) (hf : f_X3_commonDivisor p1 p2 = some o) : Met l yX3_commonDivisor (Cond.code yX3_commonDivisor cX3_commonDivisor 11 (some .long) :: TB) { frames := 0, cells := 0, slots := 0, locals := 0 } (Pst g [] [.long p1, .long p2] sz) (Qst g [] (some (.long o)) (va_A [] sz)) 0 0 (va_A [] sz) := by
  unfold f_X3_commonDivisor at hf
  refine zs_met (own := RX3) (plainFor_of_name (by decide)) rfl (Nat.le_of_ble_eq_true rfl) ?_
  intro p e s m below meth c A ls hX hB hR hM hT hO hK hN hA hE hP hD hS hl
  have hl : lv_has ls 11 [(0, .long p1), (2, .long p2)] := hl
  refine lv_lload_n (pc := 0) hX hB dX3_commonDivisor_0 rfl (lv_at hl 0 rfl) ?_
  refine lv_lstore (pc := 1) (lv' := [(4, .long p1), (0, .long p1), (2, .long p2)]) hX hB dX3_commonDivisor_1 hl (by decide) rfl (fun ls hl => ?_)
  refine lv_lload_n (pc := 3) hX hB dX3_commonDivisor_3 rfl (lv_at hl 2 rfl) ?_
  refine lv_lstore (pc := 4) (lv' := [(6, .long p2), (4, .long p1), (0, .long p1), (2, .long p2)]) hX hB dX3_commonDivisor_4 hl (by decide) rfl (fun ls hl => ?_)
  refine lv_iconst (pc := 6) (v := 0) hX hB dX3_commonDivisor_6 (by decide) ?_
  refine lv_istore (pc := 7) (lv' := [(8, .int (0 : Int32)), (6, .long p2), (4, .long p1), (0, .long p1), (2, .long p2)]) hX hB dX3_commonDivisor_7 hl (by decide) rfl (fun ls hl => ?_)
  obtain ⟨y2, hj, hf⟩ := zs_bind hf
  refine zs_then (α := Unit) (fun _ H locs ls => CC g A s.heap 11 [] [(4, .long y2)] H locs ls) (fun _ ls => F0 m 44 ls []) (fun _ H locs ls hC => ?_) (fun X => ?_)
  · obtain ⟨hP, hD, hS, hl⟩ := hC
    refine lv_lload (pc := 44) hX hB dX3_commonDivisor_44 (lv_at hl 0 rfl) ?_
    obtain rfl := Option.some.inj hf
    exact zs_lret (pc := 46) hX hB hR hK hP hD hS dX3_commonDivisor_46
  · refine zs_loop (fun x1 H locs ls => CC g A s.heap 11 [] [(4, .long x1.1), (6, .long x1.2.1), (8, .int x1.2.2)] H locs ls) hj (fun n x1 q hf hr ih H locs ls hC => ?_) ⟨hP, hD, hS, lv_sub hl [2, 1, 0] rfl⟩
    obtain ⟨hP, hD, hS, hl⟩ := hC
    unfold b_X3_commonDivisor_9 at hf
    refine lv_iload (pc := 9) hX hB dX3_commonDivisor_9 (lv_at hl 2 rfl) ?_
    refine lv_bipush (pc := 11) (v := 100) hX hB dX3_commonDivisor_11 (by decide) ?_
    refine lv_icmp_ge (pc := 13) (tgt := 44) hX hB dX3_commonDivisor_13 (by decide) (fun hq => ?_) (fun hq => ?_)
    · have hf := zs_ip hf hq
      obtain rfl := Option.some.inj hf
      obtain rfl := hr
      exact X () _ _ _ ⟨hP, hD, hS, lv_sub hl [0] rfl⟩
    · have hf := zs_in hf hq
      refine lv_lload (pc := 16) hX hB dX3_commonDivisor_16 (lv_at hl 1 rfl) ?_
      refine lv_lconst (pc := 18) (v := 0) hX hB dX3_commonDivisor_18 (by decide) ?_
      refine W.lcmp (pc := 19) hX hB dX3_commonDivisor_19 ?_
      refine lv_if_eq (pc := 20) (tgt := 44) hX hB dX3_commonDivisor_20 (by decide) (fun hq => ?_) (fun hq => ?_)
      · have hf := zs_ip hf hq
        obtain rfl := Option.some.inj hf
        obtain rfl := hr
        exact X () _ _ _ ⟨hP, hD, hS, lv_sub hl [0] rfl⟩
      · have hf := zs_in hf hq
        refine lv_lload (pc := 23) hX hB dX3_commonDivisor_23 (lv_at hl 0 rfl) ?_
        refine lv_lload (pc := 25) hX hB dX3_commonDivisor_25 (lv_at hl 1 rfl) ?_
        obtain ⟨hg, hf⟩ := zs_gd hf
        refine zs_lrem (pc := 27) hX hB dX3_commonDivisor_27 (of_decide_eq_true hg) ?_
        refine lv_lstore (pc := 28) (lv' := [(9, .long (jlrem x1.1 x1.2.1)), (4, .long x1.1), (6, .long x1.2.1), (8, .int x1.2.2)]) hX hB dX3_commonDivisor_28 hl (by decide) rfl (fun ls hl => ?_)
        refine lv_lload (pc := 30) hX hB dX3_commonDivisor_30 (lv_at hl 2 rfl) ?_
        refine lv_lstore (pc := 32) (lv' := [(4, .long x1.2.1), (9, .long (jlrem x1.1 x1.2.1)), (6, .long x1.2.1), (8, .int x1.2.2)]) hX hB dX3_commonDivisor_32 hl (by decide) rfl (fun ls hl => ?_)
        refine lv_lload (pc := 34) hX hB dX3_commonDivisor_34 (lv_at hl 1 rfl) ?_
        refine lv_lstore (pc := 36) (lv' := [(6, .long (jlrem x1.1 x1.2.1)), (4, .long x1.2.1), (9, .long (jlrem x1.1 x1.2.1)), (8, .int x1.2.2)]) hX hB dX3_commonDivisor_36 hl (by decide) rfl (fun ls hl => ?_)
        refine lv_iinc (pc := 38) (v := x1.2.2 + (1 : Int32)) (lv' := [(8, .int (x1.2.2 + (1 : Int32))), (6, .long (jlrem x1.1 x1.2.1)), (4, .long x1.2.1), (9, .long (jlrem x1.1 x1.2.1))]) hX hB dX3_commonDivisor_38 hl (k := 3) rfl rfl (by decide) rfl (fun ls hl => ?_)
        refine lv_goto (pc := 41) (tgt := 9) hX hB dX3_commonDivisor_41 (by decide) ?_
        obtain rfl := Option.some.inj hf
        exact ih _ hr _ _ _ ⟨hP, hD, hS, lv_sub hl [2, 1, 0] rfl⟩

def f_X3_isImage (p1 : Int32) : Option (Int32) :=
  (f_X3_isWithin p1 (0 : Int32) (1 : Int32)).bind (fun o1 => gd (bz o1) (some o1))
set_option maxHeartbeats 4000000 in
set_option maxRecDepth 100000 in
theorem c_X3_isImage (l : Launch) (g : GG) (sz : Nat) (p1 : Int32) (o : Int32) (hf : f_X3_isImage p1 = some o) : Met l yX3_isImage (Cond.code yX3_isImage cX3_isImage 1 (some .boolean) :: TB) { frames := 1, cells := 0, slots := 0, locals := 22 } (Pst g [] [.int p1] sz) (Qst g [] (some (.int o)) (va_A [] sz)) 0 0 (va_A [] sz) := by
  unfold f_X3_isImage at hf
  refine zs_met (own := RX3) (plainFor_of_name (by decide)) rfl (Nat.le_of_ble_eq_true rfl) ?_
  intro p e s m below meth c A ls hX hB hR hM hT hO hK hN hA hE hP hD hS hl
  have hl : lv_has ls 1 [(0, .int p1)] := hl
  refine lv_iload_n (pc := 0) hX hB dX3_isImage_0 rfl (lv_at hl 0 rfl) ?_
  refine lv_iconst (pc := 1) (v := 0) hX hB dX3_isImage_1 (by decide) ?_
  refine lv_iconst (pc := 2) (v := 1) hX hB dX3_isImage_2 (by decide) ?_
  obtain ⟨o1, hc, hf⟩ := zs_bind hf
  refine zs_S (pc := 3) (As := [.int p1, .int (0 : Int32), .int (1 : Int32)]) (rest := []) (st1 := [.int o1]) (wc := []) (wr := []) (w1 := []) (w2 := []) (ov := some (.int o1)) lb_X3_isWithin lk_X3_63 hX hB hM hO hT hE hP hD hS hA (c_X3_isWithin l g _ p1 (0 : Int32) (1 : Int32) o1 hc) ⟨rfl, rfl⟩ ⟨Nat.le_of_ble_eq_true rfl, Nat.le_of_ble_eq_true rfl⟩ [] [] [] rfl rfl rfl rfl (by decide) rfl rfl rfl rfl hl.1 (Nat.le_of_ble_eq_true rfl) ⟨Nat.zero_le _, Nat.zero_le _⟩ rfl dX3_isImage_3 (fun H locs hP hD hS => ?_)
  obtain ⟨hg, hf⟩ := zs_gd hf
  obtain rfl := Option.some.inj hf
  exact zs_zret (v := o1) (pc := 6) hX hB hR hK (zs_bz hg).1 hP hD hS dX3_isImage_6
