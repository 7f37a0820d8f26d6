def f_X1_append (v_T_length : Int32) (v_T_bytes : Nat → Int32) (p1 : Int32) : Option (Int32 × (Nat → Int32)) :=
  if v_T_length < (0 : Int32) then (some (v_T_length, v_T_bytes)) else (if (150 : Int32) ≤ v_T_length then (some (v_T_length, v_T_bytes)) else (gd (inb v_T_length 150) (some (v_T_length + (1 : Int32), upd v_T_bytes v_T_length.toNatClampNeg (vp_nar .byte p1.toInt8.toInt32)))))
set_option maxHeartbeats 4000000 in
set_option maxRecDepth 100000 in
theorem c_X1_append (l : Launch) (g : GG) (sz : Nat) (a_T a_T_bytes : Nat) (v_T_length : Int32) (v_T_tokenStart : Int32) (v_T_tokenEnd : Int32) (v_T_token : Int32) (v_T_bytes : Nat → Int32) (p1 : Int32) (o : Int32 × (Nat → Int32)) (hf : f_X1_append v_T_length v_T_bytes p1 = some o) : Met l yX1_append (Cond.code yX1_append cX1_append 2 none :: TB) { frames := 0, cells := 0, slots := 0, locals := 0 } (Pst g [(a_T, .inr (1, [.ref a_T_bytes, .int v_T_length, .int v_T_tokenStart, .int v_T_tokenEnd, .int v_T_token])), (a_T_bytes, .inl (gB g, 150, .inl v_T_bytes))] [.ref a_T, .int p1] sz) (Qst g [(a_T, .inr (1, [.ref a_T_bytes, .int o.1, .int v_T_tokenStart, .int v_T_tokenEnd, .int v_T_token])), (a_T_bytes, .inl (gB g, 150, .inl o.2))] (none) (va_A [(a_T, .inr (1, [.ref a_T_bytes, .int v_T_length, .int v_T_tokenStart, .int v_T_tokenEnd, .int v_T_token])), (a_T_bytes, .inl (gB g, 150, .inl v_T_bytes))] sz)) 0 0 (va_A [(a_T, .inr (1, [.ref a_T_bytes, .int v_T_length, .int v_T_tokenStart, .int v_T_tokenEnd, .int v_T_token])), (a_T_bytes, .inl (gB g, 150, .inl v_T_bytes))] sz) := by
  unfold f_X1_append at hf
  refine zs_met (own := RX1) (plainFor_of_name (by decide)) rfl (Nat.le_of_ble_eq_true rfl) ?_
  intro p e s m below meth c A ls hX hB hR hM hT hO hK hN hA hE hP hD hS hl
  have hl : lv_has ls 2 [(0, .ref a_T), (1, .int p1)] := hl
  refine lv_aload_n (pc := 0) hX hB dX1_append_0 rfl (lv_at hl 0 rfl) ?_
  refine gf_X1_15 (pc := 1) (v := .int v_T_length) hX hB hT hO hE hP 0 rfl rfl dX1_append_1 ?_
  refine lv_if_lt (pc := 4) (tgt := 40) hX hB dX1_append_4 (by decide) (fun hq => ?_) (fun hq => ?_)
  · have hf := zs_ip hf hq
    obtain rfl := Option.some.inj hf
    exact zs_vret (pc := 40) hX hB hR hK hP hD hS dX1_append_40
  · have hf := zs_in hf hq
    refine lv_aload_n (pc := 7) hX hB dX1_append_7 rfl (lv_at hl 0 rfl) ?_
    refine gf_X1_15 (pc := 8) (v := .int v_T_length) hX hB hT hO hE hP 0 rfl rfl dX1_append_8 ?_
    refine lv_aload_n (pc := 11) hX hB dX1_append_11 rfl (lv_at hl 0 rfl) ?_
    refine gf_X1_9 (pc := 12) (v := .ref a_T_bytes) hX hB hT hO hE hP 0 rfl rfl dX1_append_12 ?_
    refine va_alen (pc := 15) hX hB hE.1 hP 1 1 rfl rfl (v := (150 : Int32)) rfl dX1_append_15 ?_
    refine lv_icmp_ge (pc := 16) (tgt := 40) hX hB dX1_append_16 (by decide) (fun hq => ?_) (fun hq => ?_)
    · have hf := zs_ip hf hq
      obtain rfl := Option.some.inj hf
      exact zs_vret (pc := 40) hX hB hR hK hP hD hS dX1_append_40
    · have hf := zs_in hf hq
      refine lv_aload_n (pc := 19) hX hB dX1_append_19 rfl (lv_at hl 0 rfl) ?_
      refine gf_X1_9 (pc := 20) (v := .ref a_T_bytes) hX hB hT hO hE hP 0 rfl rfl dX1_append_20 ?_
      refine lv_aload_n (pc := 23) hX hB dX1_append_23 rfl (lv_at hl 0 rfl) ?_
      refine gf_X1_15 (pc := 24) (v := .int v_T_length) hX hB hT hO hE hP 0 rfl rfl dX1_append_24 ?_
      refine lv_iload_n (pc := 27) hX hB dX1_append_27 rfl (lv_at hl 1 rfl) ?_
      refine lv_i2b (pc := 28) (v := p1.toInt8.toInt32) hX hB dX1_append_28 rfl ?_
      obtain ⟨hg, hf⟩ := zs_gd hf
      refine zs_bast (pc := 29) (w2 := [(a_T, .inr (1, [.ref a_T_bytes, .int v_T_length, .int v_T_tokenStart, .int v_T_tokenEnd, .int v_T_token])), (a_T_bytes, .inl (gB g, 150, .inl (upd v_T_bytes v_T_length.toNatClampNeg (vp_nar .byte p1.toInt8.toInt32))))]) hX hB hE hP hD hS 1 rfl (zs_inb hg) rfl dX1_append_29 (fun H locs hP hD hS => ?_)
      refine lv_aload_n (pc := 30) hX hB dX1_append_30 rfl (lv_at hl 0 rfl) ?_
      refine lv_dup (pc := 31) hX hB dX1_append_31 rfl ?_
      refine gf_X1_15 (pc := 32) (v := .int v_T_length) hX hB hT hO hE hP 0 rfl rfl dX1_append_32 ?_
      refine lv_iconst (pc := 35) (v := 1) hX hB dX1_append_35 (by decide) ?_
      refine lv_iadd (pc := 36) hX hB dX1_append_36 ?_
      refine pf_X1_15 (pc := 37) (x := v_T_length + (1 : Int32)) (w2 := [(a_T, .inr (1, [.ref a_T_bytes, .int (v_T_length + (1 : Int32)), .int v_T_tokenStart, .int v_T_tokenEnd, .int v_T_token])), (a_T_bytes, .inl (gB g, 150, .inl (upd v_T_bytes v_T_length.toNatClampNeg (vp_nar .byte p1.toInt8.toInt32))))]) hX hB hT hO hE hP hD hS 0 rfl (Nat.le_of_ble_eq_true rfl) rfl dX1_append_37 (fun H locs hP hD hS => ?_)
      obtain rfl := Option.some.inj hf
      exact zs_vret (pc := 40) hX hB hR hK hP hD hS dX1_append_40

def f_X1_byteAt (v_T_bytes : Nat → Int32) (p1 : Int32) : Option (Int32) :=
  if p1 < (0 : Int32) then (some (0 : Int32)) else (if (150 : Int32) ≤ p1 then (some (0 : Int32)) else (gd (inb p1 150) (some (v_T_bytes p1.toNatClampNeg))))
set_option maxHeartbeats 4000000 in
set_option maxRecDepth 100000 in
theorem c_X1_byteAt (l : Launch) (g : GG) (sz : Nat) (a_T a_T_bytes : Nat) (v_T_length : Int32) (v_T_tokenStart : Int32) (v_T_tokenEnd : Int32) (v_T_token : Int32) (v_T_bytes : Nat → Int32) (p1 : Int32) (o : Int32) (hf : f_X1_byteAt v_T_bytes p1 = some o) : Met l yX1_byteAt (Cond.code yX1_byteAt cX1_byteAt 2 (some .int) :: TB) { frames := 0, cells := 0, slots := 0, locals := 0 } (Pst g [(a_T, .inr (1, [.ref a_T_bytes, .int v_T_length, .int v_T_tokenStart, .int v_T_tokenEnd, .int v_T_token])), (a_T_bytes, .inl (gB g, 150, .inl v_T_bytes))] [.ref a_T, .int p1] sz) (Qst g [(a_T, .inr (1, [.ref a_T_bytes, .int v_T_length, .int v_T_tokenStart, .int v_T_tokenEnd, .int v_T_token])), (a_T_bytes, .inl (gB g, 150, .inl v_T_bytes))] (some (.int o)) (va_A [(a_T, .inr (1, [.ref a_T_bytes, .int v_T_length, .int v_T_tokenStart, .int v_T_tokenEnd, .int v_T_token])), (a_T_bytes, .inl (gB g, 150, .inl v_T_bytes))] sz)) 0 0 (va_A [(a_T, .inr (1, [.ref a_T_bytes, .int v_T_length, .int v_T_tokenStart, .int v_T_tokenEnd, .int v_T_token])), (a_T_bytes, .inl (gB g, 150, .inl v_T_bytes))] sz) := by
  unfold f_X1_byteAt at hf
  refine zs_met (own := RX1) (plainFor_of_name (by decide)) rfl (Nat.le_of_ble_eq_true rfl) ?_
  intro p e s m below meth c A ls hX hB hR hM hT hO hK hN hA hE hP hD hS hl
  have hl : lv_has ls 2 [(0, .ref a_T), (1, .int p1)] := hl
  refine lv_iload_n (pc := 0) hX hB dX1_byteAt_0 rfl (lv_at hl 1 rfl) ?_
  refine lv_if_lt (pc := 1) (tgt := 22) hX hB dX1_byteAt_1 (by decide) (fun hq => ?_) (fun hq => ?_)
  · have hf := zs_ip hf hq
    refine lv_iconst (pc := 22) (v := 0) hX hB dX1_byteAt_22 (by decide) ?_
    obtain rfl := Option.some.inj hf
    exact zs_iret (pc := 23) hX hB hR hK hP hD hS dX1_byteAt_23
  · have hf := zs_in hf hq
    refine lv_iload_n (pc := 4) hX hB dX1_byteAt_4 rfl (lv_at hl 1 rfl) ?_
    refine lv_aload_n (pc := 5) hX hB dX1_byteAt_5 rfl (lv_at hl 0 rfl) ?_
    refine gf_X1_9 (pc := 6) (v := .ref a_T_bytes) hX hB hT hO hE hP 0 rfl rfl dX1_byteAt_6 ?_
    refine va_alen (pc := 9) hX hB hE.1 hP 1 1 rfl rfl (v := (150 : Int32)) rfl dX1_byteAt_9 ?_
    refine lv_icmp_ge (pc := 10) (tgt := 22) hX hB dX1_byteAt_10 (by decide) (fun hq => ?_) (fun hq => ?_)
    · have hf := zs_ip hf hq
      refine lv_iconst (pc := 22) (v := 0) hX hB dX1_byteAt_22 (by decide) ?_
      obtain rfl := Option.some.inj hf
      exact zs_iret (pc := 23) hX hB hR hK hP hD hS dX1_byteAt_23
    · have hf := zs_in hf hq
      refine lv_aload_n (pc := 13) hX hB dX1_byteAt_13 rfl (lv_at hl 0 rfl) ?_
      refine gf_X1_9 (pc := 14) (v := .ref a_T_bytes) hX hB hT hO hE hP 0 rfl rfl dX1_byteAt_14 ?_
      refine lv_iload_n (pc := 17) hX hB dX1_byteAt_17 rfl (lv_at hl 1 rfl) ?_
      obtain ⟨hg, hf⟩ := zs_gd hf
      refine va_bald (pc := 18) hX hB hE.1 hP 1 1 rfl rfl (zs_inb hg) dX1_byteAt_18 ?_
      refine lv_goto (pc := 19) (tgt := 23) hX hB dX1_byteAt_19 (by decide) ?_
      obtain rfl := Option.some.inj hf
      exact zs_iret (pc := 23) hX hB hR hK hP hD hS dX1_byteAt_23

def f_X1_isLong (p1 : Int32) : Option (Int32) :=
  if p1 = (1 : Int32) then (some (1 : Int32)) else (if p1 = (2 : Int32) then (some (1 : Int32)) else (some (0 : Int32)))
set_option maxHeartbeats 4000000 in
set_option maxRecDepth 100000 in
theorem c_X1_isLong (l : Launch) (g : GG) (sz : Nat) (p1 : Int32) (o : Int32) (hf : f_X1_isLong p1 = some o) : Met l yX1_isLong (Cond.code yX1_isLong cX1_isLong 1 (some .boolean) :: TB) { frames := 0, cells := 0, slots := 0, locals := 0 } (Pst g [] [.int p1] sz) (Qst g [] (some (.int o)) (va_A [] sz)) 0 0 (va_A [] sz) := by
  unfold f_X1_isLong at hf
  refine zs_met (own := RX1) (plainFor_of_name (by decide)) rfl (Nat.le_of_ble_eq_true rfl) ?_
  intro p e s m below meth c A ls hX hB hR hM hT hO hK hN hA hE hP hD hS hl
  have hl : lv_has ls 1 [(0, .int p1)] := hl
  refine lv_iload_n (pc := 0) hX hB dX1_isLong_0 rfl (lv_at hl 0 rfl) ?_
  refine lv_iconst (pc := 1) (v := 1) hX hB dX1_isLong_1 (by decide) ?_
  refine lv_icmp_eq (pc := 2) (tgt := 10) hX hB dX1_isLong_2 (by decide) (fun hq => ?_) (fun hq => ?_)
  · have hf := zs_ip hf hq
    refine lv_iconst (pc := 10) (v := 1) hX hB dX1_isLong_10 (by decide) ?_
    refine lv_goto (pc := 11) (tgt := 15) hX hB dX1_isLong_11 (by decide) ?_
    obtain rfl := Option.some.inj hf
    exact zs_zret (v := (1 : Int32)) (pc := 15) hX hB hR hK rfl hP hD hS dX1_isLong_15
  · have hf := zs_in hf hq
    refine lv_iload_n (pc := 5) hX hB dX1_isLong_5 rfl (lv_at hl 0 rfl) ?_
    refine lv_iconst (pc := 6) (v := 2) hX hB dX1_isLong_6 (by decide) ?_
    refine lv_icmp_ne (pc := 7) (tgt := 14) hX hB dX1_isLong_7 (by decide) (fun hq => ?_) (fun hq => ?_)
    · have hf := zs_in hf hq
      refine lv_iconst (pc := 14) (v := 0) hX hB dX1_isLong_14 (by decide) ?_
      obtain rfl := Option.some.inj hf
      exact zs_zret (v := (0 : Int32)) (pc := 15) hX hB hR hK rfl hP hD hS dX1_isLong_15
    · have hf := zs_ip hf hq
      refine lv_iconst (pc := 10) (v := 1) hX hB dX1_isLong_10 (by decide) ?_
      refine lv_goto (pc := 11) (tgt := 15) hX hB dX1_isLong_11 (by decide) ?_
      obtain rfl := Option.some.inj hf
      exact zs_zret (v := (1 : Int32)) (pc := 15) hX hB hR hK rfl hP hD hS dX1_isLong_15

def b_X1_isWord_28 (v_T_tokenStart : Int32) (v_T_bytes : Nat → Int32) (p1 : Nat) (x1 : Int32) : Option ((Int32) ⊕ ((Unit) ⊕ (Int32))) :=
  gd (decide (p1 < 3)) (if (jshr (strN p1) (0 : Int32)) ≤ x1 then (some (Sum.inr (Sum.inl ()))) else ((f_X1_byteAt v_T_bytes (v_T_tokenStart + x1)).bind (fun o4 => gd (decide (p1 < 3)) (gd (inb x1 (strL.getD p1 0)) (gd (decide (x1 < strN p1)) (if o4 = (strC p1 x1.toNatClampNeg) then (some (Sum.inl (x1 + (1 : Int32)))) else (some (Sum.inr (Sum.inr (0 : Int32))))))))))
def f_X1_isWord (v_T_tokenStart : Int32) (v_T_tokenEnd : Int32) (v_T_token : Int32) (v_T_bytes : Nat → Int32) (p1 : Nat) : Option (Int32) :=
  if v_T_token = (1 : Int32) then (gd (decide (p1 < 3)) (if (v_T_tokenEnd - v_T_tokenStart) = (jshr (strN p1) (0 : Int32)) then ((lp (b_X1_isWord_28 v_T_tokenStart v_T_bytes p1) 200 (0 : Int32)).bind (fun y2 => Sum.elim (fun z3 => some (1 : Int32)) (fun r => some r) y2)) else (some (0 : Int32)))) else (some (0 : Int32))
set_option maxHeartbeats 4000000 in
set_option maxRecDepth 100000 in
theorem c_X1_isWord (l : Launch) (g : GG) (sz : Nat) (a_T a_T_bytes : Nat) (v_T_length : Int32) (v_T_tokenStart : Int32) (v_T_tokenEnd : Int32) (v_T_token : Int32) (v_T_bytes : Nat → Int32) (p1 : Nat) (o : Int32) (hf : f_X1_isWord v_T_tokenStart v_T_tokenEnd v_T_token v_T_bytes p1 = some o) : Met l yX1_isWord (Cond.code yX1_isWord cX1_isWord 3 (some .boolean) :: TB) { frames := 4, cells := 0, slots := 0, locals := 85 } (Pst g [(a_T, .inr (1, [.ref a_T_bytes, .int v_T_length, .int v_T_tokenStart, .int v_T_tokenEnd, .int v_T_token])), (a_T_bytes, .inl (gB g, 150, .inl v_T_bytes))] [.ref a_T, .ref (gK g p1)] sz) (Qst g [(a_T, .inr (1, [.ref a_T_bytes, .int v_T_length, .int v_T_tokenStart, .int v_T_tokenEnd, .int v_T_token])), (a_T_bytes, .inl (gB g, 150, .inl v_T_bytes))] (some (.int o)) (va_A [(a_T, .inr (1, [.ref a_T_bytes, .int v_T_length, .int v_T_tokenStart, .int v_T_tokenEnd, .int v_T_token])), (a_T_bytes, .inl (gB g, 150, .inl v_T_bytes))] sz)) 0 0 (va_A [(a_T, .inr (1, [.ref a_T_bytes, .int v_T_length, .int v_T_tokenStart, .int v_T_tokenEnd, .int v_T_token])), (a_T_bytes, .inl (gB g, 150, .inl v_T_bytes))] sz) := by
  unfold f_X1_isWord at hf
  refine zs_met (own := RX1) (plainFor_of_name (by decide)) rfl (Nat.le_of_ble_eq_true rfl) ?_
  intro p e s m below meth c A ls hX hB hR hM hT hO hK hN hA hE hP hD hS hl
  have hl : lv_has ls 3 [(0, .ref a_T), (1, .ref (gK g p1))] := hl
  refine lv_aload_n (pc := 0) hX hB dX1_isWord_0 rfl (lv_at hl 0 rfl) ?_
  refine gf_X1_25 (pc := 1) (v := .int v_T_token) hX hB hT hO hE hP 0 rfl rfl dX1_isWord_1 ?_
  refine lv_iconst (pc := 4) (v := 1) hX hB dX1_isWord_4 (by decide) ?_
  refine lv_icmp_ne (pc := 5) (tgt := 24) hX hB dX1_isWord_5 (by decide) (fun hq => ?_) (fun hq => ?_)
  · have hf := zs_in hf hq
    refine lv_iconst (pc := 24) (v := 0) hX hB dX1_isWord_24 (by decide) ?_
    obtain rfl := Option.some.inj hf
    exact zs_zret (v := (0 : Int32)) (pc := 25) hX hB hR hK rfl hP hD hS dX1_isWord_25
  · have hf := zs_ip hf hq
    refine lv_aload_n (pc := 8) hX hB dX1_isWord_8 rfl (lv_at hl 0 rfl) ?_
    refine gf_X1_22 (pc := 9) (v := .int v_T_tokenEnd) hX hB hT hO hE hP 0 rfl rfl dX1_isWord_9 ?_
    refine lv_aload_n (pc := 12) hX hB dX1_isWord_12 rfl (lv_at hl 0 rfl) ?_
    refine gf_X1_19 (pc := 13) (v := .int v_T_tokenStart) hX hB hT hO hE hP 0 rfl rfl dX1_isWord_13 ?_
    refine lv_isub (pc := 16) hX hB dX1_isWord_16 ?_
    refine lv_aload_n (pc := 17) hX hB dX1_isWord_17 rfl (lv_at hl 1 rfl) ?_
    obtain ⟨hg3, hf⟩ := zs_gd hf
    refine zs_VS (i := p1) (pc := 18) (As := []) (rest := [.int (v_T_tokenEnd - v_T_tokenStart)]) (st1 := [.int (jshr (strN p1) (0 : Int32)), .int (v_T_tokenEnd - v_T_tokenStart)]) (wr := [(a_T, .inr (1, [.ref a_T_bytes, .int v_T_length, .int v_T_tokenStart, .int v_T_tokenEnd, .int v_T_token])), (a_T_bytes, .inl (gB g, 150, .inl v_T_bytes))]) (w2 := [(a_T, .inr (1, [.ref a_T_bytes, .int v_T_length, .int v_T_tokenStart, .int v_T_tokenEnd, .int v_T_token])), (a_T_bytes, .inl (gB g, 150, .inl v_T_bytes))]) (ov := some (.int (jshr (strN p1) (0 : Int32)))) lb_J0_length_8abf5 lk_X1_85 (of_decide_eq_true hg3) hX hB hM hO hT hE hP hD hS hA (c_J0_length l g _ p1 (of_decide_eq_true hg3)) ⟨rfl, rfl⟩ ⟨Nat.le_of_ble_eq_true rfl, Nat.le_of_ble_eq_true rfl⟩ [0, 1] [0, 1] rfl rfl rfl rfl rfl rfl hl.1 (Nat.le_of_ble_eq_true rfl) ⟨Nat.zero_le _, Nat.zero_le _⟩ rfl dX1_isWord_18 (fun H locs hP hD hS => ?_)
    refine lv_icmp_eq (pc := 21) (tgt := 26) hX hB dX1_isWord_21 (by decide) (fun hq => ?_) (fun hq => ?_)
    · have hf := zs_ip hf hq
      refine lv_iconst (pc := 26) (v := 0) hX hB dX1_isWord_26 (by decide) ?_
      refine lv_istore_n (pc := 27) (lv' := [(2, .int (0 : Int32)), (0, .ref a_T), (1, .ref (gK g p1))]) hX hB dX1_isWord_27 rfl hl (by decide) rfl (fun ls hl => ?_)
      obtain ⟨y2, hj, hf⟩ := zs_bind hf
      refine zs_then (α := Unit) (fun z3 H locs ls => y2 = Sum.inl z3 ∧ CC g A s.heap 3 [(a_T, .inr (1, [.ref a_T_bytes, .int v_T_length, .int v_T_tokenStart, .int v_T_tokenEnd, .int v_T_token])), (a_T_bytes, .inl (gB g, 150, .inl v_T_bytes))] [] H locs ls) (fun _ ls => F0 m 62 ls []) (fun z3 H locs ls hC => ?_) (fun X => ?_)
      · obtain ⟨rfl, hP, hD, hS, hl⟩ := hC
        have hf := zs_el hf
        refine lv_iconst (pc := 62) (v := 1) hX hB dX1_isWord_62 (by decide) ?_
        obtain rfl := Option.some.inj hf
        exact zs_zret (v := (1 : Int32)) (pc := 63) hX hB hR hK rfl hP hD hS dX1_isWord_63
      · have hf2 := hf
        refine zs_loop (fun x1 H locs ls => CC g A s.heap 3 [(a_T, .inr (1, [.ref a_T_bytes, .int v_T_length, .int v_T_tokenStart, .int v_T_tokenEnd, .int v_T_token])), (a_T_bytes, .inl (gB g, 150, .inl v_T_bytes))] [(0, .ref a_T), (1, .ref (gK g p1)), (2, .int x1)] H locs ls) hj (fun n x1 q hf hr ih H locs ls hC => ?_) ⟨hP, hD, hS, lv_sub hl [1, 2, 0] rfl⟩
        obtain ⟨hP, hD, hS, hl⟩ := hC
        unfold b_X1_isWord_28 at hf
        refine lv_iload_n (pc := 28) hX hB dX1_isWord_28 rfl (lv_at hl 2 rfl) ?_
        refine lv_aload_n (pc := 29) hX hB dX1_isWord_29 rfl (lv_at hl 1 rfl) ?_
        obtain ⟨hg3, hf⟩ := zs_gd hf
        refine zs_VS (i := p1) (pc := 30) (As := []) (rest := [.int x1]) (st1 := [.int (jshr (strN p1) (0 : Int32)), .int x1]) (wr := [(a_T, .inr (1, [.ref a_T_bytes, .int v_T_length, .int v_T_tokenStart, .int v_T_tokenEnd, .int v_T_token])), (a_T_bytes, .inl (gB g, 150, .inl v_T_bytes))]) (w2 := [(a_T, .inr (1, [.ref a_T_bytes, .int v_T_length, .int v_T_tokenStart, .int v_T_tokenEnd, .int v_T_token])), (a_T_bytes, .inl (gB g, 150, .inl v_T_bytes))]) (ov := some (.int (jshr (strN p1) (0 : Int32)))) lb_J0_length_8abf5 lk_X1_85 (of_decide_eq_true hg3) hX hB hM hO hT hE hP hD hS hA (c_J0_length l g _ p1 (of_decide_eq_true hg3)) ⟨rfl, rfl⟩ ⟨Nat.le_of_ble_eq_true rfl, Nat.le_of_ble_eq_true rfl⟩ [0, 1] [0, 1] rfl rfl rfl rfl rfl rfl hl.1 (Nat.le_of_ble_eq_true rfl) ⟨Nat.zero_le _, Nat.zero_le _⟩ rfl dX1_isWord_30 (fun H locs hP hD hS => ?_)
        refine lv_icmp_ge (pc := 33) (tgt := 62) hX hB dX1_isWord_33 (by decide) (fun hq => ?_) (fun hq => ?_)
        · have hf := zs_ip hf hq
          obtain rfl := Option.some.inj hf
          exact X _ _ _ _ ⟨hr.symm, hP, hD, hS, lv_sub hl [] rfl⟩
        · have hf := zs_in hf hq
          refine lv_aload_n (pc := 36) hX hB dX1_isWord_36 rfl (lv_at hl 0 rfl) ?_
          refine lv_aload_n (pc := 37) hX hB dX1_isWord_37 rfl (lv_at hl 0 rfl) ?_
          refine gf_X1_19 (pc := 38) (v := .int v_T_tokenStart) hX hB hT hO hE hP 0 rfl rfl dX1_isWord_38 ?_
          refine lv_iload_n (pc := 41) hX hB dX1_isWord_41 rfl (lv_at hl 2 rfl) ?_
          refine lv_iadd (pc := 42) hX hB dX1_isWord_42 ?_
          obtain ⟨o4, hc, hf⟩ := zs_bind hf
          refine zs_V (q := (RX1, TX1, 5)) (ci := 1) (q0 := 0) (b := a_T) (pc := 43) (As := [.int (v_T_tokenStart + x1)]) (rest := []) (st1 := [.int o4]) (wc := [(a_T, .inr (1, [.ref a_T_bytes, .int v_T_length, .int v_T_tokenStart, .int v_T_tokenEnd, .int v_T_token])), (a_T_bytes, .inl (gB g, 150, .inl v_T_bytes))]) (wr := []) (w1 := [(a_T, .inr (1, [.ref a_T_bytes, .int v_T_length, .int v_T_tokenStart, .int v_T_tokenEnd, .int v_T_token])), (a_T_bytes, .inl (gB g, 150, .inl v_T_bytes))]) (w2 := [(a_T, .inr (1, [.ref a_T_bytes, .int v_T_length, .int v_T_tokenStart, .int v_T_tokenEnd, .int v_T_token])), (a_T_bytes, .inl (gB g, 150, .inl v_T_bytes))]) (ov := some (.int o4)) lb_X1_byteAt lk_X1_77 hX hB hM hO hT hE hP hD hS hA (c_X1_byteAt l g _ a_T a_T_bytes v_T_length v_T_tokenStart v_T_tokenEnd v_T_token v_T_bytes (v_T_tokenStart + x1) o4 hc) ⟨rfl, rfl⟩ ⟨Nat.le_of_ble_eq_true rfl, Nat.le_of_ble_eq_true rfl⟩ rfl rfl [0, 1] [] [0, 1] rfl rfl rfl rfl (by decide) rfl rfl rfl rfl hl.1 (Nat.le_of_ble_eq_true rfl) ⟨Nat.zero_le _, Nat.zero_le _⟩ rfl dX1_isWord_43 (fun H locs hP hD hS => ?_)
          refine lv_aload_n (pc := 46) hX hB dX1_isWord_46 rfl (lv_at hl 1 rfl) ?_
          refine lv_iload_n (pc := 47) hX hB dX1_isWord_47 rfl (lv_at hl 2 rfl) ?_
          obtain ⟨hg3, hf⟩ := zs_gd hf
          obtain ⟨hg4, hf⟩ := zs_gd hf
          obtain ⟨hg5, hf⟩ := zs_gd hf
          refine zs_VS (i := p1) (pc := 48) (As := [.int x1]) (rest := [.int o4]) (st1 := [.int (strC p1 x1.toNatClampNeg), .int o4]) (wr := [(a_T, .inr (1, [.ref a_T_bytes, .int v_T_length, .int v_T_tokenStart, .int v_T_tokenEnd, .int v_T_token])), (a_T_bytes, .inl (gB g, 150, .inl v_T_bytes))]) (w2 := [(a_T, .inr (1, [.ref a_T_bytes, .int v_T_length, .int v_T_tokenStart, .int v_T_tokenEnd, .int v_T_token])), (a_T_bytes, .inl (gB g, 150, .inl v_T_bytes))]) (ov := some (.int (strC p1 x1.toNatClampNeg))) lb_J0_charAt_5068e lk_X1_90 (of_decide_eq_true hg3) hX hB hM hO hT hE hP hD hS hA (c_J0_charAt l g _ p1 (of_decide_eq_true hg3) x1 hg4 (of_decide_eq_true hg5)) ⟨rfl, rfl⟩ ⟨Nat.le_of_ble_eq_true rfl, Nat.le_of_ble_eq_true rfl⟩ [0, 1] [0, 1] rfl rfl rfl rfl rfl rfl hl.1 (Nat.le_of_ble_eq_true rfl) ⟨Nat.zero_le _, Nat.zero_le _⟩ rfl dX1_isWord_48 (fun H locs hP hD hS => ?_)
          refine lv_icmp_eq (pc := 51) (tgt := 56) hX hB dX1_isWord_51 (by decide) (fun hq => ?_) (fun hq => ?_)
          · have hf := zs_ip hf hq
            refine lv_iinc (pc := 56) (v := x1 + (1 : Int32)) (lv' := [(2, .int (x1 + (1 : Int32))), (0, .ref a_T), (1, .ref (gK g p1))]) hX hB dX1_isWord_56 hl (k := 2) rfl rfl (by decide) rfl (fun ls hl => ?_)
            refine lv_goto (pc := 59) (tgt := 28) hX hB dX1_isWord_59 (by decide) ?_
            obtain rfl := Option.some.inj hf
            exact ih _ hr _ _ _ ⟨hP, hD, hS, lv_sub hl [1, 2, 0] rfl⟩
          · have hf := zs_in hf hq
            refine lv_iconst (pc := 54) (v := 0) hX hB dX1_isWord_54 (by decide) ?_
            obtain rfl := Option.some.inj hf
            obtain rfl := hr
            have hf := zs_er hf2
            obtain rfl := Option.some.inj hf
            exact zs_zret (v := (0 : Int32)) (pc := 55) hX hB hR hK rfl hP hD hS dX1_isWord_55
    · have hf := zs_in hf hq
      refine lv_iconst (pc := 24) (v := 0) hX hB dX1_isWord_24 (by decide) ?_
      obtain rfl := Option.some.inj hf
      exact zs_zret (v := (0 : Int32)) (pc := 25) hX hB hR hK rfl hP hD hS dX1_isWord_25

def f_X1_tokenBegunBy (p1 : Int32) : Option (Int32) :=
  if p1 < (97 : Int32) then (if p1 < (48 : Int32) then (if p1 = (59 : Int32) then (some (3 : Int32)) else (some (4 : Int32))) else (if (57 : Int32) < p1 then (if p1 = (59 : Int32) then (some (3 : Int32)) else (some (4 : Int32))) else (some (2 : Int32)))) else (if (122 : Int32) < p1 then (if p1 < (48 : Int32) then (if p1 = (59 : Int32) then (some (3 : Int32)) else (some (4 : Int32))) else (if (57 : Int32) < p1 then (if p1 = (59 : Int32) then (some (3 : Int32)) else (some (4 : Int32))) else (some (2 : Int32)))) else (some (1 : Int32)))
set_option maxHeartbeats 4000000 in
set_option maxRecDepth 100000 in
theorem c_X1_tokenBegunBy (l : Launch) (g : GG) (sz : Nat) (p1 : Int32) (o : Int32) (hf : f_X1_tokenBegunBy p1 = some o) : Met l yX1_tokenBegunBy (Cond.code yX1_tokenBegunBy cX1_tokenBegunBy 1 (some .int) :: TB) { frames := 0, cells := 0, slots := 0, locals := 0 } (Pst g [] [.int p1] sz) (Qst g [] (some (.int o)) (va_A [] sz)) 0 0 (va_A [] sz) := by
  unfold f_X1_tokenBegunBy at hf
  refine zs_met (own := RX1) (plainFor_of_name (by decide)) rfl (Nat.le_of_ble_eq_true rfl) ?_
  intro p e s m below meth c A ls hX hB hR hM hT hO hK hN hA hE hP hD hS hl
  have hl : lv_has ls 1 [(0, .int p1)] := hl
  refine lv_iload_n (pc := 0) hX hB dX1_tokenBegunBy_0 rfl (lv_at hl 0 rfl) ?_
  refine lv_bipush (pc := 1) (v := 97) hX hB dX1_tokenBegunBy_1 (by decide) ?_
  refine lv_icmp_lt (pc := 3) (tgt := 14) hX hB dX1_tokenBegunBy_3 (by decide) (fun hq => ?_) (fun hq => ?_)
  · have hf := zs_ip hf hq
    refine lv_iload_n (pc := 14) hX hB dX1_tokenBegunBy_14 rfl (lv_at hl 0 rfl) ?_
    refine lv_bipush (pc := 15) (v := 48) hX hB dX1_tokenBegunBy_15 (by decide) ?_
    refine lv_icmp_lt (pc := 17) (tgt := 28) hX hB dX1_tokenBegunBy_17 (by decide) (fun hq => ?_) (fun hq => ?_)
    · have hf := zs_ip hf hq
      refine lv_iload_n (pc := 28) hX hB dX1_tokenBegunBy_28 rfl (lv_at hl 0 rfl) ?_
      refine lv_bipush (pc := 29) (v := 59) hX hB dX1_tokenBegunBy_29 (by decide) ?_
      refine lv_icmp_ne (pc := 31) (tgt := 38) hX hB dX1_tokenBegunBy_31 (by decide) (fun hq => ?_) (fun hq => ?_)
      · have hf := zs_in hf hq
        refine lv_iconst (pc := 38) (v := 4) hX hB dX1_tokenBegunBy_38 (by decide) ?_
        obtain rfl := Option.some.inj hf
        exact zs_iret (pc := 39) hX hB hR hK hP hD hS dX1_tokenBegunBy_39
      · have hf := zs_ip hf hq
        refine lv_iconst (pc := 34) (v := 3) hX hB dX1_tokenBegunBy_34 (by decide) ?_
        refine lv_goto (pc := 35) (tgt := 39) hX hB dX1_tokenBegunBy_35 (by decide) ?_
        obtain rfl := Option.some.inj hf
        exact zs_iret (pc := 39) hX hB hR hK hP hD hS dX1_tokenBegunBy_39
    · have hf := zs_in hf hq
      refine lv_iload_n (pc := 20) hX hB dX1_tokenBegunBy_20 rfl (lv_at hl 0 rfl) ?_
      refine lv_bipush (pc := 21) (v := 57) hX hB dX1_tokenBegunBy_21 (by decide) ?_
      refine lv_icmp_gt (pc := 23) (tgt := 28) hX hB dX1_tokenBegunBy_23 (by decide) (fun hq => ?_) (fun hq => ?_)
      · have hf := zs_ip hf hq
        refine lv_iload_n (pc := 28) hX hB dX1_tokenBegunBy_28 rfl (lv_at hl 0 rfl) ?_
        refine lv_bipush (pc := 29) (v := 59) hX hB dX1_tokenBegunBy_29 (by decide) ?_
        refine lv_icmp_ne (pc := 31) (tgt := 38) hX hB dX1_tokenBegunBy_31 (by decide) (fun hq => ?_) (fun hq => ?_)
        · have hf := zs_in hf hq
          refine lv_iconst (pc := 38) (v := 4) hX hB dX1_tokenBegunBy_38 (by decide) ?_
          obtain rfl := Option.some.inj hf
          exact zs_iret (pc := 39) hX hB hR hK hP hD hS dX1_tokenBegunBy_39
        · have hf := zs_ip hf hq
          refine lv_iconst (pc := 34) (v := 3) hX hB dX1_tokenBegunBy_34 (by decide) ?_
          refine lv_goto (pc := 35) (tgt := 39) hX hB dX1_tokenBegunBy_35 (by decide) ?_
          obtain rfl := Option.some.inj hf
          exact zs_iret (pc := 39) hX hB hR hK hP hD hS dX1_tokenBegunBy_39
      · have hf := zs_in hf hq
        refine lv_iconst (pc := 26) (v := 2) hX hB dX1_tokenBegunBy_26 (by decide) ?_
        obtain rfl := Option.some.inj hf
        exact zs_iret (pc := 27) hX hB hR hK hP hD hS dX1_tokenBegunBy_27
  · have hf := zs_in hf hq
    refine lv_iload_n (pc := 6) hX hB dX1_tokenBegunBy_6 rfl (lv_at hl 0 rfl) ?_
    refine lv_bipush (pc := 7) (v := 122) hX hB dX1_tokenBegunBy_7 (by decide) ?_
    refine lv_icmp_gt (pc := 9) (tgt := 14) hX hB dX1_tokenBegunBy_9 (by decide) (fun hq => ?_) (fun hq => ?_)
    · have hf := zs_ip hf hq
      refine lv_iload_n (pc := 14) hX hB dX1_tokenBegunBy_14 rfl (lv_at hl 0 rfl) ?_
      refine lv_bipush (pc := 15) (v := 48) hX hB dX1_tokenBegunBy_15 (by decide) ?_
      refine lv_icmp_lt (pc := 17) (tgt := 28) hX hB dX1_tokenBegunBy_17 (by decide) (fun hq => ?_) (fun hq => ?_)
      · have hf := zs_ip hf hq
        refine lv_iload_n (pc := 28) hX hB dX1_tokenBegunBy_28 rfl (lv_at hl 0 rfl) ?_
        refine lv_bipush (pc := 29) (v := 59) hX hB dX1_tokenBegunBy_29 (by decide) ?_
        refine lv_icmp_ne (pc := 31) (tgt := 38) hX hB dX1_tokenBegunBy_31 (by decide) (fun hq => ?_) (fun hq => ?_)
        · have hf := zs_in hf hq
          refine lv_iconst (pc := 38) (v := 4) hX hB dX1_tokenBegunBy_38 (by decide) ?_
          obtain rfl := Option.some.inj hf
          exact zs_iret (pc := 39) hX hB hR hK hP hD hS dX1_tokenBegunBy_39
        · have hf := zs_ip hf hq
          refine lv_iconst (pc := 34) (v := 3) hX hB dX1_tokenBegunBy_34 (by decide) ?_
          refine lv_goto (pc := 35) (tgt := 39) hX hB dX1_tokenBegunBy_35 (by decide) ?_
          obtain rfl := Option.some.inj hf
          exact zs_iret (pc := 39) hX hB hR hK hP hD hS dX1_tokenBegunBy_39
      · have hf := zs_in hf hq
        refine lv_iload_n (pc := 20) hX hB dX1_tokenBegunBy_20 rfl (lv_at hl 0 rfl) ?_
        refine lv_bipush (pc := 21) (v := 57) hX hB dX1_tokenBegunBy_21 (by decide) ?_
        refine lv_icmp_gt (pc := 23) (tgt := 28) hX hB dX1_tokenBegunBy_23 (by decide) (fun hq => ?_) (fun hq => ?_)
        · have hf := zs_ip hf hq
          refine lv_iload_n (pc := 28) hX hB dX1_tokenBegunBy_28 rfl (lv_at hl 0 rfl) ?_
          refine lv_bipush (pc := 29) (v := 59) hX hB dX1_tokenBegunBy_29 (by decide) ?_
          refine lv_icmp_ne (pc := 31) (tgt := 38) hX hB dX1_tokenBegunBy_31 (by decide) (fun hq => ?_) (fun hq => ?_)
          · have hf := zs_in hf hq
            refine lv_iconst (pc := 38) (v := 4) hX hB dX1_tokenBegunBy_38 (by decide) ?_
            obtain rfl := Option.some.inj hf
            exact zs_iret (pc := 39) hX hB hR hK hP hD hS dX1_tokenBegunBy_39
          · have hf := zs_ip hf hq
            refine lv_iconst (pc := 34) (v := 3) hX hB dX1_tokenBegunBy_34 (by decide) ?_
            refine lv_goto (pc := 35) (tgt := 39) hX hB dX1_tokenBegunBy_35 (by decide) ?_
            obtain rfl := Option.some.inj hf
            exact zs_iret (pc := 39) hX hB hR hK hP hD hS dX1_tokenBegunBy_39
        · have hf := zs_in hf hq
          refine lv_iconst (pc := 26) (v := 2) hX hB dX1_tokenBegunBy_26 (by decide) ?_
          obtain rfl := Option.some.inj hf
          exact zs_iret (pc := 27) hX hB hR hK hP hD hS dX1_tokenBegunBy_27
    · have hf := zs_in hf hq
      refine lv_iconst (pc := 12) (v := 1) hX hB dX1_tokenBegunBy_12 (by decide) ?_
      obtain rfl := Option.some.inj hf
      exact zs_iret (pc := 13) hX hB hR hK hP hD hS dX1_tokenBegunBy_13

def b_X1_nextToken_73 (v_T_length : Int32) (v_T_bytes : Nat → Int32) (y3 : Int32) (x5 : Int32) : Option ((Int32) ⊕ (Int32)) :=
  if v_T_length ≤ x5 then (some (Sum.inr x5)) else ((f_X1_isLong y3).bind (fun o7 => if o7 = (0 : Int32) then (some (Sum.inr x5)) else ((f_X1_byteAt v_T_bytes x5).bind (fun o8 => (f_X1_tokenBegunBy o8).bind (fun o9 => if o9 = y3 then (some (Sum.inl (x5 + (1 : Int32)))) else (some (Sum.inr x5)))))))
def b_X1_nextToken_5 (v_T_length : Int32) (v_T_bytes : Nat → Int32) (x1 : Int32) : Option ((Int32) ⊕ (Int32)) :=
  if v_T_length ≤ x1 then (some (Sum.inr x1)) else ((f_X1_byteAt v_T_bytes x1).bind (fun o12 => if o12 = (32 : Int32) then (some (Sum.inl (x1 + (1 : Int32)))) else (some (Sum.inr x1))))
def f_X1_nextToken (v_T_length : Int32) (v_T_tokenStart : Int32) (v_T_tokenEnd : Int32) (v_T_token : Int32) (v_T_bytes : Nat → Int32) : Option (Int32 × Int32 × Int32) :=
  (lp (b_X1_nextToken_5 v_T_length v_T_bytes) 200 v_T_tokenEnd).bind (fun y2 => (if v_T_length ≤ y2 then (some (0 : Int32)) else ((f_X1_byteAt v_T_bytes y2).bind (fun o10 => (f_X1_tokenBegunBy o10).bind (fun o11 => some o11)))).bind (fun y3 => (if y3 = (0 : Int32) then (some y2) else (some (y2 + (1 : Int32)))).bind (fun y4 => (lp (b_X1_nextToken_73 v_T_length v_T_bytes y3) 200 y4).bind (fun y6 => some (y2, y6, y3)))))
set_option maxHeartbeats 4000000 in
set_option maxRecDepth 100000 in
theorem c_X1_nextToken (l : Launch) (g : GG) (sz : Nat) (a_T a_T_bytes : Nat) (v_T_length : Int32) (v_T_tokenStart : Int32) (v_T_tokenEnd : Int32) (v_T_token : Int32) (v_T_bytes : Nat → Int32) (o : Int32 × Int32 × Int32) (hf : f_X1_nextToken v_T_length v_T_tokenStart v_T_tokenEnd v_T_token v_T_bytes = some o) : Met l yX1_nextToken (Cond.code yX1_nextToken cX1_nextToken 3 none :: TB) { frames := 1, cells := 0, slots := 0, locals := 21 } (Pst g [(a_T, .inr (1, [.ref a_T_bytes, .int v_T_length, .int v_T_tokenStart, .int v_T_tokenEnd, .int v_T_token])), (a_T_bytes, .inl (gB g, 150, .inl v_T_bytes))] [.ref a_T] sz) (Qst g [(a_T, .inr (1, [.ref a_T_bytes, .int v_T_length, .int o.1, .int o.2.1, .int o.2.2])), (a_T_bytes, .inl (gB g, 150, .inl v_T_bytes))] (none) (va_A [(a_T, .inr (1, [.ref a_T_bytes, .int v_T_length, .int v_T_tokenStart, .int v_T_tokenEnd, .int v_T_token])), (a_T_bytes, .inl (gB g, 150, .inl v_T_bytes))] sz)) 0 0 (va_A [(a_T, .inr (1, [.ref a_T_bytes, .int v_T_length, .int v_T_tokenStart, .int v_T_tokenEnd, .int v_T_token])), (a_T_bytes, .inl (gB g, 150, .inl v_T_bytes))] sz) := by
  unfold f_X1_nextToken at hf
  refine zs_met (own := RX1) (plainFor_of_name (by decide)) rfl (Nat.le_of_ble_eq_true rfl) ?_
  intro p e s m below meth c A ls hX hB hR hM hT hO hK hN hA hE hP hD hS hl
  have hl : lv_has ls 3 [(0, .ref a_T)] := hl
  refine lv_aload_n (pc := 0) hX hB dX1_nextToken_0 rfl (lv_at hl 0 rfl) ?_
  refine gf_X1_22 (pc := 1) (v := .int v_T_tokenEnd) hX hB hT hO hE hP 0 rfl rfl dX1_nextToken_1 ?_
  refine lv_istore_n (pc := 4) (lv' := [(1, .int v_T_tokenEnd), (0, .ref a_T)]) hX hB dX1_nextToken_4 rfl hl (by decide) rfl (fun ls hl => ?_)
  obtain ⟨y2, hj, hf⟩ := zs_bind hf
  refine zs_then (α := Unit) (fun _ H locs ls => CC g A s.heap 3 [(a_T, .inr (1, [.ref a_T_bytes, .int v_T_length, .int v_T_tokenStart, .int v_T_tokenEnd, .int v_T_token])), (a_T_bytes, .inl (gB g, 150, .inl v_T_bytes))] [(0, .ref a_T), (1, .int y2)] H locs ls) (fun _ ls => F0 m 29 ls []) (fun _ H locs ls hC => ?_) (fun X => ?_)
  · obtain ⟨hP, hD, hS, hl⟩ := hC
    refine lv_aload_n (pc := 29) hX hB dX1_nextToken_29 rfl (lv_at hl 0 rfl) ?_
    refine lv_iload_n (pc := 30) hX hB dX1_nextToken_30 rfl (lv_at hl 1 rfl) ?_
    refine lv_aload_n (pc := 31) hX hB dX1_nextToken_31 rfl (lv_at hl 0 rfl) ?_
    refine gf_X1_15 (pc := 32) (v := .int v_T_length) hX hB hT hO hE hP 0 rfl rfl dX1_nextToken_32 ?_
    obtain ⟨y3, hj, hf⟩ := zs_bind hf
    refine zs_then (α := Unit) (fun _ H locs ls => CC g A s.heap 3 [(a_T, .inr (1, [.ref a_T_bytes, .int v_T_length, .int v_T_tokenStart, .int v_T_tokenEnd, .int v_T_token])), (a_T_bytes, .inl (gB g, 150, .inl v_T_bytes))] [(0, .ref a_T), (1, .int y2)] H locs ls) (fun _ ls => F0 m 50 ls [.int y3, .ref a_T]) (fun _ H locs ls hC => ?_) (fun X => ?_)
    · obtain ⟨hP, hD, hS, hl⟩ := hC
      refine pf_X1_25 (pc := 50) (x := y3) (w2 := [(a_T, .inr (1, [.ref a_T_bytes, .int v_T_length, .int v_T_tokenStart, .int v_T_tokenEnd, .int y3])), (a_T_bytes, .inl (gB g, 150, .inl v_T_bytes))]) hX hB hT hO hE hP hD hS 0 rfl (Nat.le_of_ble_eq_true rfl) rfl dX1_nextToken_50 (fun H locs hP hD hS => ?_)
      refine lv_aload_n (pc := 53) hX hB dX1_nextToken_53 rfl (lv_at hl 0 rfl) ?_
      refine lv_iload_n (pc := 54) hX hB dX1_nextToken_54 rfl (lv_at hl 1 rfl) ?_
      refine pf_X1_19 (pc := 55) (x := y2) (w2 := [(a_T, .inr (1, [.ref a_T_bytes, .int v_T_length, .int y2, .int v_T_tokenEnd, .int y3])), (a_T_bytes, .inl (gB g, 150, .inl v_T_bytes))]) hX hB hT hO hE hP hD hS 0 rfl (Nat.le_of_ble_eq_true rfl) rfl dX1_nextToken_55 (fun H locs hP hD hS => ?_)
      refine lv_aload_n (pc := 58) hX hB dX1_nextToken_58 rfl (lv_at hl 0 rfl) ?_
      refine gf_X1_25 (pc := 59) (v := .int y3) hX hB hT hO hE hP 0 rfl rfl dX1_nextToken_59 ?_
      obtain ⟨y4, hj, hf⟩ := zs_bind hf
      refine zs_then (α := Unit) (fun _ H locs ls => CC g A s.heap 3 [(a_T, .inr (1, [.ref a_T_bytes, .int v_T_length, .int y2, .int v_T_tokenEnd, .int y3])), (a_T_bytes, .inl (gB g, 150, .inl v_T_bytes))] [(0, .ref a_T)] H locs ls) (fun _ ls => F0 m 72 ls [.int y4]) (fun _ H locs ls hC => ?_) (fun X => ?_)
      · obtain ⟨hP, hD, hS, hl⟩ := hC
        refine lv_istore_n (pc := 72) (lv' := [(2, .int y4), (0, .ref a_T)]) hX hB dX1_nextToken_72 rfl hl (by decide) rfl (fun ls hl => ?_)
        obtain ⟨y6, hj, hf⟩ := zs_bind hf
        refine zs_then (α := Unit) (fun _ H locs ls => CC g A s.heap 3 [(a_T, .inr (1, [.ref a_T_bytes, .int v_T_length, .int y2, .int v_T_tokenEnd, .int y3])), (a_T_bytes, .inl (gB g, 150, .inl v_T_bytes))] [(0, .ref a_T), (2, .int y6)] H locs ls) (fun _ ls => F0 m 112 ls []) (fun _ H locs ls hC => ?_) (fun X => ?_)
        · obtain ⟨hP, hD, hS, hl⟩ := hC
          refine lv_aload_n (pc := 112) hX hB dX1_nextToken_112 rfl (lv_at hl 0 rfl) ?_
          refine lv_iload_n (pc := 113) hX hB dX1_nextToken_113 rfl (lv_at hl 1 rfl) ?_
          refine pf_X1_22 (pc := 114) (x := y6) (w2 := [(a_T, .inr (1, [.ref a_T_bytes, .int v_T_length, .int y2, .int y6, .int y3])), (a_T_bytes, .inl (gB g, 150, .inl v_T_bytes))]) hX hB hT hO hE hP hD hS 0 rfl (Nat.le_of_ble_eq_true rfl) rfl dX1_nextToken_114 (fun H locs hP hD hS => ?_)
          obtain rfl := Option.some.inj hf
          exact zs_vret (pc := 117) hX hB hR hK hP hD hS dX1_nextToken_117
        · refine zs_loop (fun x5 H locs ls => CC g A s.heap 3 [(a_T, .inr (1, [.ref a_T_bytes, .int v_T_length, .int y2, .int v_T_tokenEnd, .int y3])), (a_T_bytes, .inl (gB g, 150, .inl v_T_bytes))] [(0, .ref a_T), (2, .int x5)] H locs ls) hj (fun n x5 q hf hr ih H locs ls hC => ?_) ⟨hP, hD, hS, lv_sub hl [1, 0] rfl⟩
          obtain ⟨hP, hD, hS, hl⟩ := hC
          unfold b_X1_nextToken_73 at hf
          refine lv_iload_n (pc := 73) hX hB dX1_nextToken_73 rfl (lv_at hl 1 rfl) ?_
          refine lv_aload_n (pc := 74) hX hB dX1_nextToken_74 rfl (lv_at hl 0 rfl) ?_
          refine gf_X1_15 (pc := 75) (v := .int v_T_length) hX hB hT hO hE hP 0 rfl rfl dX1_nextToken_75 ?_
          refine lv_icmp_ge (pc := 78) (tgt := 112) hX hB dX1_nextToken_78 (by decide) (fun hq => ?_) (fun hq => ?_)
          · have hf := zs_ip hf hq
            obtain rfl := Option.some.inj hf
            obtain rfl := hr
            exact X () _ _ _ ⟨hP, hD, hS, lv_sub hl [0, 1] rfl⟩
          · have hf := zs_in hf hq
            refine lv_aload_n (pc := 81) hX hB dX1_nextToken_81 rfl (lv_at hl 0 rfl) ?_
            refine gf_X1_25 (pc := 82) (v := .int y3) hX hB hT hO hE hP 0 rfl rfl dX1_nextToken_82 ?_
            obtain ⟨o7, hc, hf⟩ := zs_bind hf
            refine zs_S (pc := 85) (As := [.int y3]) (rest := []) (st1 := [.int o7]) (wc := []) (wr := [(a_T, .inr (1, [.ref a_T_bytes, .int v_T_length, .int y2, .int v_T_tokenEnd, .int y3])), (a_T_bytes, .inl (gB g, 150, .inl v_T_bytes))]) (w1 := []) (w2 := [(a_T, .inr (1, [.ref a_T_bytes, .int v_T_length, .int y2, .int v_T_tokenEnd, .int y3])), (a_T_bytes, .inl (gB g, 150, .inl v_T_bytes))]) (ov := some (.int o7)) lb_X1_isLong lk_X1_97 hX hB hM hO hT hE hP hD hS hA (c_X1_isLong l g _ y3 o7 hc) ⟨rfl, rfl⟩ ⟨Nat.le_of_ble_eq_true rfl, Nat.le_of_ble_eq_true rfl⟩ [] [0, 1] [0, 1] rfl rfl rfl rfl (by decide) rfl rfl rfl rfl hl.1 (Nat.le_of_ble_eq_true rfl) ⟨Nat.zero_le _, Nat.zero_le _⟩ rfl dX1_nextToken_85 (fun H locs hP hD hS => ?_)
            refine lv_if_eq (pc := 88) (tgt := 112) hX hB dX1_nextToken_88 (by decide) (fun hq => ?_) (fun hq => ?_)
            · have hf := zs_ip hf hq
              obtain rfl := Option.some.inj hf
              obtain rfl := hr
              exact X () _ _ _ ⟨hP, hD, hS, lv_sub hl [0, 1] rfl⟩
            · have hf := zs_in hf hq
              refine lv_aload_n (pc := 91) hX hB dX1_nextToken_91 rfl (lv_at hl 0 rfl) ?_
              refine lv_iload_n (pc := 92) hX hB dX1_nextToken_92 rfl (lv_at hl 1 rfl) ?_
              obtain ⟨o8, hc, hf⟩ := zs_bind hf
              refine zs_V (q := (RX1, TX1, 5)) (ci := 1) (q0 := 0) (b := a_T) (pc := 93) (As := [.int x5]) (rest := []) (st1 := [.int o8]) (wc := [(a_T, .inr (1, [.ref a_T_bytes, .int v_T_length, .int y2, .int v_T_tokenEnd, .int y3])), (a_T_bytes, .inl (gB g, 150, .inl v_T_bytes))]) (wr := []) (w1 := [(a_T, .inr (1, [.ref a_T_bytes, .int v_T_length, .int y2, .int v_T_tokenEnd, .int y3])), (a_T_bytes, .inl (gB g, 150, .inl v_T_bytes))]) (w2 := [(a_T, .inr (1, [.ref a_T_bytes, .int v_T_length, .int y2, .int v_T_tokenEnd, .int y3])), (a_T_bytes, .inl (gB g, 150, .inl v_T_bytes))]) (ov := some (.int o8)) lb_X1_byteAt lk_X1_77 hX hB hM hO hT hE hP hD hS hA (c_X1_byteAt l g _ a_T a_T_bytes v_T_length y2 v_T_tokenEnd y3 v_T_bytes x5 o8 hc) ⟨rfl, rfl⟩ ⟨Nat.le_of_ble_eq_true rfl, Nat.le_of_ble_eq_true rfl⟩ rfl rfl [0, 1] [] [0, 1] rfl rfl rfl rfl (by decide) rfl rfl rfl rfl hl.1 (Nat.le_of_ble_eq_true rfl) ⟨Nat.zero_le _, Nat.zero_le _⟩ rfl dX1_nextToken_93 (fun H locs hP hD hS => ?_)
              obtain ⟨o9, hc, hf⟩ := zs_bind hf
              refine zs_S (pc := 96) (As := [.int o8]) (rest := []) (st1 := [.int o9]) (wc := []) (wr := [(a_T, .inr (1, [.ref a_T_bytes, .int v_T_length, .int y2, .int v_T_tokenEnd, .int y3])), (a_T_bytes, .inl (gB g, 150, .inl v_T_bytes))]) (w1 := []) (w2 := [(a_T, .inr (1, [.ref a_T_bytes, .int v_T_length, .int y2, .int v_T_tokenEnd, .int y3])), (a_T_bytes, .inl (gB g, 150, .inl v_T_bytes))]) (ov := some (.int o9)) lb_X1_tokenBegunBy lk_X1_94 hX hB hM hO hT hE hP hD hS hA (c_X1_tokenBegunBy l g _ o8 o9 hc) ⟨rfl, rfl⟩ ⟨Nat.le_of_ble_eq_true rfl, Nat.le_of_ble_eq_true rfl⟩ [] [0, 1] [0, 1] rfl rfl rfl rfl (by decide) rfl rfl rfl rfl hl.1 (Nat.le_of_ble_eq_true rfl) ⟨Nat.zero_le _, Nat.zero_le _⟩ rfl dX1_nextToken_96 (fun H locs hP hD hS => ?_)
              refine lv_aload_n (pc := 99) hX hB dX1_nextToken_99 rfl (lv_at hl 0 rfl) ?_
              refine gf_X1_25 (pc := 100) (v := .int y3) hX hB hT hO hE hP 0 rfl rfl dX1_nextToken_100 ?_
              refine lv_icmp_ne (pc := 103) (tgt := 112) hX hB dX1_nextToken_103 (by decide) (fun hq => ?_) (fun hq => ?_)
              · have hf := zs_in hf hq
                obtain rfl := Option.some.inj hf
                obtain rfl := hr
                exact X () _ _ _ ⟨hP, hD, hS, lv_sub hl [0, 1] rfl⟩
              · have hf := zs_ip hf hq
                refine lv_iinc (pc := 106) (v := x5 + (1 : Int32)) (lv' := [(2, .int (x5 + (1 : Int32))), (0, .ref a_T)]) hX hB dX1_nextToken_106 hl (k := 1) rfl rfl (by decide) rfl (fun ls hl => ?_)
                refine lv_goto (pc := 109) (tgt := 73) hX hB dX1_nextToken_109 (by decide) ?_
                obtain rfl := Option.some.inj hf
                exact ih _ hr _ _ _ ⟨hP, hD, hS, lv_sub hl [1, 0] rfl⟩
      · have hf := hj
        refine lv_if_ne (pc := 62) (tgt := 69) hX hB dX1_nextToken_62 (by decide) (fun hq => ?_) (fun hq => ?_)
        · have hf := zs_in hf hq
          refine lv_iload_n (pc := 69) hX hB dX1_nextToken_69 rfl (lv_at hl 1 rfl) ?_
          refine lv_iconst (pc := 70) (v := 1) hX hB dX1_nextToken_70 (by decide) ?_
          refine lv_iadd (pc := 71) hX hB dX1_nextToken_71 ?_
          obtain rfl := Option.some.inj hf
          exact X () _ _ _ ⟨hP, hD, hS, lv_sub hl [0] rfl⟩
        · have hf := zs_ip hf hq
          refine lv_iload_n (pc := 65) hX hB dX1_nextToken_65 rfl (lv_at hl 1 rfl) ?_
          refine lv_goto (pc := 66) (tgt := 72) hX hB dX1_nextToken_66 (by decide) ?_
          obtain rfl := Option.some.inj hf
          exact X () _ _ _ ⟨hP, hD, hS, lv_sub hl [0] rfl⟩
    · have hf := hj
      refine lv_icmp_ge (pc := 35) (tgt := 49) hX hB dX1_nextToken_35 (by decide) (fun hq => ?_) (fun hq => ?_)
      · have hf := zs_ip hf hq
        refine lv_iconst (pc := 49) (v := 0) hX hB dX1_nextToken_49 (by decide) ?_
        obtain rfl := Option.some.inj hf
        exact X () _ _ _ ⟨hP, hD, hS, lv_sub hl [0, 1] rfl⟩
      · have hf := zs_in hf hq
        refine lv_aload_n (pc := 38) hX hB dX1_nextToken_38 rfl (lv_at hl 0 rfl) ?_
        refine lv_iload_n (pc := 39) hX hB dX1_nextToken_39 rfl (lv_at hl 1 rfl) ?_
        obtain ⟨o10, hc, hf⟩ := zs_bind hf
        refine zs_V (q := (RX1, TX1, 5)) (ci := 1) (q0 := 0) (b := a_T) (pc := 40) (As := [.int y2]) (rest := [.ref a_T]) (st1 := [.int o10, .ref a_T]) (wc := [(a_T, .inr (1, [.ref a_T_bytes, .int v_T_length, .int v_T_tokenStart, .int v_T_tokenEnd, .int v_T_token])), (a_T_bytes, .inl (gB g, 150, .inl v_T_bytes))]) (wr := []) (w1 := [(a_T, .inr (1, [.ref a_T_bytes, .int v_T_length, .int v_T_tokenStart, .int v_T_tokenEnd, .int v_T_token])), (a_T_bytes, .inl (gB g, 150, .inl v_T_bytes))]) (w2 := [(a_T, .inr (1, [.ref a_T_bytes, .int v_T_length, .int v_T_tokenStart, .int v_T_tokenEnd, .int v_T_token])), (a_T_bytes, .inl (gB g, 150, .inl v_T_bytes))]) (ov := some (.int o10)) lb_X1_byteAt lk_X1_77 hX hB hM hO hT hE hP hD hS hA (c_X1_byteAt l g _ a_T a_T_bytes v_T_length v_T_tokenStart v_T_tokenEnd v_T_token v_T_bytes y2 o10 hc) ⟨rfl, rfl⟩ ⟨Nat.le_of_ble_eq_true rfl, Nat.le_of_ble_eq_true rfl⟩ rfl rfl [0, 1] [] [0, 1] rfl rfl rfl rfl (by decide) rfl rfl rfl rfl hl.1 (Nat.le_of_ble_eq_true rfl) ⟨Nat.zero_le _, Nat.zero_le _⟩ rfl dX1_nextToken_40 (fun H locs hP hD hS => ?_)
        obtain ⟨o11, hc, hf⟩ := zs_bind hf
        refine zs_S (pc := 43) (As := [.int o10]) (rest := [.ref a_T]) (st1 := [.int o11, .ref a_T]) (wc := []) (wr := [(a_T, .inr (1, [.ref a_T_bytes, .int v_T_length, .int v_T_tokenStart, .int v_T_tokenEnd, .int v_T_token])), (a_T_bytes, .inl (gB g, 150, .inl v_T_bytes))]) (w1 := []) (w2 := [(a_T, .inr (1, [.ref a_T_bytes, .int v_T_length, .int v_T_tokenStart, .int v_T_tokenEnd, .int v_T_token])), (a_T_bytes, .inl (gB g, 150, .inl v_T_bytes))]) (ov := some (.int o11)) lb_X1_tokenBegunBy lk_X1_94 hX hB hM hO hT hE hP hD hS hA (c_X1_tokenBegunBy l g _ o10 o11 hc) ⟨rfl, rfl⟩ ⟨Nat.le_of_ble_eq_true rfl, Nat.le_of_ble_eq_true rfl⟩ [] [0, 1] [0, 1] rfl rfl rfl rfl (by decide) rfl rfl rfl rfl hl.1 (Nat.le_of_ble_eq_true rfl) ⟨Nat.zero_le _, Nat.zero_le _⟩ rfl dX1_nextToken_43 (fun H locs hP hD hS => ?_)
        refine lv_goto (pc := 46) (tgt := 50) hX hB dX1_nextToken_46 (by decide) ?_
        obtain rfl := Option.some.inj hf
        exact X () _ _ _ ⟨hP, hD, hS, lv_sub hl [0, 1] rfl⟩
  · refine zs_loop (fun x1 H locs ls => CC g A s.heap 3 [(a_T, .inr (1, [.ref a_T_bytes, .int v_T_length, .int v_T_tokenStart, .int v_T_tokenEnd, .int v_T_token])), (a_T_bytes, .inl (gB g, 150, .inl v_T_bytes))] [(0, .ref a_T), (1, .int x1)] H locs ls) hj (fun n x1 q hf hr ih H locs ls hC => ?_) ⟨hP, hD, hS, lv_sub hl [1, 0] rfl⟩
    obtain ⟨hP, hD, hS, hl⟩ := hC
    unfold b_X1_nextToken_5 at hf
    refine lv_iload_n (pc := 5) hX hB dX1_nextToken_5 rfl (lv_at hl 1 rfl) ?_
    refine lv_aload_n (pc := 6) hX hB dX1_nextToken_6 rfl (lv_at hl 0 rfl) ?_
    refine gf_X1_15 (pc := 7) (v := .int v_T_length) hX hB hT hO hE hP 0 rfl rfl dX1_nextToken_7 ?_
    refine lv_icmp_ge (pc := 10) (tgt := 29) hX hB dX1_nextToken_10 (by decide) (fun hq => ?_) (fun hq => ?_)
    · have hf := zs_ip hf hq
      obtain rfl := Option.some.inj hf
      obtain rfl := hr
      exact X () _ _ _ ⟨hP, hD, hS, lv_sub hl [0, 1] rfl⟩
    · have hf := zs_in hf hq
      refine lv_aload_n (pc := 13) hX hB dX1_nextToken_13 rfl (lv_at hl 0 rfl) ?_
      refine lv_iload_n (pc := 14) hX hB dX1_nextToken_14 rfl (lv_at hl 1 rfl) ?_
      obtain ⟨o12, hc, hf⟩ := zs_bind hf
      refine zs_V (q := (RX1, TX1, 5)) (ci := 1) (q0 := 0) (b := a_T) (pc := 15) (As := [.int x1]) (rest := []) (st1 := [.int o12]) (wc := [(a_T, .inr (1, [.ref a_T_bytes, .int v_T_length, .int v_T_tokenStart, .int v_T_tokenEnd, .int v_T_token])), (a_T_bytes, .inl (gB g, 150, .inl v_T_bytes))]) (wr := []) (w1 := [(a_T, .inr (1, [.ref a_T_bytes, .int v_T_length, .int v_T_tokenStart, .int v_T_tokenEnd, .int v_T_token])), (a_T_bytes, .inl (gB g, 150, .inl v_T_bytes))]) (w2 := [(a_T, .inr (1, [.ref a_T_bytes, .int v_T_length, .int v_T_tokenStart, .int v_T_tokenEnd, .int v_T_token])), (a_T_bytes, .inl (gB g, 150, .inl v_T_bytes))]) (ov := some (.int o12)) lb_X1_byteAt lk_X1_77 hX hB hM hO hT hE hP hD hS hA (c_X1_byteAt l g _ a_T a_T_bytes v_T_length v_T_tokenStart v_T_tokenEnd v_T_token v_T_bytes x1 o12 hc) ⟨rfl, rfl⟩ ⟨Nat.le_of_ble_eq_true rfl, Nat.le_of_ble_eq_true rfl⟩ rfl rfl [0, 1] [] [0, 1] rfl rfl rfl rfl (by decide) rfl rfl rfl rfl hl.1 (Nat.le_of_ble_eq_true rfl) ⟨Nat.zero_le _, Nat.zero_le _⟩ rfl dX1_nextToken_15 (fun H locs hP hD hS => ?_)
      refine lv_bipush (pc := 18) (v := 32) hX hB dX1_nextToken_18 (by decide) ?_
      refine lv_icmp_ne (pc := 20) (tgt := 29) hX hB dX1_nextToken_20 (by decide) (fun hq => ?_) (fun hq => ?_)
      · have hf := zs_in hf hq
        obtain rfl := Option.some.inj hf
        obtain rfl := hr
        exact X () _ _ _ ⟨hP, hD, hS, lv_sub hl [0, 1] rfl⟩
      · have hf := zs_ip hf hq
        refine lv_iinc (pc := 23) (v := x1 + (1 : Int32)) (lv' := [(1, .int (x1 + (1 : Int32))), (0, .ref a_T)]) hX hB dX1_nextToken_23 hl (k := 1) rfl rfl (by decide) rfl (fun ls hl => ?_)
        refine lv_goto (pc := 26) (tgt := 5) hX hB dX1_nextToken_26 (by decide) ?_
        obtain rfl := Option.some.inj hf
        exact ih _ hr _ _ _ ⟨hP, hD, hS, lv_sub hl [1, 0] rfl⟩

def f_X1_nextIsStop (v_T_length : Int32) (v_T_tokenStart : Int32) (v_T_tokenEnd : Int32) (v_T_token : Int32) (v_T_bytes : Nat → Int32) : Option (Int32 × Int32 × Int32 × Int32) :=
  (f_X1_nextToken v_T_length v_T_tokenStart v_T_tokenEnd v_T_token v_T_bytes).bind (fun o1 => if o1.2.2 = (3 : Int32) then (some ((1 : Int32), o1.1, o1.2.1, o1.2.2)) else (some ((0 : Int32), o1.1, o1.2.1, o1.2.2)))
set_option maxHeartbeats 4000000 in
set_option maxRecDepth 100000 in
theorem c_X1_nextIsStop (l : Launch) (g : GG) (sz : Nat) (a_T a_T_bytes : Nat) (v_T_length : Int32) (v_T_tokenStart : Int32) (v_T_tokenEnd : Int32) (v_T_token : Int32) (v_T_bytes : Nat → Int32) (o : Int32 × Int32 × Int32 × Int32) (hf : f_X1_nextIsStop v_T_length v_T_tokenStart v_T_tokenEnd v_T_token v_T_bytes = some o) : Met l yX1_nextIsStop (Cond.code yX1_nextIsStop cX1_nextIsStop 1 (some .boolean) :: TB) { frames := 2, cells := 0, slots := 0, locals := 43 } (Pst g [(a_T, .inr (1, [.ref a_T_bytes, .int v_T_length, .int v_T_tokenStart, .int v_T_tokenEnd, .int v_T_token])), (a_T_bytes, .inl (gB g, 150, .inl v_T_bytes))] [.ref a_T] sz) (Qst g [(a_T, .inr (1, [.ref a_T_bytes, .int v_T_length, .int o.2.1, .int o.2.2.1, .int o.2.2.2])), (a_T_bytes, .inl (gB g, 150, .inl v_T_bytes))] (some (.int o.1)) (va_A [(a_T, .inr (1, [.ref a_T_bytes, .int v_T_length, .int v_T_tokenStart, .int v_T_tokenEnd, .int v_T_token])), (a_T_bytes, .inl (gB g, 150, .inl v_T_bytes))] sz)) 0 0 (va_A [(a_T, .inr (1, [.ref a_T_bytes, .int v_T_length, .int v_T_tokenStart, .int v_T_tokenEnd, .int v_T_token])), (a_T_bytes, .inl (gB g, 150, .inl v_T_bytes))] sz) := by
  unfold f_X1_nextIsStop at hf
  refine zs_met (own := RX1) (plainFor_of_name (by decide)) rfl (Nat.le_of_ble_eq_true rfl) ?_
  intro p e s m below meth c A ls hX hB hR hM hT hO hK hN hA hE hP hD hS hl
  have hl : lv_has ls 1 [(0, .ref a_T)] := hl
  refine lv_aload_n (pc := 0) hX hB dX1_nextIsStop_0 rfl (lv_at hl 0 rfl) ?_
  obtain ⟨o1, hc, hf⟩ := zs_bind hf
  refine zs_V (q := (RX1, TX1, 5)) (ci := 1) (q0 := 0) (b := a_T) (pc := 1) (As := []) (rest := []) (st1 := []) (wc := [(a_T, .inr (1, [.ref a_T_bytes, .int v_T_length, .int v_T_tokenStart, .int v_T_tokenEnd, .int v_T_token])), (a_T_bytes, .inl (gB g, 150, .inl v_T_bytes))]) (wr := []) (w1 := [(a_T, .inr (1, [.ref a_T_bytes, .int v_T_length, .int o1.1, .int o1.2.1, .int o1.2.2])), (a_T_bytes, .inl (gB g, 150, .inl v_T_bytes))]) (w2 := [(a_T, .inr (1, [.ref a_T_bytes, .int v_T_length, .int o1.1, .int o1.2.1, .int o1.2.2])), (a_T_bytes, .inl (gB g, 150, .inl v_T_bytes))]) (ov := none) lb_X1_nextToken lk_X1_32 hX hB hM hO hT hE hP hD hS hA (c_X1_nextToken l g _ a_T a_T_bytes v_T_length v_T_tokenStart v_T_tokenEnd v_T_token v_T_bytes o1 hc) ⟨rfl, rfl⟩ ⟨Nat.le_of_ble_eq_true rfl, Nat.le_of_ble_eq_true rfl⟩ rfl rfl [0, 1] [] [0, 1] rfl rfl rfl rfl (by decide) rfl rfl rfl rfl hl.1 (Nat.le_of_ble_eq_true rfl) ⟨Nat.zero_le _, Nat.zero_le _⟩ rfl dX1_nextIsStop_1 (fun H locs hP hD hS => ?_)
  refine lv_aload_n (pc := 4) hX hB dX1_nextIsStop_4 rfl (lv_at hl 0 rfl) ?_
  refine gf_X1_25 (pc := 5) (v := .int o1.2.2) hX hB hT hO hE hP 0 rfl rfl dX1_nextIsStop_5 ?_
  refine lv_iconst (pc := 8) (v := 3) hX hB dX1_nextIsStop_8 (by decide) ?_
  refine lv_icmp_ne (pc := 9) (tgt := 16) hX hB dX1_nextIsStop_9 (by decide) (fun hq => ?_) (fun hq => ?_)
  · have hf := zs_in hf hq
    refine lv_iconst (pc := 16) (v := 0) hX hB dX1_nextIsStop_16 (by decide) ?_
    obtain rfl := Option.some.inj hf
    exact zs_zret (v := (0 : Int32)) (pc := 17) hX hB hR hK rfl hP hD hS dX1_nextIsStop_17
  · have hf := zs_ip hf hq
    refine lv_iconst (pc := 12) (v := 1) hX hB dX1_nextIsStop_12 (by decide) ?_
    refine lv_goto (pc := 13) (tgt := 17) hX hB dX1_nextIsStop_13 (by decide) ?_
    obtain rfl := Option.some.inj hf
    exact zs_zret (v := (1 : Int32)) (pc := 17) hX hB hR hK rfl hP hD hS dX1_nextIsStop_17

def b_X1_nextNumber_35 (v_T_bytes : Nat → Int32) (o1 : Int32 × Int32 × Int32) (x2 : Int32 × Int32) : Option ((Int32 × Int32) ⊕ (Int32)) :=
  if o1.2.1 ≤ x2.2 then (some (Sum.inr x2.1)) else ((f_X1_byteAt v_T_bytes x2.2).bind (fun o5 => some (Sum.inl (((x2.1 * (10 : Int32)) + o5) - (48 : Int32), x2.2 + (1 : Int32)))))
def f_X1_nextNumber (v_T_length : Int32) (v_T_tokenStart : Int32) (v_T_tokenEnd : Int32) (v_T_token : Int32) (v_T_bytes : Nat → Int32) (p1 : Int32) (p2 : Int32) : Option (Int32 × Int32 × Int32 × Int32) :=
  (f_X1_nextToken v_T_length v_T_tokenStart v_T_tokenEnd v_T_token v_T_bytes).bind (fun o1 => if o1.2.2 = (2 : Int32) then (if (o1.2.1 - o1.1) ≤ (2 : Int32) then ((lp (b_X1_nextNumber_35 v_T_bytes o1) 200 ((0 : Int32), o1.1)).bind (fun y3 => (f_X3_isWithin y3 p1 p2).bind (fun o4 => if o4 = (0 : Int32) then (some ((-1 : Int32), o1.1, o1.2.1, o1.2.2)) else (some (y3, o1.1, o1.2.1, o1.2.2))))) else (some ((-1 : Int32), o1.1, o1.2.1, o1.2.2))) else (some ((-1 : Int32), o1.1, o1.2.1, o1.2.2)))
set_option maxHeartbeats 4000000 in
set_option maxRecDepth 100000 in
theorem c_X1_nextNumber (l : Launch) (g : GG) (sz : Nat) (a_T a_T_bytes : Nat) (v_T_length : Int32) (v_T_tokenStart : Int32) (v_T_tokenEnd : Int32) (v_T_token : Int32) (v_T_bytes : Nat → Int32) (p1 : Int32) (p2 : Int32) (o : Int32 × Int32 × Int32 × Int32) (hf : f_X1_nextNumber v_T_length v_T_tokenStart v_T_tokenEnd v_T_token v_T_bytes p1 p2 = some o) : Met l yX1_nextNumber (Cond.code yX1_nextNumber cX1_nextNumber 5 (some .int) :: TB) { frames := 2, cells := 0, slots := 0, locals := 43 } (Pst g [(a_T, .inr (1, [.ref a_T_bytes, .int v_T_length, .int v_T_tokenStart, .int v_T_tokenEnd, .int v_T_token])), (a_T_bytes, .inl (gB g, 150, .inl v_T_bytes))] [.ref a_T, .int p1, .int p2] sz) (Qst g [(a_T, .inr (1, [.ref a_T_bytes, .int v_T_length, .int o.2.1, .int o.2.2.1, .int o.2.2.2])), (a_T_bytes, .inl (gB g, 150, .inl v_T_bytes))] (some (.int o.1)) (va_A [(a_T, .inr (1, [.ref a_T_bytes, .int v_T_length, .int v_T_tokenStart, .int v_T_tokenEnd, .int v_T_token])), (a_T_bytes, .inl (gB g, 150, .inl v_T_bytes))] sz)) 0 0 (va_A [(a_T, .inr (1, [.ref a_T_bytes, .int v_T_length, .int v_T_tokenStart, .int v_T_tokenEnd, .int v_T_token])), (a_T_bytes, .inl (gB g, 150, .inl v_T_bytes))] sz) := by
  unfold f_X1_nextNumber at hf
  refine zs_met (own := RX1) (plainFor_of_name (by decide)) rfl (Nat.le_of_ble_eq_true rfl) ?_
  intro p e s m below meth c A ls hX hB hR hM hT hO hK hN hA hE hP hD hS hl
  have hl : lv_has ls 5 [(0, .ref a_T), (1, .int p1), (2, .int p2)] := hl
  refine lv_aload_n (pc := 0) hX hB dX1_nextNumber_0 rfl (lv_at hl 0 rfl) ?_
  obtain ⟨o1, hc, hf⟩ := zs_bind hf
  refine zs_V (q := (RX1, TX1, 5)) (ci := 1) (q0 := 0) (b := a_T) (pc := 1) (As := []) (rest := []) (st1 := []) (wc := [(a_T, .inr (1, [.ref a_T_bytes, .int v_T_length, .int v_T_tokenStart, .int v_T_tokenEnd, .int v_T_token])), (a_T_bytes, .inl (gB g, 150, .inl v_T_bytes))]) (wr := []) (w1 := [(a_T, .inr (1, [.ref a_T_bytes, .int v_T_length, .int o1.1, .int o1.2.1, .int o1.2.2])), (a_T_bytes, .inl (gB g, 150, .inl v_T_bytes))]) (w2 := [(a_T, .inr (1, [.ref a_T_bytes, .int v_T_length, .int o1.1, .int o1.2.1, .int o1.2.2])), (a_T_bytes, .inl (gB g, 150, .inl v_T_bytes))]) (ov := none) lb_X1_nextToken lk_X1_32 hX hB hM hO hT hE hP hD hS hA (c_X1_nextToken l g _ a_T a_T_bytes v_T_length v_T_tokenStart v_T_tokenEnd v_T_token v_T_bytes o1 hc) ⟨rfl, rfl⟩ ⟨Nat.le_of_ble_eq_true rfl, Nat.le_of_ble_eq_true rfl⟩ rfl rfl [0, 1] [] [0, 1] rfl rfl rfl rfl (by decide) rfl rfl rfl rfl hl.1 (Nat.le_of_ble_eq_true rfl) ⟨Nat.zero_le _, Nat.zero_le _⟩ rfl dX1_nextNumber_1 (fun H locs hP hD hS => ?_)
  refine lv_aload_n (pc := 4) hX hB dX1_nextNumber_4 rfl (lv_at hl 0 rfl) ?_
  refine gf_X1_25 (pc := 5) (v := .int o1.2.2) hX hB hT hO hE hP 0 rfl rfl dX1_nextNumber_5 ?_
  refine lv_iconst (pc := 8) (v := 2) hX hB dX1_nextNumber_8 (by decide) ?_
  refine lv_icmp_ne (pc := 9) (tgt := 25) hX hB dX1_nextNumber_9 (by decide) (fun hq => ?_) (fun hq => ?_)
  · have hf := zs_in hf hq
    refine lv_iconst (pc := 25) (v := -1) hX hB dX1_nextNumber_25 (by decide) ?_
    obtain rfl := Option.some.inj hf
    exact zs_iret (pc := 26) hX hB hR hK hP hD hS dX1_nextNumber_26
  · have hf := zs_ip hf hq
    refine lv_aload_n (pc := 12) hX hB dX1_nextNumber_12 rfl (lv_at hl 0 rfl) ?_
    refine gf_X1_22 (pc := 13) (v := .int o1.2.1) hX hB hT hO hE hP 0 rfl rfl dX1_nextNumber_13 ?_
    refine lv_aload_n (pc := 16) hX hB dX1_nextNumber_16 rfl (lv_at hl 0 rfl) ?_
    refine gf_X1_19 (pc := 17) (v := .int o1.1) hX hB hT hO hE hP 0 rfl rfl dX1_nextNumber_17 ?_
    refine lv_isub (pc := 20) hX hB dX1_nextNumber_20 ?_
    refine lv_iconst (pc := 21) (v := 2) hX hB dX1_nextNumber_21 (by decide) ?_
    refine lv_icmp_le (pc := 22) (tgt := 27) hX hB dX1_nextNumber_22 (by decide) (fun hq => ?_) (fun hq => ?_)
    · have hf := zs_ip hf hq
      refine lv_iconst (pc := 27) (v := 0) hX hB dX1_nextNumber_27 (by decide) ?_
      refine lv_istore_n (pc := 28) (lv' := [(3, .int (0 : Int32)), (0, .ref a_T), (1, .int p1), (2, .int p2)]) hX hB dX1_nextNumber_28 rfl hl (by decide) rfl (fun ls hl => ?_)
      refine lv_aload_n (pc := 29) hX hB dX1_nextNumber_29 rfl (lv_at hl 1 rfl) ?_
      refine gf_X1_19 (pc := 30) (v := .int o1.1) hX hB hT hO hE hP 0 rfl rfl dX1_nextNumber_30 ?_
      refine lv_istore (pc := 33) (lv' := [(4, .int o1.1), (3, .int (0 : Int32)), (0, .ref a_T), (1, .int p1), (2, .int p2)]) hX hB dX1_nextNumber_33 hl (by decide) rfl (fun ls hl => ?_)
      obtain ⟨y3, hj, hf⟩ := zs_bind hf
      refine zs_then (α := Unit) (fun _ H locs ls => CC g A s.heap 5 [(a_T, .inr (1, [.ref a_T_bytes, .int v_T_length, .int o1.1, .int o1.2.1, .int o1.2.2])), (a_T_bytes, .inl (gB g, 150, .inl v_T_bytes))] [(1, .int p1), (2, .int p2), (3, .int y3)] H locs ls) (fun _ ls => F0 m 65 ls []) (fun _ H locs ls hC => ?_) (fun X => ?_)
      · obtain ⟨hP, hD, hS, hl⟩ := hC
        refine lv_iload_n (pc := 65) hX hB dX1_nextNumber_65 rfl (lv_at hl 2 rfl) ?_
        refine lv_iload_n (pc := 66) hX hB dX1_nextNumber_66 rfl (lv_at hl 0 rfl) ?_
        refine lv_iload_n (pc := 67) hX hB dX1_nextNumber_67 rfl (lv_at hl 1 rfl) ?_
        obtain ⟨o4, hc, hf⟩ := zs_bind hf
        refine zs_SN (pc := 68) (As := [.int y3, .int p1, .int p2]) (rest := []) (st1 := [.int o4]) (wc := []) (wr := [(a_T, .inr (1, [.ref a_T_bytes, .int v_T_length, .int o1.1, .int o1.2.1, .int o1.2.2])), (a_T_bytes, .inl (gB g, 150, .inl v_T_bytes))]) (w1 := []) (w2 := [(a_T, .inr (1, [.ref a_T_bytes, .int v_T_length, .int o1.1, .int o1.2.1, .int o1.2.2])), (a_T_bytes, .inl (gB g, 150, .inl v_T_bytes))]) (ov := some (.int o4)) lb_X3_isWithin lk_X1_81 hX hB hM hO hT hE hP hD hS hA (c_X3_isWithin l g _ y3 p1 p2 o4 hc) ⟨rfl, rfl⟩ ⟨Nat.le_of_ble_eq_true rfl, Nat.le_of_ble_eq_true rfl⟩ [] [0, 1] [0, 1] rfl rfl rfl rfl (by decide) rfl rfl rfl rfl hl.1 (Nat.le_of_ble_eq_true rfl) ⟨Nat.zero_le _, Nat.zero_le _⟩ rfl dX1_nextNumber_68 (fun H locs hP hD hS => ?_)
        refine lv_if_eq (pc := 71) (tgt := 78) hX hB dX1_nextNumber_71 (by decide) (fun hq => ?_) (fun hq => ?_)
        · have hf := zs_ip hf hq
          refine lv_iconst (pc := 78) (v := -1) hX hB dX1_nextNumber_78 (by decide) ?_
          obtain rfl := Option.some.inj hf
          exact zs_iret (pc := 79) hX hB hR hK hP hD hS dX1_nextNumber_79
        · have hf := zs_in hf hq
          refine lv_iload_n (pc := 74) hX hB dX1_nextNumber_74 rfl (lv_at hl 2 rfl) ?_
          refine lv_goto (pc := 75) (tgt := 79) hX hB dX1_nextNumber_75 (by decide) ?_
          obtain rfl := Option.some.inj hf
          exact zs_iret (pc := 79) hX hB hR hK hP hD hS dX1_nextNumber_79
      · refine zs_loop (fun x2 H locs ls => CC g A s.heap 5 [(a_T, .inr (1, [.ref a_T_bytes, .int v_T_length, .int o1.1, .int o1.2.1, .int o1.2.2])), (a_T_bytes, .inl (gB g, 150, .inl v_T_bytes))] [(0, .ref a_T), (1, .int p1), (2, .int p2), (3, .int x2.1), (4, .int x2.2)] H locs ls) hj (fun n x2 q hf hr ih H locs ls hC => ?_) ⟨hP, hD, hS, lv_sub hl [2, 3, 4, 1, 0] rfl⟩
        obtain ⟨hP, hD, hS, hl⟩ := hC
        unfold b_X1_nextNumber_35 at hf
        refine lv_iload (pc := 35) hX hB dX1_nextNumber_35 (lv_at hl 4 rfl) ?_
        refine lv_aload_n (pc := 37) hX hB dX1_nextNumber_37 rfl (lv_at hl 0 rfl) ?_
        refine gf_X1_22 (pc := 38) (v := .int o1.2.1) hX hB hT hO hE hP 0 rfl rfl dX1_nextNumber_38 ?_
        refine lv_icmp_ge (pc := 41) (tgt := 65) hX hB dX1_nextNumber_41 (by decide) (fun hq => ?_) (fun hq => ?_)
        · have hf := zs_ip hf hq
          obtain rfl := Option.some.inj hf
          obtain rfl := hr
          exact X () _ _ _ ⟨hP, hD, hS, lv_sub hl [1, 2, 3] rfl⟩
        · have hf := zs_in hf hq
          refine lv_iload_n (pc := 44) hX hB dX1_nextNumber_44 rfl (lv_at hl 3 rfl) ?_
          refine lv_bipush (pc := 45) (v := 10) hX hB dX1_nextNumber_45 (by decide) ?_
          refine lv_imul (pc := 47) hX hB dX1_nextNumber_47 ?_
          refine lv_aload_n (pc := 48) hX hB dX1_nextNumber_48 rfl (lv_at hl 0 rfl) ?_
          refine lv_iload (pc := 49) hX hB dX1_nextNumber_49 (lv_at hl 4 rfl) ?_
          obtain ⟨o5, hc, hf⟩ := zs_bind hf
          refine zs_V (q := (RX1, TX1, 5)) (ci := 1) (q0 := 0) (b := a_T) (pc := 51) (As := [.int x2.2]) (rest := [.int (x2.1 * (10 : Int32))]) (st1 := [.int o5, .int (x2.1 * (10 : Int32))]) (wc := [(a_T, .inr (1, [.ref a_T_bytes, .int v_T_length, .int o1.1, .int o1.2.1, .int o1.2.2])), (a_T_bytes, .inl (gB g, 150, .inl v_T_bytes))]) (wr := []) (w1 := [(a_T, .inr (1, [.ref a_T_bytes, .int v_T_length, .int o1.1, .int o1.2.1, .int o1.2.2])), (a_T_bytes, .inl (gB g, 150, .inl v_T_bytes))]) (w2 := [(a_T, .inr (1, [.ref a_T_bytes, .int v_T_length, .int o1.1, .int o1.2.1, .int o1.2.2])), (a_T_bytes, .inl (gB g, 150, .inl v_T_bytes))]) (ov := some (.int o5)) lb_X1_byteAt lk_X1_77 hX hB hM hO hT hE hP hD hS hA (c_X1_byteAt l g _ a_T a_T_bytes v_T_length o1.1 o1.2.1 o1.2.2 v_T_bytes x2.2 o5 hc) ⟨rfl, rfl⟩ ⟨Nat.le_of_ble_eq_true rfl, Nat.le_of_ble_eq_true rfl⟩ rfl rfl [0, 1] [] [0, 1] rfl rfl rfl rfl (by decide) rfl rfl rfl rfl hl.1 (Nat.le_of_ble_eq_true rfl) ⟨Nat.zero_le _, Nat.zero_le _⟩ rfl dX1_nextNumber_51 (fun H locs hP hD hS => ?_)
          refine lv_iadd (pc := 54) hX hB dX1_nextNumber_54 ?_
          refine lv_bipush (pc := 55) (v := 48) hX hB dX1_nextNumber_55 (by decide) ?_
          refine lv_isub (pc := 57) hX hB dX1_nextNumber_57 ?_
          refine lv_istore_n (pc := 58) (lv' := [(3, .int (((x2.1 * (10 : Int32)) + o5) - (48 : Int32))), (0, .ref a_T), (1, .int p1), (2, .int p2), (4, .int x2.2)]) hX hB dX1_nextNumber_58 rfl hl (by decide) rfl (fun ls hl => ?_)
          refine lv_iinc (pc := 59) (v := x2.2 + (1 : Int32)) (lv' := [(4, .int (x2.2 + (1 : Int32))), (3, .int (((x2.1 * (10 : Int32)) + o5) - (48 : Int32))), (0, .ref a_T), (1, .int p1), (2, .int p2)]) hX hB dX1_nextNumber_59 hl (k := 4) rfl rfl (by decide) rfl (fun ls hl => ?_)
          refine lv_goto (pc := 62) (tgt := 35) hX hB dX1_nextNumber_62 (by decide) ?_
          obtain rfl := Option.some.inj hf
          exact ih _ hr _ _ _ ⟨hP, hD, hS, lv_sub hl [2, 3, 4, 1, 0] rfl⟩
    · have hf := zs_in hf hq
      refine lv_iconst (pc := 25) (v := -1) hX hB dX1_nextNumber_25 (by decide) ?_
      obtain rfl := Option.some.inj hf
      exact zs_iret (pc := 26) hX hB hR hK hP hD hS dX1_nextNumber_26

def f_X1_readSafeItem (v_T_length : Int32) (v_T_tokenStart : Int32) (v_T_tokenEnd : Int32) (v_T_token : Int32) (v_T_bytes : Nat → Int32) (v_P1_number : Int32) (v_P1_enough : Int32) (v_P1_holders : Int32) (v_P1_day : Int32) (v_P1_tries : Int32) (v_P1_shut : Int32) (v_P1_pastCount : Int32) (v_P1_factors : Nat → Int32) (v_P1_told_numbers : Nat → Int32) : Option (Int32 × Int32 × Int32 × Int32 × Int32 × Int32 × Int32 × Int32 × Int32 × Int32 × Int32 × (Nat → Int32) × (Nat → Int32)) :=
  (f_X1_nextToken v_T_length v_T_tokenStart v_T_tokenEnd v_T_token v_T_bytes).bind (fun o1 => (f_X1_isWord o1.1 o1.2.1 o1.2.2 v_T_bytes 0).bind (fun o2 => if o2 = (0 : Int32) then (some ((0 : Int32), o1.1, o1.2.1, o1.2.2, v_P1_number, v_P1_enough, v_P1_holders, v_P1_day, v_P1_tries, v_P1_shut, v_P1_pastCount, v_P1_factors, v_P1_told_numbers)) else ((f_X1_nextNumber v_T_length o1.1 o1.2.1 o1.2.2 v_T_bytes (0 : Int32) (96 : Int32)).bind (fun o3 => if o3.1 = (-1 : Int32) then (some ((0 : Int32), o3.2.1, o3.2.2.1, o3.2.2.2, v_P1_number, v_P1_enough, v_P1_holders, v_P1_day, v_P1_tries, v_P1_shut, v_P1_pastCount, v_P1_factors, v_P1_told_numbers)) else ((f_X1_nextNumber v_T_length o3.2.1 o3.2.2.1 o3.2.2.2 v_T_bytes (1 : Int32) (4 : Int32)).bind (fun o4 => if o4.1 = (-1 : Int32) then (some ((0 : Int32), o4.2.1, o4.2.2.1, o4.2.2.2, v_P1_number, v_P1_enough, v_P1_holders, v_P1_day, v_P1_tries, v_P1_shut, v_P1_pastCount, v_P1_factors, v_P1_told_numbers)) else ((f_X0_begin v_P1_number v_P1_enough v_P1_holders v_P1_day v_P1_tries v_P1_shut v_P1_pastCount v_P1_factors v_P1_told_numbers o3.1 o4.1).bind (fun o5 => (f_X1_nextIsStop v_T_length o4.2.1 o4.2.2.1 o4.2.2.2 v_T_bytes).bind (fun o6 => gd (bz o6.1) (some (o6.1, o6.2.1, o6.2.2.1, o6.2.2.2, o5.1, o5.2.1, o5.2.2.1, o5.2.2.2.1, o5.2.2.2.2.1, o5.2.2.2.2.2.1, o5.2.2.2.2.2.2.1, o5.2.2.2.2.2.2.2.1, o5.2.2.2.2.2.2.2.2)))))))))))
set_option maxHeartbeats 4000000 in
set_option maxRecDepth 100000 in
theorem c_X1_readSafeItem (l : Launch) (g : GG) (sz : Nat) (a_T a_T_bytes a_P1 a_P1_kinds a_P1_extras a_P1_past a_P1_factors a_P1_told a_P1_told_numbers : Nat) (v_T_length : Int32) (v_T_tokenStart : Int32) (v_T_tokenEnd : Int32) (v_T_token : Int32) (v_T_bytes : Nat → Int32) (v_P1_number : Int32) (v_P1_enough : Int32) (v_P1_holders : Int32) (v_P1_day : Int32) (v_P1_tries : Int32) (v_P1_shut : Int32) (v_P1_pastCount : Int32) (v_P1_factors : Nat → Int32) (v_P1_told_numbers : Nat → Int32) (o : Int32 × Int32 × Int32 × Int32 × Int32 × Int32 × Int32 × Int32 × Int32 × Int32 × Int32 × (Nat → Int32) × (Nat → Int32)) (hf : f_X1_readSafeItem v_T_length v_T_tokenStart v_T_tokenEnd v_T_token v_T_bytes v_P1_number v_P1_enough v_P1_holders v_P1_day v_P1_tries v_P1_shut v_P1_pastCount v_P1_factors v_P1_told_numbers = some o) : Met l yX1_readSafeItem (Cond.code yX1_readSafeItem cX1_readSafeItem 4 (some .boolean) :: TB) { frames := 5, cells := 0, slots := 0, locals := 107 } (Pst g [(a_T, .inr (1, [.ref a_T_bytes, .int v_T_length, .int v_T_tokenStart, .int v_T_tokenEnd, .int v_T_token])), (a_T_bytes, .inl (gB g, 150, .inl v_T_bytes)), (a_P1, .inr (0, [.int v_P1_number, .int v_P1_enough, .int v_P1_holders, .ref a_P1_kinds, .ref a_P1_extras, .ref a_P1_factors, .int v_P1_day, .int v_P1_tries, .int v_P1_shut, .ref a_P1_told, .ref a_P1_past, .int v_P1_pastCount])), (a_P1_factors, .inl (gI g, 3, .inl v_P1_factors)), (a_P1_told, .inr (2, [.ref a_P1_told_numbers])), (a_P1_told_numbers, .inl (gI g, 6, .inl v_P1_told_numbers))] [.ref a_T, .ref a_P1] sz) (Qst g [(a_T, .inr (1, [.ref a_T_bytes, .int v_T_length, .int o.2.1, .int o.2.2.1, .int o.2.2.2.1])), (a_T_bytes, .inl (gB g, 150, .inl v_T_bytes)), (a_P1, .inr (0, [.int o.2.2.2.2.1, .int o.2.2.2.2.2.1, .int o.2.2.2.2.2.2.1, .ref a_P1_kinds, .ref a_P1_extras, .ref a_P1_factors, .int o.2.2.2.2.2.2.2.1, .int o.2.2.2.2.2.2.2.2.1, .int o.2.2.2.2.2.2.2.2.2.1, .ref a_P1_told, .ref a_P1_past, .int o.2.2.2.2.2.2.2.2.2.2.1])), (a_P1_factors, .inl (gI g, 3, .inl o.2.2.2.2.2.2.2.2.2.2.2.1)), (a_P1_told, .inr (2, [.ref a_P1_told_numbers])), (a_P1_told_numbers, .inl (gI g, 6, .inl o.2.2.2.2.2.2.2.2.2.2.2.2))] (some (.int o.1)) (va_A [(a_T, .inr (1, [.ref a_T_bytes, .int v_T_length, .int v_T_tokenStart, .int v_T_tokenEnd, .int v_T_token])), (a_T_bytes, .inl (gB g, 150, .inl v_T_bytes)), (a_P1, .inr (0, [.int v_P1_number, .int v_P1_enough, .int v_P1_holders, .ref a_P1_kinds, .ref a_P1_extras, .ref a_P1_factors, .int v_P1_day, .int v_P1_tries, .int v_P1_shut, .ref a_P1_told, .ref a_P1_past, .int v_P1_pastCount])), (a_P1_factors, .inl (gI g, 3, .inl v_P1_factors)), (a_P1_told, .inr (2, [.ref a_P1_told_numbers])), (a_P1_told_numbers, .inl (gI g, 6, .inl v_P1_told_numbers))] sz)) 0 0 (va_A [(a_T, .inr (1, [.ref a_T_bytes, .int v_T_length, .int v_T_tokenStart, .int v_T_tokenEnd, .int v_T_token])), (a_T_bytes, .inl (gB g, 150, .inl v_T_bytes)), (a_P1, .inr (0, [.int v_P1_number, .int v_P1_enough, .int v_P1_holders, .ref a_P1_kinds, .ref a_P1_extras, .ref a_P1_factors, .int v_P1_day, .int v_P1_tries, .int v_P1_shut, .ref a_P1_told, .ref a_P1_past, .int v_P1_pastCount])), (a_P1_factors, .inl (gI g, 3, .inl v_P1_factors)), (a_P1_told, .inr (2, [.ref a_P1_told_numbers])), (a_P1_told_numbers, .inl (gI g, 6, .inl v_P1_told_numbers))] sz) := by
  unfold f_X1_readSafeItem at hf
  refine zs_met (own := RX1) (plainFor_of_name (by decide)) rfl (Nat.le_of_ble_eq_true rfl) ?_
  intro p e s m below meth c A ls hX hB hR hM hT hO hK hN hA hE hP hD hS hl
  have hl : lv_has ls 4 [(0, .ref a_T), (1, .ref a_P1)] := hl
  refine lv_aload_n (pc := 0) hX hB dX1_readSafeItem_0 rfl (lv_at hl 0 rfl) ?_
  obtain ⟨o1, hc, hf⟩ := zs_bind hf
  refine zs_V (q := (RX1, TX1, 5)) (ci := 1) (q0 := 0) (b := a_T) (pc := 1) (As := []) (rest := []) (st1 := []) (wc := [(a_T, .inr (1, [.ref a_T_bytes, .int v_T_length, .int v_T_tokenStart, .int v_T_tokenEnd, .int v_T_token])), (a_T_bytes, .inl (gB g, 150, .inl v_T_bytes))]) (wr := [(a_P1, .inr (0, [.int v_P1_number, .int v_P1_enough, .int v_P1_holders, .ref a_P1_kinds, .ref a_P1_extras, .ref a_P1_factors, .int v_P1_day, .int v_P1_tries, .int v_P1_shut, .ref a_P1_told, .ref a_P1_past, .int v_P1_pastCount])), (a_P1_factors, .inl (gI g, 3, .inl v_P1_factors)), (a_P1_told, .inr (2, [.ref a_P1_told_numbers])), (a_P1_told_numbers, .inl (gI g, 6, .inl v_P1_told_numbers))]) (w1 := [(a_T, .inr (1, [.ref a_T_bytes, .int v_T_length, .int o1.1, .int o1.2.1, .int o1.2.2])), (a_T_bytes, .inl (gB g, 150, .inl v_T_bytes))]) (w2 := [(a_T, .inr (1, [.ref a_T_bytes, .int v_T_length, .int o1.1, .int o1.2.1, .int o1.2.2])), (a_T_bytes, .inl (gB g, 150, .inl v_T_bytes)), (a_P1, .inr (0, [.int v_P1_number, .int v_P1_enough, .int v_P1_holders, .ref a_P1_kinds, .ref a_P1_extras, .ref a_P1_factors, .int v_P1_day, .int v_P1_tries, .int v_P1_shut, .ref a_P1_told, .ref a_P1_past, .int v_P1_pastCount])), (a_P1_factors, .inl (gI g, 3, .inl v_P1_factors)), (a_P1_told, .inr (2, [.ref a_P1_told_numbers])), (a_P1_told_numbers, .inl (gI g, 6, .inl v_P1_told_numbers))]) (ov := none) lb_X1_nextToken lk_X1_32 hX hB hM hO hT hE hP hD hS hA (c_X1_nextToken l g _ a_T a_T_bytes v_T_length v_T_tokenStart v_T_tokenEnd v_T_token v_T_bytes o1 hc) ⟨rfl, rfl⟩ ⟨Nat.le_of_ble_eq_true rfl, Nat.le_of_ble_eq_true rfl⟩ rfl rfl [0, 1] [2, 3, 4, 5] [4, 5, 0, 1, 2, 3] rfl rfl rfl rfl (by decide) rfl rfl rfl rfl hl.1 (Nat.le_of_ble_eq_true rfl) ⟨Nat.zero_le _, Nat.zero_le _⟩ rfl dX1_readSafeItem_1 (fun H locs hP hD hS => ?_)
  refine lv_aload_n (pc := 4) hX hB dX1_readSafeItem_4 rfl (lv_at hl 0 rfl) ?_
  refine va_ldcS (pc := 5) hX hB hO hE.2.2.2.2.2.2.2.1 dX1_readSafeItem_5 ?_
  obtain ⟨o2, hc, hf⟩ := zs_bind hf
  refine zs_V (q := (RX1, TX1, 5)) (ci := 1) (q0 := 0) (b := a_T) (pc := 7) (As := [.ref (gK g 0)]) (rest := []) (st1 := [.int o2]) (wc := [(a_T, .inr (1, [.ref a_T_bytes, .int v_T_length, .int o1.1, .int o1.2.1, .int o1.2.2])), (a_T_bytes, .inl (gB g, 150, .inl v_T_bytes))]) (wr := [(a_P1, .inr (0, [.int v_P1_number, .int v_P1_enough, .int v_P1_holders, .ref a_P1_kinds, .ref a_P1_extras, .ref a_P1_factors, .int v_P1_day, .int v_P1_tries, .int v_P1_shut, .ref a_P1_told, .ref a_P1_past, .int v_P1_pastCount])), (a_P1_factors, .inl (gI g, 3, .inl v_P1_factors)), (a_P1_told, .inr (2, [.ref a_P1_told_numbers])), (a_P1_told_numbers, .inl (gI g, 6, .inl v_P1_told_numbers))]) (w1 := [(a_T, .inr (1, [.ref a_T_bytes, .int v_T_length, .int o1.1, .int o1.2.1, .int o1.2.2])), (a_T_bytes, .inl (gB g, 150, .inl v_T_bytes))]) (w2 := [(a_T, .inr (1, [.ref a_T_bytes, .int v_T_length, .int o1.1, .int o1.2.1, .int o1.2.2])), (a_T_bytes, .inl (gB g, 150, .inl v_T_bytes)), (a_P1, .inr (0, [.int v_P1_number, .int v_P1_enough, .int v_P1_holders, .ref a_P1_kinds, .ref a_P1_extras, .ref a_P1_factors, .int v_P1_day, .int v_P1_tries, .int v_P1_shut, .ref a_P1_told, .ref a_P1_past, .int v_P1_pastCount])), (a_P1_factors, .inl (gI g, 3, .inl v_P1_factors)), (a_P1_told, .inr (2, [.ref a_P1_told_numbers])), (a_P1_told_numbers, .inl (gI g, 6, .inl v_P1_told_numbers))]) (ov := some (.int o2)) lb_X1_isWord lk_X1_40 hX hB hM hO hT hE hP hD hS hA (c_X1_isWord l g _ a_T a_T_bytes v_T_length o1.1 o1.2.1 o1.2.2 v_T_bytes 0 o2 hc) ⟨rfl, rfl⟩ ⟨Nat.le_of_ble_eq_true rfl, Nat.le_of_ble_eq_true rfl⟩ rfl rfl [0, 1] [2, 3, 4, 5] [4, 5, 0, 1, 2, 3] rfl rfl rfl rfl (by decide) rfl rfl rfl rfl hl.1 (Nat.le_of_ble_eq_true rfl) ⟨Nat.zero_le _, Nat.zero_le _⟩ rfl dX1_readSafeItem_7 (fun H locs hP hD hS => ?_)
  refine lv_if_ne (pc := 10) (tgt := 15) hX hB dX1_readSafeItem_10 (by decide) (fun hq => ?_) (fun hq => ?_)
  · have hf := zs_in hf hq
    refine lv_aload_n (pc := 15) hX hB dX1_readSafeItem_15 rfl (lv_at hl 0 rfl) ?_
    refine lv_iconst (pc := 16) (v := 0) hX hB dX1_readSafeItem_16 (by decide) ?_
    refine lv_bipush (pc := 17) (v := 96) hX hB dX1_readSafeItem_17 (by decide) ?_
    obtain ⟨o3, hc, hf⟩ := zs_bind hf
    refine zs_V (q := (RX1, TX1, 5)) (ci := 1) (q0 := 0) (b := a_T) (pc := 19) (As := [.int (0 : Int32), .int (96 : Int32)]) (rest := []) (st1 := [.int o3.1]) (wc := [(a_T, .inr (1, [.ref a_T_bytes, .int v_T_length, .int o1.1, .int o1.2.1, .int o1.2.2])), (a_T_bytes, .inl (gB g, 150, .inl v_T_bytes))]) (wr := [(a_P1, .inr (0, [.int v_P1_number, .int v_P1_enough, .int v_P1_holders, .ref a_P1_kinds, .ref a_P1_extras, .ref a_P1_factors, .int v_P1_day, .int v_P1_tries, .int v_P1_shut, .ref a_P1_told, .ref a_P1_past, .int v_P1_pastCount])), (a_P1_factors, .inl (gI g, 3, .inl v_P1_factors)), (a_P1_told, .inr (2, [.ref a_P1_told_numbers])), (a_P1_told_numbers, .inl (gI g, 6, .inl v_P1_told_numbers))]) (w1 := [(a_T, .inr (1, [.ref a_T_bytes, .int v_T_length, .int o3.2.1, .int o3.2.2.1, .int o3.2.2.2])), (a_T_bytes, .inl (gB g, 150, .inl v_T_bytes))]) (w2 := [(a_T, .inr (1, [.ref a_T_bytes, .int v_T_length, .int o3.2.1, .int o3.2.2.1, .int o3.2.2.2])), (a_T_bytes, .inl (gB g, 150, .inl v_T_bytes)), (a_P1, .inr (0, [.int v_P1_number, .int v_P1_enough, .int v_P1_holders, .ref a_P1_kinds, .ref a_P1_extras, .ref a_P1_factors, .int v_P1_day, .int v_P1_tries, .int v_P1_shut, .ref a_P1_told, .ref a_P1_past, .int v_P1_pastCount])), (a_P1_factors, .inl (gI g, 3, .inl v_P1_factors)), (a_P1_told, .inr (2, [.ref a_P1_told_numbers])), (a_P1_told_numbers, .inl (gI g, 6, .inl v_P1_told_numbers))]) (ov := some (.int o3.1)) lb_X1_nextNumber lk_X1_44 hX hB hM hO hT hE hP hD hS hA (c_X1_nextNumber l g _ a_T a_T_bytes v_T_length o1.1 o1.2.1 o1.2.2 v_T_bytes (0 : Int32) (96 : Int32) o3 hc) ⟨rfl, rfl⟩ ⟨Nat.le_of_ble_eq_true rfl, Nat.le_of_ble_eq_true rfl⟩ rfl rfl [0, 1] [2, 3, 4, 5] [4, 5, 0, 1, 2, 3] rfl rfl rfl rfl (by decide) rfl rfl rfl rfl hl.1 (Nat.le_of_ble_eq_true rfl) ⟨Nat.zero_le _, Nat.zero_le _⟩ rfl dX1_readSafeItem_19 (fun H locs hP hD hS => ?_)
    refine lv_istore_n (pc := 22) (lv' := [(2, .int o3.1), (0, .ref a_T), (1, .ref a_P1)]) hX hB dX1_readSafeItem_22 rfl hl (by decide) rfl (fun ls hl => ?_)
    refine lv_iload_n (pc := 23) hX hB dX1_readSafeItem_23 rfl (lv_at hl 0 rfl) ?_
    refine lv_iconst (pc := 24) (v := -1) hX hB dX1_readSafeItem_24 (by decide) ?_
    refine lv_icmp_ne (pc := 25) (tgt := 30) hX hB dX1_readSafeItem_25 (by decide) (fun hq => ?_) (fun hq => ?_)
    · have hf := zs_in hf hq
      refine lv_aload_n (pc := 30) hX hB dX1_readSafeItem_30 rfl (lv_at hl 1 rfl) ?_
      refine lv_iconst (pc := 31) (v := 1) hX hB dX1_readSafeItem_31 (by decide) ?_
      refine lv_iconst (pc := 32) (v := 4) hX hB dX1_readSafeItem_32 (by decide) ?_
      obtain ⟨o4, hc, hf⟩ := zs_bind hf
      refine zs_V (q := (RX1, TX1, 5)) (ci := 1) (q0 := 0) (b := a_T) (pc := 33) (As := [.int (1 : Int32), .int (4 : Int32)]) (rest := []) (st1 := [.int o4.1]) (wc := [(a_T, .inr (1, [.ref a_T_bytes, .int v_T_length, .int o3.2.1, .int o3.2.2.1, .int o3.2.2.2])), (a_T_bytes, .inl (gB g, 150, .inl v_T_bytes))]) (wr := [(a_P1, .inr (0, [.int v_P1_number, .int v_P1_enough, .int v_P1_holders, .ref a_P1_kinds, .ref a_P1_extras, .ref a_P1_factors, .int v_P1_day, .int v_P1_tries, .int v_P1_shut, .ref a_P1_told, .ref a_P1_past, .int v_P1_pastCount])), (a_P1_factors, .inl (gI g, 3, .inl v_P1_factors)), (a_P1_told, .inr (2, [.ref a_P1_told_numbers])), (a_P1_told_numbers, .inl (gI g, 6, .inl v_P1_told_numbers))]) (w1 := [(a_T, .inr (1, [.ref a_T_bytes, .int v_T_length, .int o4.2.1, .int o4.2.2.1, .int o4.2.2.2])), (a_T_bytes, .inl (gB g, 150, .inl v_T_bytes))]) (w2 := [(a_T, .inr (1, [.ref a_T_bytes, .int v_T_length, .int o4.2.1, .int o4.2.2.1, .int o4.2.2.2])), (a_T_bytes, .inl (gB g, 150, .inl v_T_bytes)), (a_P1, .inr (0, [.int v_P1_number, .int v_P1_enough, .int v_P1_holders, .ref a_P1_kinds, .ref a_P1_extras, .ref a_P1_factors, .int v_P1_day, .int v_P1_tries, .int v_P1_shut, .ref a_P1_told, .ref a_P1_past, .int v_P1_pastCount])), (a_P1_factors, .inl (gI g, 3, .inl v_P1_factors)), (a_P1_told, .inr (2, [.ref a_P1_told_numbers])), (a_P1_told_numbers, .inl (gI g, 6, .inl v_P1_told_numbers))]) (ov := some (.int o4.1)) lb_X1_nextNumber lk_X1_44 hX hB hM hO hT hE hP hD hS hA (c_X1_nextNumber l g _ a_T a_T_bytes v_T_length o3.2.1 o3.2.2.1 o3.2.2.2 v_T_bytes (1 : Int32) (4 : Int32) o4 hc) ⟨rfl, rfl⟩ ⟨Nat.le_of_ble_eq_true rfl, Nat.le_of_ble_eq_true rfl⟩ rfl rfl [0, 1] [2, 3, 4, 5] [4, 5, 0, 1, 2, 3] rfl rfl rfl rfl (by decide) rfl rfl rfl rfl hl.1 (Nat.le_of_ble_eq_true rfl) ⟨Nat.zero_le _, Nat.zero_le _⟩ rfl dX1_readSafeItem_33 (fun H locs hP hD hS => ?_)
      refine lv_istore_n (pc := 36) (lv' := [(3, .int o4.1), (2, .int o3.1), (0, .ref a_T), (1, .ref a_P1)]) hX hB dX1_readSafeItem_36 rfl hl (by decide) rfl (fun ls hl => ?_)
      refine lv_iload_n (pc := 37) hX hB dX1_readSafeItem_37 rfl (lv_at hl 0 rfl) ?_
      refine lv_iconst (pc := 38) (v := -1) hX hB dX1_readSafeItem_38 (by decide) ?_
      refine lv_icmp_ne (pc := 39) (tgt := 44) hX hB dX1_readSafeItem_39 (by decide) (fun hq => ?_) (fun hq => ?_)
      · have hf := zs_in hf hq
        refine lv_aload_n (pc := 44) hX hB dX1_readSafeItem_44 rfl (lv_at hl 3 rfl) ?_
        refine lv_iload_n (pc := 45) hX hB dX1_readSafeItem_45 rfl (lv_at hl 1 rfl) ?_
        refine lv_iload_n (pc := 46) hX hB dX1_readSafeItem_46 rfl (lv_at hl 0 rfl) ?_
        obtain ⟨o5, hc, hf⟩ := zs_bind hf
        refine zs_V (q := (RX0, TX0, 12)) (ci := 0) (q0 := 2) (b := a_P1) (pc := 47) (As := [.int o3.1, .int o4.1]) (rest := []) (st1 := []) (wc := [(a_P1, .inr (0, [.int v_P1_number, .int v_P1_enough, .int v_P1_holders, .ref a_P1_kinds, .ref a_P1_extras, .ref a_P1_factors, .int v_P1_day, .int v_P1_tries, .int v_P1_shut, .ref a_P1_told, .ref a_P1_past, .int v_P1_pastCount])), (a_P1_factors, .inl (gI g, 3, .inl v_P1_factors)), (a_P1_told, .inr (2, [.ref a_P1_told_numbers])), (a_P1_told_numbers, .inl (gI g, 6, .inl v_P1_told_numbers))]) (wr := [(a_T, .inr (1, [.ref a_T_bytes, .int v_T_length, .int o4.2.1, .int o4.2.2.1, .int o4.2.2.2])), (a_T_bytes, .inl (gB g, 150, .inl v_T_bytes))]) (w1 := [(a_P1, .inr (0, [.int o5.1, .int o5.2.1, .int o5.2.2.1, .ref a_P1_kinds, .ref a_P1_extras, .ref a_P1_factors, .int o5.2.2.2.1, .int o5.2.2.2.2.1, .int o5.2.2.2.2.2.1, .ref a_P1_told, .ref a_P1_past, .int o5.2.2.2.2.2.2.1])), (a_P1_factors, .inl (gI g, 3, .inl o5.2.2.2.2.2.2.2.1)), (a_P1_told, .inr (2, [.ref a_P1_told_numbers])), (a_P1_told_numbers, .inl (gI g, 6, .inl o5.2.2.2.2.2.2.2.2))]) (w2 := [(a_T, .inr (1, [.ref a_T_bytes, .int v_T_length, .int o4.2.1, .int o4.2.2.1, .int o4.2.2.2])), (a_T_bytes, .inl (gB g, 150, .inl v_T_bytes)), (a_P1, .inr (0, [.int o5.1, .int o5.2.1, .int o5.2.2.1, .ref a_P1_kinds, .ref a_P1_extras, .ref a_P1_factors, .int o5.2.2.2.1, .int o5.2.2.2.2.1, .int o5.2.2.2.2.2.1, .ref a_P1_told, .ref a_P1_past, .int o5.2.2.2.2.2.2.1])), (a_P1_factors, .inl (gI g, 3, .inl o5.2.2.2.2.2.2.2.1)), (a_P1_told, .inr (2, [.ref a_P1_told_numbers])), (a_P1_told_numbers, .inl (gI g, 6, .inl o5.2.2.2.2.2.2.2.2))]) (ov := none) lb_X0_begin lk_X1_48 hX hB hM hO hT hE hP hD hS hA (c_X0_begin l g _ a_P1 a_P1_kinds a_P1_extras a_P1_past a_P1_factors a_P1_told a_P1_told_numbers v_P1_number v_P1_enough v_P1_holders v_P1_day v_P1_tries v_P1_shut v_P1_pastCount v_P1_factors v_P1_told_numbers o3.1 o4.1 o5 hc) ⟨rfl, rfl⟩ ⟨Nat.le_of_ble_eq_true rfl, Nat.le_of_ble_eq_true rfl⟩ rfl rfl [2, 3, 4, 5] [0, 1] [0, 1, 2, 3, 4, 5] rfl rfl rfl rfl (by decide) rfl rfl rfl rfl hl.1 (Nat.le_of_ble_eq_true rfl) ⟨Nat.zero_le _, Nat.zero_le _⟩ rfl dX1_readSafeItem_47 (fun H locs hP hD hS => ?_)
        refine lv_aload_n (pc := 50) hX hB dX1_readSafeItem_50 rfl (lv_at hl 2 rfl) ?_
        obtain ⟨o6, hc, hf⟩ := zs_bind hf
        refine zs_V (q := (RX1, TX1, 5)) (ci := 1) (q0 := 0) (b := a_T) (pc := 51) (As := []) (rest := []) (st1 := [.int o6.1]) (wc := [(a_T, .inr (1, [.ref a_T_bytes, .int v_T_length, .int o4.2.1, .int o4.2.2.1, .int o4.2.2.2])), (a_T_bytes, .inl (gB g, 150, .inl v_T_bytes))]) (wr := [(a_P1, .inr (0, [.int o5.1, .int o5.2.1, .int o5.2.2.1, .ref a_P1_kinds, .ref a_P1_extras, .ref a_P1_factors, .int o5.2.2.2.1, .int o5.2.2.2.2.1, .int o5.2.2.2.2.2.1, .ref a_P1_told, .ref a_P1_past, .int o5.2.2.2.2.2.2.1])), (a_P1_factors, .inl (gI g, 3, .inl o5.2.2.2.2.2.2.2.1)), (a_P1_told, .inr (2, [.ref a_P1_told_numbers])), (a_P1_told_numbers, .inl (gI g, 6, .inl o5.2.2.2.2.2.2.2.2))]) (w1 := [(a_T, .inr (1, [.ref a_T_bytes, .int v_T_length, .int o6.2.1, .int o6.2.2.1, .int o6.2.2.2])), (a_T_bytes, .inl (gB g, 150, .inl v_T_bytes))]) (w2 := [(a_T, .inr (1, [.ref a_T_bytes, .int v_T_length, .int o6.2.1, .int o6.2.2.1, .int o6.2.2.2])), (a_T_bytes, .inl (gB g, 150, .inl v_T_bytes)), (a_P1, .inr (0, [.int o5.1, .int o5.2.1, .int o5.2.2.1, .ref a_P1_kinds, .ref a_P1_extras, .ref a_P1_factors, .int o5.2.2.2.1, .int o5.2.2.2.2.1, .int o5.2.2.2.2.2.1, .ref a_P1_told, .ref a_P1_past, .int o5.2.2.2.2.2.2.1])), (a_P1_factors, .inl (gI g, 3, .inl o5.2.2.2.2.2.2.2.1)), (a_P1_told, .inr (2, [.ref a_P1_told_numbers])), (a_P1_told_numbers, .inl (gI g, 6, .inl o5.2.2.2.2.2.2.2.2))]) (ov := some (.int o6.1)) lb_X1_nextIsStop lk_X1_54 hX hB hM hO hT hE hP hD hS hA (c_X1_nextIsStop l g _ a_T a_T_bytes v_T_length o4.2.1 o4.2.2.1 o4.2.2.2 v_T_bytes o6 hc) ⟨rfl, rfl⟩ ⟨Nat.le_of_ble_eq_true rfl, Nat.le_of_ble_eq_true rfl⟩ rfl rfl [0, 1] [2, 3, 4, 5] [4, 5, 0, 1, 2, 3] rfl rfl rfl rfl (by decide) rfl rfl rfl rfl hl.1 (Nat.le_of_ble_eq_true rfl) ⟨Nat.zero_le _, Nat.zero_le _⟩ rfl dX1_readSafeItem_51 (fun H locs hP hD hS => ?_)
        obtain ⟨hg, hf⟩ := zs_gd hf
        obtain rfl := Option.some.inj hf
        exact zs_zret (v := o6.1) (pc := 54) hX hB hR hK (zs_bz hg).1 hP hD hS dX1_readSafeItem_54
      · have hf := zs_ip hf hq
        refine lv_iconst (pc := 42) (v := 0) hX hB dX1_readSafeItem_42 (by decide) ?_
        obtain rfl := Option.some.inj hf
        exact zs_zret (v := (0 : Int32)) (pc := 43) hX hB hR hK rfl hP hD hS dX1_readSafeItem_43
    · have hf := zs_ip hf hq
      refine lv_iconst (pc := 28) (v := 0) hX hB dX1_readSafeItem_28 (by decide) ?_
      obtain rfl := Option.some.inj hf
      exact zs_zret (v := (0 : Int32)) (pc := 29) hX hB hR hK rfl hP hD hS dX1_readSafeItem_29
  · have hf := zs_ip hf hq
    refine lv_iconst (pc := 13) (v := 0) hX hB dX1_readSafeItem_13 (by decide) ?_
    obtain rfl := Option.some.inj hf
    exact zs_zret (v := (0 : Int32)) (pc := 14) hX hB hR hK rfl hP hD hS dX1_readSafeItem_14

def f_X1_readWay (v_T_length : Int32) (v_T_tokenStart : Int32) (v_T_tokenEnd : Int32) (v_T_token : Int32) (v_T_bytes : Nat → Int32) (v_P1_factors : Nat → Int32) : Option (Int32 × Int32 × Int32 × Int32 × (Nat → Int32)) :=
  (f_X1_nextNumber v_T_length v_T_tokenStart v_T_tokenEnd v_T_token v_T_bytes (1 : Int32) (3 : Int32)).bind (fun o1 => if o1.1 = (-1 : Int32) then (some ((0 : Int32), o1.2.1, o1.2.2.1, o1.2.2.2, v_P1_factors)) else ((f_X1_nextNumber v_T_length o1.2.1 o1.2.2.1 o1.2.2.2 v_T_bytes (0 : Int32) (96 : Int32)).bind (fun o2 => if o2.1 = (-1 : Int32) then (some ((0 : Int32), o2.2.1, o2.2.2.1, o2.2.2.2, v_P1_factors)) else ((f_X0_putFactor v_P1_factors o1.1 o2.1).bind (fun o3 => (f_X1_nextIsStop v_T_length o2.2.1 o2.2.2.1 o2.2.2.2 v_T_bytes).bind (fun o4 => gd (bz o4.1) (some (o4.1, o4.2.1, o4.2.2.1, o4.2.2.2, o3))))))))
set_option maxHeartbeats 4000000 in
set_option maxRecDepth 100000 in
theorem c_X1_readWay (l : Launch) (g : GG) (sz : Nat) (a_T a_T_bytes a_P1 a_P1_kinds a_P1_extras a_P1_told a_P1_past a_P1_factors : Nat) (v_T_length : Int32) (v_T_tokenStart : Int32) (v_T_tokenEnd : Int32) (v_T_token : Int32) (v_T_bytes : Nat → Int32) (v_P1_number : Int32) (v_P1_enough : Int32) (v_P1_holders : Int32) (v_P1_day : Int32) (v_P1_tries : Int32) (v_P1_shut : Int32) (v_P1_pastCount : Int32) (v_P1_factors : Nat → Int32) (o : Int32 × Int32 × Int32 × Int32 × (Nat → Int32)) (hf : f_X1_readWay v_T_length v_T_tokenStart v_T_tokenEnd v_T_token v_T_bytes v_P1_factors = some o) : Met l yX1_readWay (Cond.code yX1_readWay cX1_readWay 4 (some .boolean) :: TB) { frames := 3, cells := 0, slots := 0, locals := 67 } (Pst g [(a_T, .inr (1, [.ref a_T_bytes, .int v_T_length, .int v_T_tokenStart, .int v_T_tokenEnd, .int v_T_token])), (a_T_bytes, .inl (gB g, 150, .inl v_T_bytes)), (a_P1, .inr (0, [.int v_P1_number, .int v_P1_enough, .int v_P1_holders, .ref a_P1_kinds, .ref a_P1_extras, .ref a_P1_factors, .int v_P1_day, .int v_P1_tries, .int v_P1_shut, .ref a_P1_told, .ref a_P1_past, .int v_P1_pastCount])), (a_P1_factors, .inl (gI g, 3, .inl v_P1_factors))] [.ref a_T, .ref a_P1] sz) (Qst g [(a_T, .inr (1, [.ref a_T_bytes, .int v_T_length, .int o.2.1, .int o.2.2.1, .int o.2.2.2.1])), (a_T_bytes, .inl (gB g, 150, .inl v_T_bytes)), (a_P1, .inr (0, [.int v_P1_number, .int v_P1_enough, .int v_P1_holders, .ref a_P1_kinds, .ref a_P1_extras, .ref a_P1_factors, .int v_P1_day, .int v_P1_tries, .int v_P1_shut, .ref a_P1_told, .ref a_P1_past, .int v_P1_pastCount])), (a_P1_factors, .inl (gI g, 3, .inl o.2.2.2.2))] (some (.int o.1)) (va_A [(a_T, .inr (1, [.ref a_T_bytes, .int v_T_length, .int v_T_tokenStart, .int v_T_tokenEnd, .int v_T_token])), (a_T_bytes, .inl (gB g, 150, .inl v_T_bytes)), (a_P1, .inr (0, [.int v_P1_number, .int v_P1_enough, .int v_P1_holders, .ref a_P1_kinds, .ref a_P1_extras, .ref a_P1_factors, .int v_P1_day, .int v_P1_tries, .int v_P1_shut, .ref a_P1_told, .ref a_P1_past, .int v_P1_pastCount])), (a_P1_factors, .inl (gI g, 3, .inl v_P1_factors))] sz)) 0 0 (va_A [(a_T, .inr (1, [.ref a_T_bytes, .int v_T_length, .int v_T_tokenStart, .int v_T_tokenEnd, .int v_T_token])), (a_T_bytes, .inl (gB g, 150, .inl v_T_bytes)), (a_P1, .inr (0, [.int v_P1_number, .int v_P1_enough, .int v_P1_holders, .ref a_P1_kinds, .ref a_P1_extras, .ref a_P1_factors, .int v_P1_day, .int v_P1_tries, .int v_P1_shut, .ref a_P1_told, .ref a_P1_past, .int v_P1_pastCount])), (a_P1_factors, .inl (gI g, 3, .inl v_P1_factors))] sz) := by
  unfold f_X1_readWay at hf
  refine zs_met (own := RX1) (plainFor_of_name (by decide)) rfl (Nat.le_of_ble_eq_true rfl) ?_
  intro p e s m below meth c A ls hX hB hR hM hT hO hK hN hA hE hP hD hS hl
  have hl : lv_has ls 4 [(0, .ref a_T), (1, .ref a_P1)] := hl
  refine lv_aload_n (pc := 0) hX hB dX1_readWay_0 rfl (lv_at hl 0 rfl) ?_
  refine lv_iconst (pc := 1) (v := 1) hX hB dX1_readWay_1 (by decide) ?_
  refine lv_iconst (pc := 2) (v := 3) hX hB dX1_readWay_2 (by decide) ?_
  obtain ⟨o1, hc, hf⟩ := zs_bind hf
  refine zs_V (q := (RX1, TX1, 5)) (ci := 1) (q0 := 0) (b := a_T) (pc := 3) (As := [.int (1 : Int32), .int (3 : Int32)]) (rest := []) (st1 := [.int o1.1]) (wc := [(a_T, .inr (1, [.ref a_T_bytes, .int v_T_length, .int v_T_tokenStart, .int v_T_tokenEnd, .int v_T_token])), (a_T_bytes, .inl (gB g, 150, .inl v_T_bytes))]) (wr := [(a_P1, .inr (0, [.int v_P1_number, .int v_P1_enough, .int v_P1_holders, .ref a_P1_kinds, .ref a_P1_extras, .ref a_P1_factors, .int v_P1_day, .int v_P1_tries, .int v_P1_shut, .ref a_P1_told, .ref a_P1_past, .int v_P1_pastCount])), (a_P1_factors, .inl (gI g, 3, .inl v_P1_factors))]) (w1 := [(a_T, .inr (1, [.ref a_T_bytes, .int v_T_length, .int o1.2.1, .int o1.2.2.1, .int o1.2.2.2])), (a_T_bytes, .inl (gB g, 150, .inl v_T_bytes))]) (w2 := [(a_T, .inr (1, [.ref a_T_bytes, .int v_T_length, .int o1.2.1, .int o1.2.2.1, .int o1.2.2.2])), (a_T_bytes, .inl (gB g, 150, .inl v_T_bytes)), (a_P1, .inr (0, [.int v_P1_number, .int v_P1_enough, .int v_P1_holders, .ref a_P1_kinds, .ref a_P1_extras, .ref a_P1_factors, .int v_P1_day, .int v_P1_tries, .int v_P1_shut, .ref a_P1_told, .ref a_P1_past, .int v_P1_pastCount])), (a_P1_factors, .inl (gI g, 3, .inl v_P1_factors))]) (ov := some (.int o1.1)) lb_X1_nextNumber lk_X1_44 hX hB hM hO hT hE hP hD hS hA (c_X1_nextNumber l g _ a_T a_T_bytes v_T_length v_T_tokenStart v_T_tokenEnd v_T_token v_T_bytes (1 : Int32) (3 : Int32) o1 hc) ⟨rfl, rfl⟩ ⟨Nat.le_of_ble_eq_true rfl, Nat.le_of_ble_eq_true rfl⟩ rfl rfl [0, 1] [2, 3] [2, 3, 0, 1] rfl rfl rfl rfl (by decide) rfl rfl rfl rfl hl.1 (Nat.le_of_ble_eq_true rfl) ⟨Nat.zero_le _, Nat.zero_le _⟩ rfl dX1_readWay_3 (fun H locs hP hD hS => ?_)
  refine lv_istore_n (pc := 6) (lv' := [(2, .int o1.1), (0, .ref a_T), (1, .ref a_P1)]) hX hB dX1_readWay_6 rfl hl (by decide) rfl (fun ls hl => ?_)
  refine lv_iload_n (pc := 7) hX hB dX1_readWay_7 rfl (lv_at hl 0 rfl) ?_
  refine lv_iconst (pc := 8) (v := -1) hX hB dX1_readWay_8 (by decide) ?_
  refine lv_icmp_ne (pc := 9) (tgt := 14) hX hB dX1_readWay_9 (by decide) (fun hq => ?_) (fun hq => ?_)
  · have hf := zs_in hf hq
    refine lv_aload_n (pc := 14) hX hB dX1_readWay_14 rfl (lv_at hl 1 rfl) ?_
    refine lv_iconst (pc := 15) (v := 0) hX hB dX1_readWay_15 (by decide) ?_
    refine lv_bipush (pc := 16) (v := 96) hX hB dX1_readWay_16 (by decide) ?_
    obtain ⟨o2, hc, hf⟩ := zs_bind hf
    refine zs_V (q := (RX1, TX1, 5)) (ci := 1) (q0 := 0) (b := a_T) (pc := 18) (As := [.int (0 : Int32), .int (96 : Int32)]) (rest := []) (st1 := [.int o2.1]) (wc := [(a_T, .inr (1, [.ref a_T_bytes, .int v_T_length, .int o1.2.1, .int o1.2.2.1, .int o1.2.2.2])), (a_T_bytes, .inl (gB g, 150, .inl v_T_bytes))]) (wr := [(a_P1, .inr (0, [.int v_P1_number, .int v_P1_enough, .int v_P1_holders, .ref a_P1_kinds, .ref a_P1_extras, .ref a_P1_factors, .int v_P1_day, .int v_P1_tries, .int v_P1_shut, .ref a_P1_told, .ref a_P1_past, .int v_P1_pastCount])), (a_P1_factors, .inl (gI g, 3, .inl v_P1_factors))]) (w1 := [(a_T, .inr (1, [.ref a_T_bytes, .int v_T_length, .int o2.2.1, .int o2.2.2.1, .int o2.2.2.2])), (a_T_bytes, .inl (gB g, 150, .inl v_T_bytes))]) (w2 := [(a_T, .inr (1, [.ref a_T_bytes, .int v_T_length, .int o2.2.1, .int o2.2.2.1, .int o2.2.2.2])), (a_T_bytes, .inl (gB g, 150, .inl v_T_bytes)), (a_P1, .inr (0, [.int v_P1_number, .int v_P1_enough, .int v_P1_holders, .ref a_P1_kinds, .ref a_P1_extras, .ref a_P1_factors, .int v_P1_day, .int v_P1_tries, .int v_P1_shut, .ref a_P1_told, .ref a_P1_past, .int v_P1_pastCount])), (a_P1_factors, .inl (gI g, 3, .inl v_P1_factors))]) (ov := some (.int o2.1)) lb_X1_nextNumber lk_X1_44 hX hB hM hO hT hE hP hD hS hA (c_X1_nextNumber l g _ a_T a_T_bytes v_T_length o1.2.1 o1.2.2.1 o1.2.2.2 v_T_bytes (0 : Int32) (96 : Int32) o2 hc) ⟨rfl, rfl⟩ ⟨Nat.le_of_ble_eq_true rfl, Nat.le_of_ble_eq_true rfl⟩ rfl rfl [0, 1] [2, 3] [2, 3, 0, 1] rfl rfl rfl rfl (by decide) rfl rfl rfl rfl hl.1 (Nat.le_of_ble_eq_true rfl) ⟨Nat.zero_le _, Nat.zero_le _⟩ rfl dX1_readWay_18 (fun H locs hP hD hS => ?_)
    refine lv_istore_n (pc := 21) (lv' := [(3, .int o2.1), (2, .int o1.1), (0, .ref a_T), (1, .ref a_P1)]) hX hB dX1_readWay_21 rfl hl (by decide) rfl (fun ls hl => ?_)
    refine lv_iload_n (pc := 22) hX hB dX1_readWay_22 rfl (lv_at hl 0 rfl) ?_
    refine lv_iconst (pc := 23) (v := -1) hX hB dX1_readWay_23 (by decide) ?_
    refine lv_icmp_ne (pc := 24) (tgt := 29) hX hB dX1_readWay_24 (by decide) (fun hq => ?_) (fun hq => ?_)
    · have hf := zs_in hf hq
      refine lv_aload_n (pc := 29) hX hB dX1_readWay_29 rfl (lv_at hl 3 rfl) ?_
      refine lv_iload_n (pc := 30) hX hB dX1_readWay_30 rfl (lv_at hl 1 rfl) ?_
      refine lv_iload_n (pc := 31) hX hB dX1_readWay_31 rfl (lv_at hl 0 rfl) ?_
      obtain ⟨o3, hc, hf⟩ := zs_bind hf
      refine zs_V (q := (RX0, TX0, 12)) (ci := 0) (q0 := 2) (b := a_P1) (pc := 32) (As := [.int o1.1, .int o2.1]) (rest := []) (st1 := []) (wc := [(a_P1, .inr (0, [.int v_P1_number, .int v_P1_enough, .int v_P1_holders, .ref a_P1_kinds, .ref a_P1_extras, .ref a_P1_factors, .int v_P1_day, .int v_P1_tries, .int v_P1_shut, .ref a_P1_told, .ref a_P1_past, .int v_P1_pastCount])), (a_P1_factors, .inl (gI g, 3, .inl v_P1_factors))]) (wr := [(a_T, .inr (1, [.ref a_T_bytes, .int v_T_length, .int o2.2.1, .int o2.2.2.1, .int o2.2.2.2])), (a_T_bytes, .inl (gB g, 150, .inl v_T_bytes))]) (w1 := [(a_P1, .inr (0, [.int v_P1_number, .int v_P1_enough, .int v_P1_holders, .ref a_P1_kinds, .ref a_P1_extras, .ref a_P1_factors, .int v_P1_day, .int v_P1_tries, .int v_P1_shut, .ref a_P1_told, .ref a_P1_past, .int v_P1_pastCount])), (a_P1_factors, .inl (gI g, 3, .inl o3))]) (w2 := [(a_T, .inr (1, [.ref a_T_bytes, .int v_T_length, .int o2.2.1, .int o2.2.2.1, .int o2.2.2.2])), (a_T_bytes, .inl (gB g, 150, .inl v_T_bytes)), (a_P1, .inr (0, [.int v_P1_number, .int v_P1_enough, .int v_P1_holders, .ref a_P1_kinds, .ref a_P1_extras, .ref a_P1_factors, .int v_P1_day, .int v_P1_tries, .int v_P1_shut, .ref a_P1_told, .ref a_P1_past, .int v_P1_pastCount])), (a_P1_factors, .inl (gI g, 3, .inl o3))]) (ov := none) lb_X0_putFactor lk_X1_71 hX hB hM hO hT hE hP hD hS hA (c_X0_putFactor l g _ a_P1 a_P1_kinds a_P1_extras a_P1_told a_P1_past a_P1_factors v_P1_number v_P1_enough v_P1_holders v_P1_day v_P1_tries v_P1_shut v_P1_pastCount v_P1_factors o1.1 o2.1 o3 hc) ⟨rfl, rfl⟩ ⟨Nat.le_of_ble_eq_true rfl, Nat.le_of_ble_eq_true rfl⟩ rfl rfl [2, 3] [0, 1] [0, 1, 2, 3] rfl rfl rfl rfl (by decide) rfl rfl rfl rfl hl.1 (Nat.le_of_ble_eq_true rfl) ⟨Nat.zero_le _, Nat.zero_le _⟩ rfl dX1_readWay_32 (fun H locs hP hD hS => ?_)
      refine lv_aload_n (pc := 35) hX hB dX1_readWay_35 rfl (lv_at hl 2 rfl) ?_
      obtain ⟨o4, hc, hf⟩ := zs_bind hf
      refine zs_V (q := (RX1, TX1, 5)) (ci := 1) (q0 := 0) (b := a_T) (pc := 36) (As := []) (rest := []) (st1 := [.int o4.1]) (wc := [(a_T, .inr (1, [.ref a_T_bytes, .int v_T_length, .int o2.2.1, .int o2.2.2.1, .int o2.2.2.2])), (a_T_bytes, .inl (gB g, 150, .inl v_T_bytes))]) (wr := [(a_P1, .inr (0, [.int v_P1_number, .int v_P1_enough, .int v_P1_holders, .ref a_P1_kinds, .ref a_P1_extras, .ref a_P1_factors, .int v_P1_day, .int v_P1_tries, .int v_P1_shut, .ref a_P1_told, .ref a_P1_past, .int v_P1_pastCount])), (a_P1_factors, .inl (gI g, 3, .inl o3))]) (w1 := [(a_T, .inr (1, [.ref a_T_bytes, .int v_T_length, .int o4.2.1, .int o4.2.2.1, .int o4.2.2.2])), (a_T_bytes, .inl (gB g, 150, .inl v_T_bytes))]) (w2 := [(a_T, .inr (1, [.ref a_T_bytes, .int v_T_length, .int o4.2.1, .int o4.2.2.1, .int o4.2.2.2])), (a_T_bytes, .inl (gB g, 150, .inl v_T_bytes)), (a_P1, .inr (0, [.int v_P1_number, .int v_P1_enough, .int v_P1_holders, .ref a_P1_kinds, .ref a_P1_extras, .ref a_P1_factors, .int v_P1_day, .int v_P1_tries, .int v_P1_shut, .ref a_P1_told, .ref a_P1_past, .int v_P1_pastCount])), (a_P1_factors, .inl (gI g, 3, .inl o3))]) (ov := some (.int o4.1)) lb_X1_nextIsStop lk_X1_54 hX hB hM hO hT hE hP hD hS hA (c_X1_nextIsStop l g _ a_T a_T_bytes v_T_length o2.2.1 o2.2.2.1 o2.2.2.2 v_T_bytes o4 hc) ⟨rfl, rfl⟩ ⟨Nat.le_of_ble_eq_true rfl, Nat.le_of_ble_eq_true rfl⟩ rfl rfl [0, 1] [2, 3] [2, 3, 0, 1] rfl rfl rfl rfl (by decide) rfl rfl rfl rfl hl.1 (Nat.le_of_ble_eq_true rfl) ⟨Nat.zero_le _, Nat.zero_le _⟩ rfl dX1_readWay_36 (fun H locs hP hD hS => ?_)
      obtain ⟨hg, hf⟩ := zs_gd hf
      obtain rfl := Option.some.inj hf
      exact zs_zret (v := o4.1) (pc := 39) hX hB hR hK (zs_bz hg).1 hP hD hS dX1_readWay_39
    · have hf := zs_ip hf hq
      refine lv_iconst (pc := 27) (v := 0) hX hB dX1_readWay_27 (by decide) ?_
      obtain rfl := Option.some.inj hf
      exact zs_zret (v := (0 : Int32)) (pc := 28) hX hB hR hK rfl hP hD hS dX1_readWay_28
  · have hf := zs_ip hf hq
    refine lv_iconst (pc := 12) (v := 0) hX hB dX1_readWay_12 (by decide) ?_
    obtain rfl := Option.some.inj hf
    exact zs_zret (v := (0 : Int32)) (pc := 13) hX hB hR hK rfl hP hD hS dX1_readWay_13

def f_X1_readHolder (v_T_length : Int32) (v_T_tokenStart : Int32) (v_T_tokenEnd : Int32) (v_T_token : Int32) (v_T_bytes : Nat → Int32) (v_P1_holders : Int32) (v_P1_kinds : Nat → Int32) (v_P1_extras : Nat → Int32) : Option (Int32 × Int32 × Int32 × Int32 × Int32 × (Nat → Int32) × (Nat → Int32)) :=
  (f_X1_nextNumber v_T_length v_T_tokenStart v_T_tokenEnd v_T_token v_T_bytes (0 : Int32) (5 : Int32)).bind (fun o1 => if o1.1 = (-1 : Int32) then (some ((0 : Int32), o1.2.1, o1.2.2.1, o1.2.2.2, v_P1_holders, v_P1_kinds, v_P1_extras)) else ((f_X1_nextNumber v_T_length o1.2.1 o1.2.2.1 o1.2.2.2 v_T_bytes (0 : Int32) (96 : Int32)).bind (fun o2 => if o2.1 = (-1 : Int32) then (some ((0 : Int32), o2.2.1, o2.2.2.1, o2.2.2.2, v_P1_holders, v_P1_kinds, v_P1_extras)) else ((f_X0_addHolder v_P1_holders v_P1_kinds v_P1_extras o1.1 o2.1).bind (fun o3 => (f_X1_nextIsStop v_T_length o2.2.1 o2.2.2.1 o2.2.2.2 v_T_bytes).bind (fun o4 => gd (bz o4.1) (some (o4.1, o4.2.1, o4.2.2.1, o4.2.2.2, o3.1, o3.2.1, o3.2.2))))))))
set_option maxHeartbeats 4000000 in
set_option maxRecDepth 100000 in
theorem c_X1_readHolder (l : Launch) (g : GG) (sz : Nat) (a_T a_T_bytes a_P1 a_P1_factors a_P1_told a_P1_past a_P1_kinds a_P1_extras : Nat) (v_T_length : Int32) (v_T_tokenStart : Int32) (v_T_tokenEnd : Int32) (v_T_token : Int32) (v_T_bytes : Nat → Int32) (v_P1_number : Int32) (v_P1_enough : Int32) (v_P1_holders : Int32) (v_P1_day : Int32) (v_P1_tries : Int32) (v_P1_shut : Int32) (v_P1_pastCount : Int32) (v_P1_kinds : Nat → Int32) (v_P1_extras : Nat → Int32) (o : Int32 × Int32 × Int32 × Int32 × Int32 × (Nat → Int32) × (Nat → Int32)) (hf : f_X1_readHolder v_T_length v_T_tokenStart v_T_tokenEnd v_T_token v_T_bytes v_P1_holders v_P1_kinds v_P1_extras = some o) : Met l yX1_readHolder (Cond.code yX1_readHolder cX1_readHolder 4 (some .boolean) :: TB) { frames := 3, cells := 0, slots := 0, locals := 67 } (Pst g [(a_T, .inr (1, [.ref a_T_bytes, .int v_T_length, .int v_T_tokenStart, .int v_T_tokenEnd, .int v_T_token])), (a_T_bytes, .inl (gB g, 150, .inl v_T_bytes)), (a_P1, .inr (0, [.int v_P1_number, .int v_P1_enough, .int v_P1_holders, .ref a_P1_kinds, .ref a_P1_extras, .ref a_P1_factors, .int v_P1_day, .int v_P1_tries, .int v_P1_shut, .ref a_P1_told, .ref a_P1_past, .int v_P1_pastCount])), (a_P1_kinds, .inl (gI g, 6, .inl v_P1_kinds)), (a_P1_extras, .inl (gI g, 6, .inl v_P1_extras))] [.ref a_T, .ref a_P1] sz) (Qst g [(a_T, .inr (1, [.ref a_T_bytes, .int v_T_length, .int o.2.1, .int o.2.2.1, .int o.2.2.2.1])), (a_T_bytes, .inl (gB g, 150, .inl v_T_bytes)), (a_P1, .inr (0, [.int v_P1_number, .int v_P1_enough, .int o.2.2.2.2.1, .ref a_P1_kinds, .ref a_P1_extras, .ref a_P1_factors, .int v_P1_day, .int v_P1_tries, .int v_P1_shut, .ref a_P1_told, .ref a_P1_past, .int v_P1_pastCount])), (a_P1_kinds, .inl (gI g, 6, .inl o.2.2.2.2.2.1)), (a_P1_extras, .inl (gI g, 6, .inl o.2.2.2.2.2.2))] (some (.int o.1)) (va_A [(a_T, .inr (1, [.ref a_T_bytes, .int v_T_length, .int v_T_tokenStart, .int v_T_tokenEnd, .int v_T_token])), (a_T_bytes, .inl (gB g, 150, .inl v_T_bytes)), (a_P1, .inr (0, [.int v_P1_number, .int v_P1_enough, .int v_P1_holders, .ref a_P1_kinds, .ref a_P1_extras, .ref a_P1_factors, .int v_P1_day, .int v_P1_tries, .int v_P1_shut, .ref a_P1_told, .ref a_P1_past, .int v_P1_pastCount])), (a_P1_kinds, .inl (gI g, 6, .inl v_P1_kinds)), (a_P1_extras, .inl (gI g, 6, .inl v_P1_extras))] sz)) 0 0 (va_A [(a_T, .inr (1, [.ref a_T_bytes, .int v_T_length, .int v_T_tokenStart, .int v_T_tokenEnd, .int v_T_token])), (a_T_bytes, .inl (gB g, 150, .inl v_T_bytes)), (a_P1, .inr (0, [.int v_P1_number, .int v_P1_enough, .int v_P1_holders, .ref a_P1_kinds, .ref a_P1_extras, .ref a_P1_factors, .int v_P1_day, .int v_P1_tries, .int v_P1_shut, .ref a_P1_told, .ref a_P1_past, .int v_P1_pastCount])), (a_P1_kinds, .inl (gI g, 6, .inl v_P1_kinds)), (a_P1_extras, .inl (gI g, 6, .inl v_P1_extras))] sz) := by
  unfold f_X1_readHolder at hf
  refine zs_met (own := RX1) (plainFor_of_name (by decide)) rfl (Nat.le_of_ble_eq_true rfl) ?_
  intro p e s m below meth c A ls hX hB hR hM hT hO hK hN hA hE hP hD hS hl
  have hl : lv_has ls 4 [(0, .ref a_T), (1, .ref a_P1)] := hl
  refine lv_aload_n (pc := 0) hX hB dX1_readHolder_0 rfl (lv_at hl 0 rfl) ?_
  refine lv_iconst (pc := 1) (v := 0) hX hB dX1_readHolder_1 (by decide) ?_
  refine lv_iconst (pc := 2) (v := 5) hX hB dX1_readHolder_2 (by decide) ?_
  obtain ⟨o1, hc, hf⟩ := zs_bind hf
  refine zs_V (q := (RX1, TX1, 5)) (ci := 1) (q0 := 0) (b := a_T) (pc := 3) (As := [.int (0 : Int32), .int (5 : Int32)]) (rest := []) (st1 := [.int o1.1]) (wc := [(a_T, .inr (1, [.ref a_T_bytes, .int v_T_length, .int v_T_tokenStart, .int v_T_tokenEnd, .int v_T_token])), (a_T_bytes, .inl (gB g, 150, .inl v_T_bytes))]) (wr := [(a_P1, .inr (0, [.int v_P1_number, .int v_P1_enough, .int v_P1_holders, .ref a_P1_kinds, .ref a_P1_extras, .ref a_P1_factors, .int v_P1_day, .int v_P1_tries, .int v_P1_shut, .ref a_P1_told, .ref a_P1_past, .int v_P1_pastCount])), (a_P1_kinds, .inl (gI g, 6, .inl v_P1_kinds)), (a_P1_extras, .inl (gI g, 6, .inl v_P1_extras))]) (w1 := [(a_T, .inr (1, [.ref a_T_bytes, .int v_T_length, .int o1.2.1, .int o1.2.2.1, .int o1.2.2.2])), (a_T_bytes, .inl (gB g, 150, .inl v_T_bytes))]) (w2 := [(a_T, .inr (1, [.ref a_T_bytes, .int v_T_length, .int o1.2.1, .int o1.2.2.1, .int o1.2.2.2])), (a_T_bytes, .inl (gB g, 150, .inl v_T_bytes)), (a_P1, .inr (0, [.int v_P1_number, .int v_P1_enough, .int v_P1_holders, .ref a_P1_kinds, .ref a_P1_extras, .ref a_P1_factors, .int v_P1_day, .int v_P1_tries, .int v_P1_shut, .ref a_P1_told, .ref a_P1_past, .int v_P1_pastCount])), (a_P1_kinds, .inl (gI g, 6, .inl v_P1_kinds)), (a_P1_extras, .inl (gI g, 6, .inl v_P1_extras))]) (ov := some (.int o1.1)) lb_X1_nextNumber lk_X1_44 hX hB hM hO hT hE hP hD hS hA (c_X1_nextNumber l g _ a_T a_T_bytes v_T_length v_T_tokenStart v_T_tokenEnd v_T_token v_T_bytes (0 : Int32) (5 : Int32) o1 hc) ⟨rfl, rfl⟩ ⟨Nat.le_of_ble_eq_true rfl, Nat.le_of_ble_eq_true rfl⟩ rfl rfl [0, 1] [2, 3, 4] [3, 4, 0, 1, 2] rfl rfl rfl rfl (by decide) rfl rfl rfl rfl hl.1 (Nat.le_of_ble_eq_true rfl) ⟨Nat.zero_le _, Nat.zero_le _⟩ rfl dX1_readHolder_3 (fun H locs hP hD hS => ?_)
  refine lv_istore_n (pc := 6) (lv' := [(2, .int o1.1), (0, .ref a_T), (1, .ref a_P1)]) hX hB dX1_readHolder_6 rfl hl (by decide) rfl (fun ls hl => ?_)
  refine lv_iload_n (pc := 7) hX hB dX1_readHolder_7 rfl (lv_at hl 0 rfl) ?_
  refine lv_iconst (pc := 8) (v := -1) hX hB dX1_readHolder_8 (by decide) ?_
  refine lv_icmp_ne (pc := 9) (tgt := 14) hX hB dX1_readHolder_9 (by decide) (fun hq => ?_) (fun hq => ?_)
  · have hf := zs_in hf hq
    refine lv_aload_n (pc := 14) hX hB dX1_readHolder_14 rfl (lv_at hl 1 rfl) ?_
    refine lv_iconst (pc := 15) (v := 0) hX hB dX1_readHolder_15 (by decide) ?_
    refine lv_bipush (pc := 16) (v := 96) hX hB dX1_readHolder_16 (by decide) ?_
    obtain ⟨o2, hc, hf⟩ := zs_bind hf
    refine zs_V (q := (RX1, TX1, 5)) (ci := 1) (q0 := 0) (b := a_T) (pc := 18) (As := [.int (0 : Int32), .int (96 : Int32)]) (rest := []) (st1 := [.int o2.1]) (wc := [(a_T, .inr (1, [.ref a_T_bytes, .int v_T_length, .int o1.2.1, .int o1.2.2.1, .int o1.2.2.2])), (a_T_bytes, .inl (gB g, 150, .inl v_T_bytes))]) (wr := [(a_P1, .inr (0, [.int v_P1_number, .int v_P1_enough, .int v_P1_holders, .ref a_P1_kinds, .ref a_P1_extras, .ref a_P1_factors, .int v_P1_day, .int v_P1_tries, .int v_P1_shut, .ref a_P1_told, .ref a_P1_past, .int v_P1_pastCount])), (a_P1_kinds, .inl (gI g, 6, .inl v_P1_kinds)), (a_P1_extras, .inl (gI g, 6, .inl v_P1_extras))]) (w1 := [(a_T, .inr (1, [.ref a_T_bytes, .int v_T_length, .int o2.2.1, .int o2.2.2.1, .int o2.2.2.2])), (a_T_bytes, .inl (gB g, 150, .inl v_T_bytes))]) (w2 := [(a_T, .inr (1, [.ref a_T_bytes, .int v_T_length, .int o2.2.1, .int o2.2.2.1, .int o2.2.2.2])), (a_T_bytes, .inl (gB g, 150, .inl v_T_bytes)), (a_P1, .inr (0, [.int v_P1_number, .int v_P1_enough, .int v_P1_holders, .ref a_P1_kinds, .ref a_P1_extras, .ref a_P1_factors, .int v_P1_day, .int v_P1_tries, .int v_P1_shut, .ref a_P1_told, .ref a_P1_past, .int v_P1_pastCount])), (a_P1_kinds, .inl (gI g, 6, .inl v_P1_kinds)), (a_P1_extras, .inl (gI g, 6, .inl v_P1_extras))]) (ov := some (.int o2.1)) lb_X1_nextNumber lk_X1_44 hX hB hM hO hT hE hP hD hS hA (c_X1_nextNumber l g _ a_T a_T_bytes v_T_length o1.2.1 o1.2.2.1 o1.2.2.2 v_T_bytes (0 : Int32) (96 : Int32) o2 hc) ⟨rfl, rfl⟩ ⟨Nat.le_of_ble_eq_true rfl, Nat.le_of_ble_eq_true rfl⟩ rfl rfl [0, 1] [2, 3, 4] [3, 4, 0, 1, 2] rfl rfl rfl rfl (by decide) rfl rfl rfl rfl hl.1 (Nat.le_of_ble_eq_true rfl) ⟨Nat.zero_le _, Nat.zero_le _⟩ rfl dX1_readHolder_18 (fun H locs hP hD hS => ?_)
    refine lv_istore_n (pc := 21) (lv' := [(3, .int o2.1), (2, .int o1.1), (0, .ref a_T), (1, .ref a_P1)]) hX hB dX1_readHolder_21 rfl hl (by decide) rfl (fun ls hl => ?_)
    refine lv_iload_n (pc := 22) hX hB dX1_readHolder_22 rfl (lv_at hl 0 rfl) ?_
    refine lv_iconst (pc := 23) (v := -1) hX hB dX1_readHolder_23 (by decide) ?_
    refine lv_icmp_ne (pc := 24) (tgt := 29) hX hB dX1_readHolder_24 (by decide) (fun hq => ?_) (fun hq => ?_)
    · have hf := zs_in hf hq
      refine lv_aload_n (pc := 29) hX hB dX1_readHolder_29 rfl (lv_at hl 3 rfl) ?_
      refine lv_iload_n (pc := 30) hX hB dX1_readHolder_30 rfl (lv_at hl 1 rfl) ?_
      refine lv_iload_n (pc := 31) hX hB dX1_readHolder_31 rfl (lv_at hl 0 rfl) ?_
      obtain ⟨o3, hc, hf⟩ := zs_bind hf
      refine zs_V (q := (RX0, TX0, 12)) (ci := 0) (q0 := 2) (b := a_P1) (pc := 32) (As := [.int o1.1, .int o2.1]) (rest := []) (st1 := []) (wc := [(a_P1, .inr (0, [.int v_P1_number, .int v_P1_enough, .int v_P1_holders, .ref a_P1_kinds, .ref a_P1_extras, .ref a_P1_factors, .int v_P1_day, .int v_P1_tries, .int v_P1_shut, .ref a_P1_told, .ref a_P1_past, .int v_P1_pastCount])), (a_P1_kinds, .inl (gI g, 6, .inl v_P1_kinds)), (a_P1_extras, .inl (gI g, 6, .inl v_P1_extras))]) (wr := [(a_T, .inr (1, [.ref a_T_bytes, .int v_T_length, .int o2.2.1, .int o2.2.2.1, .int o2.2.2.2])), (a_T_bytes, .inl (gB g, 150, .inl v_T_bytes))]) (w1 := [(a_P1, .inr (0, [.int v_P1_number, .int v_P1_enough, .int o3.1, .ref a_P1_kinds, .ref a_P1_extras, .ref a_P1_factors, .int v_P1_day, .int v_P1_tries, .int v_P1_shut, .ref a_P1_told, .ref a_P1_past, .int v_P1_pastCount])), (a_P1_kinds, .inl (gI g, 6, .inl o3.2.1)), (a_P1_extras, .inl (gI g, 6, .inl o3.2.2))]) (w2 := [(a_T, .inr (1, [.ref a_T_bytes, .int v_T_length, .int o2.2.1, .int o2.2.2.1, .int o2.2.2.2])), (a_T_bytes, .inl (gB g, 150, .inl v_T_bytes)), (a_P1, .inr (0, [.int v_P1_number, .int v_P1_enough, .int o3.1, .ref a_P1_kinds, .ref a_P1_extras, .ref a_P1_factors, .int v_P1_day, .int v_P1_tries, .int v_P1_shut, .ref a_P1_told, .ref a_P1_past, .int v_P1_pastCount])), (a_P1_kinds, .inl (gI g, 6, .inl o3.2.1)), (a_P1_extras, .inl (gI g, 6, .inl o3.2.2))]) (ov := none) lb_X0_addHolder lk_X1_74 hX hB hM hO hT hE hP hD hS hA (c_X0_addHolder l g _ a_P1 a_P1_factors a_P1_told a_P1_past a_P1_kinds a_P1_extras v_P1_number v_P1_enough v_P1_holders v_P1_day v_P1_tries v_P1_shut v_P1_pastCount v_P1_kinds v_P1_extras o1.1 o2.1 o3 hc) ⟨rfl, rfl⟩ ⟨Nat.le_of_ble_eq_true rfl, Nat.le_of_ble_eq_true rfl⟩ rfl rfl [2, 3, 4] [0, 1] [0, 1, 2, 3, 4] rfl rfl rfl rfl (by decide) rfl rfl rfl rfl hl.1 (Nat.le_of_ble_eq_true rfl) ⟨Nat.zero_le _, Nat.zero_le _⟩ rfl dX1_readHolder_32 (fun H locs hP hD hS => ?_)
      refine lv_aload_n (pc := 35) hX hB dX1_readHolder_35 rfl (lv_at hl 2 rfl) ?_
      obtain ⟨o4, hc, hf⟩ := zs_bind hf
      refine zs_V (q := (RX1, TX1, 5)) (ci := 1) (q0 := 0) (b := a_T) (pc := 36) (As := []) (rest := []) (st1 := [.int o4.1]) (wc := [(a_T, .inr (1, [.ref a_T_bytes, .int v_T_length, .int o2.2.1, .int o2.2.2.1, .int o2.2.2.2])), (a_T_bytes, .inl (gB g, 150, .inl v_T_bytes))]) (wr := [(a_P1, .inr (0, [.int v_P1_number, .int v_P1_enough, .int o3.1, .ref a_P1_kinds, .ref a_P1_extras, .ref a_P1_factors, .int v_P1_day, .int v_P1_tries, .int v_P1_shut, .ref a_P1_told, .ref a_P1_past, .int v_P1_pastCount])), (a_P1_kinds, .inl (gI g, 6, .inl o3.2.1)), (a_P1_extras, .inl (gI g, 6, .inl o3.2.2))]) (w1 := [(a_T, .inr (1, [.ref a_T_bytes, .int v_T_length, .int o4.2.1, .int o4.2.2.1, .int o4.2.2.2])), (a_T_bytes, .inl (gB g, 150, .inl v_T_bytes))]) (w2 := [(a_T, .inr (1, [.ref a_T_bytes, .int v_T_length, .int o4.2.1, .int o4.2.2.1, .int o4.2.2.2])), (a_T_bytes, .inl (gB g, 150, .inl v_T_bytes)), (a_P1, .inr (0, [.int v_P1_number, .int v_P1_enough, .int o3.1, .ref a_P1_kinds, .ref a_P1_extras, .ref a_P1_factors, .int v_P1_day, .int v_P1_tries, .int v_P1_shut, .ref a_P1_told, .ref a_P1_past, .int v_P1_pastCount])), (a_P1_kinds, .inl (gI g, 6, .inl o3.2.1)), (a_P1_extras, .inl (gI g, 6, .inl o3.2.2))]) (ov := some (.int o4.1)) lb_X1_nextIsStop lk_X1_54 hX hB hM hO hT hE hP hD hS hA (c_X1_nextIsStop l g _ a_T a_T_bytes v_T_length o2.2.1 o2.2.2.1 o2.2.2.2 v_T_bytes o4 hc) ⟨rfl, rfl⟩ ⟨Nat.le_of_ble_eq_true rfl, Nat.le_of_ble_eq_true rfl⟩ rfl rfl [0, 1] [2, 3, 4] [3, 4, 0, 1, 2] rfl rfl rfl rfl (by decide) rfl rfl rfl rfl hl.1 (Nat.le_of_ble_eq_true rfl) ⟨Nat.zero_le _, Nat.zero_le _⟩ rfl dX1_readHolder_36 (fun H locs hP hD hS => ?_)
      obtain ⟨hg, hf⟩ := zs_gd hf
      obtain rfl := Option.some.inj hf
      exact zs_zret (v := o4.1) (pc := 39) hX hB hR hK (zs_bz hg).1 hP hD hS dX1_readHolder_39
    · have hf := zs_ip hf hq
      refine lv_iconst (pc := 27) (v := 0) hX hB dX1_readHolder_27 (by decide) ?_
      obtain rfl := Option.some.inj hf
      exact zs_zret (v := (0 : Int32)) (pc := 28) hX hB hR hK rfl hP hD hS dX1_readHolder_28
  · have hf := zs_ip hf hq
    refine lv_iconst (pc := 12) (v := 0) hX hB dX1_readHolder_12 (by decide) ?_
    obtain rfl := Option.some.inj hf
    exact zs_zret (v := (0 : Int32)) (pc := 13) hX hB hR hK rfl hP hD hS dX1_readHolder_13

def f_X1_readOtherItem (v_T_length : Int32) (v_T_tokenStart : Int32) (v_T_tokenEnd : Int32) (v_T_token : Int32) (v_T_bytes : Nat → Int32) (v_P1_holders : Int32) (v_P1_kinds : Nat → Int32) (v_P1_extras : Nat → Int32) (v_P1_factors : Nat → Int32) : Option (Int32 × Int32 × Int32 × Int32 × Int32 × (Nat → Int32) × (Nat → Int32) × (Nat → Int32)) :=
  (f_X1_isWord v_T_tokenStart v_T_tokenEnd v_T_token v_T_bytes 1).bind (fun o1 => if o1 = (0 : Int32) then ((f_X1_isWord v_T_tokenStart v_T_tokenEnd v_T_token v_T_bytes 2).bind (fun o2 => if o2 = (0 : Int32) then (some ((0 : Int32), v_T_tokenStart, v_T_tokenEnd, v_T_token, v_P1_holders, v_P1_kinds, v_P1_extras, v_P1_factors)) else ((f_X0_isFull v_P1_holders).bind (fun o3 => if o3 = (0 : Int32) then ((f_X1_readHolder v_T_length v_T_tokenStart v_T_tokenEnd v_T_token v_T_bytes v_P1_holders v_P1_kinds v_P1_extras).bind (fun o4 => if o4.1 = (0 : Int32) then (some ((0 : Int32), o4.2.1, o4.2.2.1, o4.2.2.2.1, o4.2.2.2.2.1, o4.2.2.2.2.2.1, o4.2.2.2.2.2.2, v_P1_factors)) else (some ((1 : Int32), o4.2.1, o4.2.2.1, o4.2.2.2.1, o4.2.2.2.2.1, o4.2.2.2.2.2.1, o4.2.2.2.2.2.2, v_P1_factors)))) else (some ((0 : Int32), v_T_tokenStart, v_T_tokenEnd, v_T_token, v_P1_holders, v_P1_kinds, v_P1_extras, v_P1_factors)))))) else ((f_X1_readWay v_T_length v_T_tokenStart v_T_tokenEnd v_T_token v_T_bytes v_P1_factors).bind (fun o5 => gd (bz o5.1) (some (o5.1, o5.2.1, o5.2.2.1, o5.2.2.2.1, v_P1_holders, v_P1_kinds, v_P1_extras, o5.2.2.2.2)))))
set_option maxHeartbeats 4000000 in
set_option maxRecDepth 100000 in
theorem c_X1_readOtherItem (l : Launch) (g : GG) (sz : Nat) (a_T a_T_bytes a_P1 a_P1_told a_P1_past a_P1_kinds a_P1_extras a_P1_factors : Nat) (v_T_length : Int32) (v_T_tokenStart : Int32) (v_T_tokenEnd : Int32) (v_T_token : Int32) (v_T_bytes : Nat → Int32) (v_P1_number : Int32) (v_P1_enough : Int32) (v_P1_holders : Int32) (v_P1_day : Int32) (v_P1_tries : Int32) (v_P1_shut : Int32) (v_P1_pastCount : Int32) (v_P1_kinds : Nat → Int32) (v_P1_extras : Nat → Int32) (v_P1_factors : Nat → Int32) (o : Int32 × Int32 × Int32 × Int32 × Int32 × (Nat → Int32) × (Nat → Int32) × (Nat → Int32)) (hf : f_X1_readOtherItem v_T_length v_T_tokenStart v_T_tokenEnd v_T_token v_T_bytes v_P1_holders v_P1_kinds v_P1_extras v_P1_factors = some o) : Met l yX1_readOtherItem (Cond.code yX1_readOtherItem cX1_readOtherItem 2 (some .boolean) :: TB) { frames := 5, cells := 0, slots := 0, locals := 107 } (Pst g [(a_T, .inr (1, [.ref a_T_bytes, .int v_T_length, .int v_T_tokenStart, .int v_T_tokenEnd, .int v_T_token])), (a_T_bytes, .inl (gB g, 150, .inl v_T_bytes)), (a_P1, .inr (0, [.int v_P1_number, .int v_P1_enough, .int v_P1_holders, .ref a_P1_kinds, .ref a_P1_extras, .ref a_P1_factors, .int v_P1_day, .int v_P1_tries, .int v_P1_shut, .ref a_P1_told, .ref a_P1_past, .int v_P1_pastCount])), (a_P1_kinds, .inl (gI g, 6, .inl v_P1_kinds)), (a_P1_extras, .inl (gI g, 6, .inl v_P1_extras)), (a_P1_factors, .inl (gI g, 3, .inl v_P1_factors))] [.ref a_T, .ref a_P1] sz) (Qst g [(a_T, .inr (1, [.ref a_T_bytes, .int v_T_length, .int o.2.1, .int o.2.2.1, .int o.2.2.2.1])), (a_T_bytes, .inl (gB g, 150, .inl v_T_bytes)), (a_P1, .inr (0, [.int v_P1_number, .int v_P1_enough, .int o.2.2.2.2.1, .ref a_P1_kinds, .ref a_P1_extras, .ref a_P1_factors, .int v_P1_day, .int v_P1_tries, .int v_P1_shut, .ref a_P1_told, .ref a_P1_past, .int v_P1_pastCount])), (a_P1_kinds, .inl (gI g, 6, .inl o.2.2.2.2.2.1)), (a_P1_extras, .inl (gI g, 6, .inl o.2.2.2.2.2.2.1)), (a_P1_factors, .inl (gI g, 3, .inl o.2.2.2.2.2.2.2))] (some (.int o.1)) (va_A [(a_T, .inr (1, [.ref a_T_bytes, .int v_T_length, .int v_T_tokenStart, .int v_T_tokenEnd, .int v_T_token])), (a_T_bytes, .inl (gB g, 150, .inl v_T_bytes)), (a_P1, .inr (0, [.int v_P1_number, .int v_P1_enough, .int v_P1_holders, .ref a_P1_kinds, .ref a_P1_extras, .ref a_P1_factors, .int v_P1_day, .int v_P1_tries, .int v_P1_shut, .ref a_P1_told, .ref a_P1_past, .int v_P1_pastCount])), (a_P1_kinds, .inl (gI g, 6, .inl v_P1_kinds)), (a_P1_extras, .inl (gI g, 6, .inl v_P1_extras)), (a_P1_factors, .inl (gI g, 3, .inl v_P1_factors))] sz)) 0 0 (va_A [(a_T, .inr (1, [.ref a_T_bytes, .int v_T_length, .int v_T_tokenStart, .int v_T_tokenEnd, .int v_T_token])), (a_T_bytes, .inl (gB g, 150, .inl v_T_bytes)), (a_P1, .inr (0, [.int v_P1_number, .int v_P1_enough, .int v_P1_holders, .ref a_P1_kinds, .ref a_P1_extras, .ref a_P1_factors, .int v_P1_day, .int v_P1_tries, .int v_P1_shut, .ref a_P1_told, .ref a_P1_past, .int v_P1_pastCount])), (a_P1_kinds, .inl (gI g, 6, .inl v_P1_kinds)), (a_P1_extras, .inl (gI g, 6, .inl v_P1_extras)), (a_P1_factors, .inl (gI g, 3, .inl v_P1_factors))] sz) := by
  unfold f_X1_readOtherItem at hf
  refine zs_met (own := RX1) (plainFor_of_name (by decide)) rfl (Nat.le_of_ble_eq_true rfl) ?_
  intro p e s m below meth c A ls hX hB hR hM hT hO hK hN hA hE hP hD hS hl
  have hl : lv_has ls 2 [(0, .ref a_T), (1, .ref a_P1)] := hl
  refine lv_aload_n (pc := 0) hX hB dX1_readOtherItem_0 rfl (lv_at hl 0 rfl) ?_
  refine va_ldcS (pc := 1) hX hB hO hE.2.2.2.2.2.2.2.2.1 dX1_readOtherItem_1 ?_
  obtain ⟨o1, hc, hf⟩ := zs_bind hf
  refine zs_V (q := (RX1, TX1, 5)) (ci := 1) (q0 := 0) (b := a_T) (pc := 3) (As := [.ref (gK g 1)]) (rest := []) (st1 := [.int o1]) (wc := [(a_T, .inr (1, [.ref a_T_bytes, .int v_T_length, .int v_T_tokenStart, .int v_T_tokenEnd, .int v_T_token])), (a_T_bytes, .inl (gB g, 150, .inl v_T_bytes))]) (wr := [(a_P1, .inr (0, [.int v_P1_number, .int v_P1_enough, .int v_P1_holders, .ref a_P1_kinds, .ref a_P1_extras, .ref a_P1_factors, .int v_P1_day, .int v_P1_tries, .int v_P1_shut, .ref a_P1_told, .ref a_P1_past, .int v_P1_pastCount])), (a_P1_kinds, .inl (gI g, 6, .inl v_P1_kinds)), (a_P1_extras, .inl (gI g, 6, .inl v_P1_extras)), (a_P1_factors, .inl (gI g, 3, .inl v_P1_factors))]) (w1 := [(a_T, .inr (1, [.ref a_T_bytes, .int v_T_length, .int v_T_tokenStart, .int v_T_tokenEnd, .int v_T_token])), (a_T_bytes, .inl (gB g, 150, .inl v_T_bytes))]) (w2 := [(a_T, .inr (1, [.ref a_T_bytes, .int v_T_length, .int v_T_tokenStart, .int v_T_tokenEnd, .int v_T_token])), (a_T_bytes, .inl (gB g, 150, .inl v_T_bytes)), (a_P1, .inr (0, [.int v_P1_number, .int v_P1_enough, .int v_P1_holders, .ref a_P1_kinds, .ref a_P1_extras, .ref a_P1_factors, .int v_P1_day, .int v_P1_tries, .int v_P1_shut, .ref a_P1_told, .ref a_P1_past, .int v_P1_pastCount])), (a_P1_kinds, .inl (gI g, 6, .inl v_P1_kinds)), (a_P1_extras, .inl (gI g, 6, .inl v_P1_extras)), (a_P1_factors, .inl (gI g, 3, .inl v_P1_factors))]) (ov := some (.int o1)) lb_X1_isWord lk_X1_40 hX hB hM hO hT hE hP hD hS hA (c_X1_isWord l g _ a_T a_T_bytes v_T_length v_T_tokenStart v_T_tokenEnd v_T_token v_T_bytes 1 o1 hc) ⟨rfl, rfl⟩ ⟨Nat.le_of_ble_eq_true rfl, Nat.le_of_ble_eq_true rfl⟩ rfl rfl [0, 1] [2, 3, 4, 5] [4, 5, 0, 1, 2, 3] rfl rfl rfl rfl (by decide) rfl rfl rfl rfl hl.1 (Nat.le_of_ble_eq_true rfl) ⟨Nat.zero_le _, Nat.zero_le _⟩ rfl dX1_readOtherItem_3 (fun H locs hP hD hS => ?_)
  refine lv_if_eq (pc := 6) (tgt := 15) hX hB dX1_readOtherItem_6 (by decide) (fun hq => ?_) (fun hq => ?_)
  · have hf := zs_ip hf hq
    refine lv_aload_n (pc := 15) hX hB dX1_readOtherItem_15 rfl (lv_at hl 0 rfl) ?_
    refine va_ldcS (pc := 16) hX hB hO hE.2.2.2.2.2.2.2.2.2 dX1_readOtherItem_16 ?_
    obtain ⟨o2, hc, hf⟩ := zs_bind hf
    refine zs_V (q := (RX1, TX1, 5)) (ci := 1) (q0 := 0) (b := a_T) (pc := 18) (As := [.ref (gK g 2)]) (rest := []) (st1 := [.int o2]) (wc := [(a_T, .inr (1, [.ref a_T_bytes, .int v_T_length, .int v_T_tokenStart, .int v_T_tokenEnd, .int v_T_token])), (a_T_bytes, .inl (gB g, 150, .inl v_T_bytes))]) (wr := [(a_P1, .inr (0, [.int v_P1_number, .int v_P1_enough, .int v_P1_holders, .ref a_P1_kinds, .ref a_P1_extras, .ref a_P1_factors, .int v_P1_day, .int v_P1_tries, .int v_P1_shut, .ref a_P1_told, .ref a_P1_past, .int v_P1_pastCount])), (a_P1_kinds, .inl (gI g, 6, .inl v_P1_kinds)), (a_P1_extras, .inl (gI g, 6, .inl v_P1_extras)), (a_P1_factors, .inl (gI g, 3, .inl v_P1_factors))]) (w1 := [(a_T, .inr (1, [.ref a_T_bytes, .int v_T_length, .int v_T_tokenStart, .int v_T_tokenEnd, .int v_T_token])), (a_T_bytes, .inl (gB g, 150, .inl v_T_bytes))]) (w2 := [(a_T, .inr (1, [.ref a_T_bytes, .int v_T_length, .int v_T_tokenStart, .int v_T_tokenEnd, .int v_T_token])), (a_T_bytes, .inl (gB g, 150, .inl v_T_bytes)), (a_P1, .inr (0, [.int v_P1_number, .int v_P1_enough, .int v_P1_holders, .ref a_P1_kinds, .ref a_P1_extras, .ref a_P1_factors, .int v_P1_day, .int v_P1_tries, .int v_P1_shut, .ref a_P1_told, .ref a_P1_past, .int v_P1_pastCount])), (a_P1_kinds, .inl (gI g, 6, .inl v_P1_kinds)), (a_P1_extras, .inl (gI g, 6, .inl v_P1_extras)), (a_P1_factors, .inl (gI g, 3, .inl v_P1_factors))]) (ov := some (.int o2)) lb_X1_isWord lk_X1_40 hX hB hM hO hT hE hP hD hS hA (c_X1_isWord l g _ a_T a_T_bytes v_T_length v_T_tokenStart v_T_tokenEnd v_T_token v_T_bytes 2 o2 hc) ⟨rfl, rfl⟩ ⟨Nat.le_of_ble_eq_true rfl, Nat.le_of_ble_eq_true rfl⟩ rfl rfl [0, 1] [2, 3, 4, 5] [4, 5, 0, 1, 2, 3] rfl rfl rfl rfl (by decide) rfl rfl rfl rfl hl.1 (Nat.le_of_ble_eq_true rfl) ⟨Nat.zero_le _, Nat.zero_le _⟩ rfl dX1_readOtherItem_18 (fun H locs hP hD hS => ?_)
    refine lv_if_eq (pc := 21) (tgt := 43) hX hB dX1_readOtherItem_21 (by decide) (fun hq => ?_) (fun hq => ?_)
    · have hf := zs_ip hf hq
      refine lv_iconst (pc := 43) (v := 0) hX hB dX1_readOtherItem_43 (by decide) ?_
      obtain rfl := Option.some.inj hf
      exact zs_zret (v := (0 : Int32)) (pc := 44) hX hB hR hK rfl hP hD hS dX1_readOtherItem_44
    · have hf := zs_in hf hq
      refine lv_aload_n (pc := 24) hX hB dX1_readOtherItem_24 rfl (lv_at hl 1 rfl) ?_
      obtain ⟨o3, hc, hf⟩ := zs_bind hf
      refine zs_V (q := (RX0, TX0, 12)) (ci := 0) (q0 := 2) (b := a_P1) (pc := 25) (As := []) (rest := []) (st1 := [.int o3]) (wc := [(a_P1, .inr (0, [.int v_P1_number, .int v_P1_enough, .int v_P1_holders, .ref a_P1_kinds, .ref a_P1_extras, .ref a_P1_factors, .int v_P1_day, .int v_P1_tries, .int v_P1_shut, .ref a_P1_told, .ref a_P1_past, .int v_P1_pastCount]))]) (wr := [(a_T, .inr (1, [.ref a_T_bytes, .int v_T_length, .int v_T_tokenStart, .int v_T_tokenEnd, .int v_T_token])), (a_T_bytes, .inl (gB g, 150, .inl v_T_bytes)), (a_P1_kinds, .inl (gI g, 6, .inl v_P1_kinds)), (a_P1_extras, .inl (gI g, 6, .inl v_P1_extras)), (a_P1_factors, .inl (gI g, 3, .inl v_P1_factors))]) (w1 := [(a_P1, .inr (0, [.int v_P1_number, .int v_P1_enough, .int v_P1_holders, .ref a_P1_kinds, .ref a_P1_extras, .ref a_P1_factors, .int v_P1_day, .int v_P1_tries, .int v_P1_shut, .ref a_P1_told, .ref a_P1_past, .int v_P1_pastCount]))]) (w2 := [(a_T, .inr (1, [.ref a_T_bytes, .int v_T_length, .int v_T_tokenStart, .int v_T_tokenEnd, .int v_T_token])), (a_T_bytes, .inl (gB g, 150, .inl v_T_bytes)), (a_P1, .inr (0, [.int v_P1_number, .int v_P1_enough, .int v_P1_holders, .ref a_P1_kinds, .ref a_P1_extras, .ref a_P1_factors, .int v_P1_day, .int v_P1_tries, .int v_P1_shut, .ref a_P1_told, .ref a_P1_past, .int v_P1_pastCount])), (a_P1_kinds, .inl (gI g, 6, .inl v_P1_kinds)), (a_P1_extras, .inl (gI g, 6, .inl v_P1_extras)), (a_P1_factors, .inl (gI g, 3, .inl v_P1_factors))]) (ov := some (.int o3)) lb_X0_isFull lk_X1_65 hX hB hM hO hT hE hP hD hS hA (c_X0_isFull l g _ a_P1 a_P1_kinds a_P1_extras a_P1_factors a_P1_told a_P1_past v_P1_number v_P1_enough v_P1_holders v_P1_day v_P1_tries v_P1_shut v_P1_pastCount o3 hc) ⟨rfl, rfl⟩ ⟨Nat.le_of_ble_eq_true rfl, Nat.le_of_ble_eq_true rfl⟩ rfl rfl [2] [0, 1, 3, 4, 5] [0, 1, 5, 2, 3, 4] rfl rfl rfl rfl (by decide) rfl rfl rfl rfl hl.1 (Nat.le_of_ble_eq_true rfl) ⟨Nat.zero_le _, Nat.zero_le _⟩ rfl dX1_readOtherItem_25 (fun H locs hP hD hS => ?_)
      refine lv_if_ne (pc := 28) (tgt := 43) hX hB dX1_readOtherItem_28 (by decide) (fun hq => ?_) (fun hq => ?_)
      · have hf := zs_in hf hq
        refine lv_iconst (pc := 43) (v := 0) hX hB dX1_readOtherItem_43 (by decide) ?_
        obtain rfl := Option.some.inj hf
        exact zs_zret (v := (0 : Int32)) (pc := 44) hX hB hR hK rfl hP hD hS dX1_readOtherItem_44
      · have hf := zs_ip hf hq
        refine lv_aload_n (pc := 31) hX hB dX1_readOtherItem_31 rfl (lv_at hl 0 rfl) ?_
        refine lv_aload_n (pc := 32) hX hB dX1_readOtherItem_32 rfl (lv_at hl 1 rfl) ?_
        obtain ⟨o4, hc, hf⟩ := zs_bind hf
        refine zs_V (q := (RX1, TX1, 5)) (ci := 1) (q0 := 0) (b := a_T) (pc := 33) (As := [.ref a_P1]) (rest := []) (st1 := [.int o4.1]) (wc := [(a_T, .inr (1, [.ref a_T_bytes, .int v_T_length, .int v_T_tokenStart, .int v_T_tokenEnd, .int v_T_token])), (a_T_bytes, .inl (gB g, 150, .inl v_T_bytes)), (a_P1, .inr (0, [.int v_P1_number, .int v_P1_enough, .int v_P1_holders, .ref a_P1_kinds, .ref a_P1_extras, .ref a_P1_factors, .int v_P1_day, .int v_P1_tries, .int v_P1_shut, .ref a_P1_told, .ref a_P1_past, .int v_P1_pastCount])), (a_P1_kinds, .inl (gI g, 6, .inl v_P1_kinds)), (a_P1_extras, .inl (gI g, 6, .inl v_P1_extras))]) (wr := [(a_P1_factors, .inl (gI g, 3, .inl v_P1_factors))]) (w1 := [(a_T, .inr (1, [.ref a_T_bytes, .int v_T_length, .int o4.2.1, .int o4.2.2.1, .int o4.2.2.2.1])), (a_T_bytes, .inl (gB g, 150, .inl v_T_bytes)), (a_P1, .inr (0, [.int v_P1_number, .int v_P1_enough, .int o4.2.2.2.2.1, .ref a_P1_kinds, .ref a_P1_extras, .ref a_P1_factors, .int v_P1_day, .int v_P1_tries, .int v_P1_shut, .ref a_P1_told, .ref a_P1_past, .int v_P1_pastCount])), (a_P1_kinds, .inl (gI g, 6, .inl o4.2.2.2.2.2.1)), (a_P1_extras, .inl (gI g, 6, .inl o4.2.2.2.2.2.2))]) (w2 := [(a_T, .inr (1, [.ref a_T_bytes, .int v_T_length, .int o4.2.1, .int o4.2.2.1, .int o4.2.2.2.1])), (a_T_bytes, .inl (gB g, 150, .inl v_T_bytes)), (a_P1, .inr (0, [.int v_P1_number, .int v_P1_enough, .int o4.2.2.2.2.1, .ref a_P1_kinds, .ref a_P1_extras, .ref a_P1_factors, .int v_P1_day, .int v_P1_tries, .int v_P1_shut, .ref a_P1_told, .ref a_P1_past, .int v_P1_pastCount])), (a_P1_kinds, .inl (gI g, 6, .inl o4.2.2.2.2.2.1)), (a_P1_extras, .inl (gI g, 6, .inl o4.2.2.2.2.2.2)), (a_P1_factors, .inl (gI g, 3, .inl v_P1_factors))]) (ov := some (.int o4.1)) lb_X1_readHolder lk_X1_68 hX hB hM hO hT hE hP hD hS hA (c_X1_readHolder l g _ a_T a_T_bytes a_P1 a_P1_factors a_P1_told a_P1_past a_P1_kinds a_P1_extras v_T_length v_T_tokenStart v_T_tokenEnd v_T_token v_T_bytes v_P1_number v_P1_enough v_P1_holders v_P1_day v_P1_tries v_P1_shut v_P1_pastCount v_P1_kinds v_P1_extras o4 hc) ⟨rfl, rfl⟩ ⟨Nat.le_of_ble_eq_true rfl, Nat.le_of_ble_eq_true rfl⟩ rfl rfl [0, 1, 2, 3, 4] [5] [1, 2, 3, 4, 5, 0] rfl rfl rfl rfl (by decide) rfl rfl rfl rfl hl.1 (Nat.le_of_ble_eq_true rfl) ⟨Nat.zero_le _, Nat.zero_le _⟩ rfl dX1_readOtherItem_33 (fun H locs hP hD hS => ?_)
        refine lv_if_eq (pc := 36) (tgt := 43) hX hB dX1_readOtherItem_36 (by decide) (fun hq => ?_) (fun hq => ?_)
        · have hf := zs_ip hf hq
          refine lv_iconst (pc := 43) (v := 0) hX hB dX1_readOtherItem_43 (by decide) ?_
          obtain rfl := Option.some.inj hf
          exact zs_zret (v := (0 : Int32)) (pc := 44) hX hB hR hK rfl hP hD hS dX1_readOtherItem_44
        · have hf := zs_in hf hq
          refine lv_iconst (pc := 39) (v := 1) hX hB dX1_readOtherItem_39 (by decide) ?_
          refine lv_goto (pc := 40) (tgt := 44) hX hB dX1_readOtherItem_40 (by decide) ?_
          obtain rfl := Option.some.inj hf
          exact zs_zret (v := (1 : Int32)) (pc := 44) hX hB hR hK rfl hP hD hS dX1_readOtherItem_44
  · have hf := zs_in hf hq
    refine lv_aload_n (pc := 9) hX hB dX1_readOtherItem_9 rfl (lv_at hl 0 rfl) ?_
    refine lv_aload_n (pc := 10) hX hB dX1_readOtherItem_10 rfl (lv_at hl 1 rfl) ?_
    obtain ⟨o5, hc, hf⟩ := zs_bind hf
    refine zs_V (q := (RX1, TX1, 5)) (ci := 1) (q0 := 0) (b := a_T) (pc := 11) (As := [.ref a_P1]) (rest := []) (st1 := [.int o5.1]) (wc := [(a_T, .inr (1, [.ref a_T_bytes, .int v_T_length, .int v_T_tokenStart, .int v_T_tokenEnd, .int v_T_token])), (a_T_bytes, .inl (gB g, 150, .inl v_T_bytes)), (a_P1, .inr (0, [.int v_P1_number, .int v_P1_enough, .int v_P1_holders, .ref a_P1_kinds, .ref a_P1_extras, .ref a_P1_factors, .int v_P1_day, .int v_P1_tries, .int v_P1_shut, .ref a_P1_told, .ref a_P1_past, .int v_P1_pastCount])), (a_P1_factors, .inl (gI g, 3, .inl v_P1_factors))]) (wr := [(a_P1_kinds, .inl (gI g, 6, .inl v_P1_kinds)), (a_P1_extras, .inl (gI g, 6, .inl v_P1_extras))]) (w1 := [(a_T, .inr (1, [.ref a_T_bytes, .int v_T_length, .int o5.2.1, .int o5.2.2.1, .int o5.2.2.2.1])), (a_T_bytes, .inl (gB g, 150, .inl v_T_bytes)), (a_P1, .inr (0, [.int v_P1_number, .int v_P1_enough, .int v_P1_holders, .ref a_P1_kinds, .ref a_P1_extras, .ref a_P1_factors, .int v_P1_day, .int v_P1_tries, .int v_P1_shut, .ref a_P1_told, .ref a_P1_past, .int v_P1_pastCount])), (a_P1_factors, .inl (gI g, 3, .inl o5.2.2.2.2))]) (w2 := [(a_T, .inr (1, [.ref a_T_bytes, .int v_T_length, .int o5.2.1, .int o5.2.2.1, .int o5.2.2.2.1])), (a_T_bytes, .inl (gB g, 150, .inl v_T_bytes)), (a_P1, .inr (0, [.int v_P1_number, .int v_P1_enough, .int v_P1_holders, .ref a_P1_kinds, .ref a_P1_extras, .ref a_P1_factors, .int v_P1_day, .int v_P1_tries, .int v_P1_shut, .ref a_P1_told, .ref a_P1_past, .int v_P1_pastCount])), (a_P1_kinds, .inl (gI g, 6, .inl v_P1_kinds)), (a_P1_extras, .inl (gI g, 6, .inl v_P1_extras)), (a_P1_factors, .inl (gI g, 3, .inl o5.2.2.2.2))]) (ov := some (.int o5.1)) lb_X1_readWay lk_X1_60 hX hB hM hO hT hE hP hD hS hA (c_X1_readWay l g _ a_T a_T_bytes a_P1 a_P1_kinds a_P1_extras a_P1_told a_P1_past a_P1_factors v_T_length v_T_tokenStart v_T_tokenEnd v_T_token v_T_bytes v_P1_number v_P1_enough v_P1_holders v_P1_day v_P1_tries v_P1_shut v_P1_pastCount v_P1_factors o5 hc) ⟨rfl, rfl⟩ ⟨Nat.le_of_ble_eq_true rfl, Nat.le_of_ble_eq_true rfl⟩ rfl rfl [0, 1, 2, 5] [3, 4] [2, 3, 4, 0, 1, 5] rfl rfl rfl rfl (by decide) rfl rfl rfl rfl hl.1 (Nat.le_of_ble_eq_true rfl) ⟨Nat.zero_le _, Nat.zero_le _⟩ rfl dX1_readOtherItem_11 (fun H locs hP hD hS => ?_)
    obtain ⟨hg, hf⟩ := zs_gd hf
    obtain rfl := Option.some.inj hf
    exact zs_zret (v := o5.1) (pc := 14) hX hB hR hK (zs_bz hg).1 hP hD hS dX1_readOtherItem_14

def b_X1_parseInto_23 (v_T_length : Int32) (v_T_bytes : Nat → Int32) (o1 : Int32 × Int32 × Int32 × Int32 × Int32 × Int32 × Int32 × Int32 × Int32 × Int32 × Int32 × (Nat → Int32) × (Nat → Int32)) (x3 : Int32 × Int32 × Int32 × Int32 × Int32 × Int32 × (Nat → Int32) × (Nat → Int32) × (Nat → Int32)) : Option ((Int32 × Int32 × Int32 × Int32 × Int32 × Int32 × (Nat → Int32) × (Nat → Int32) × (Nat → Int32)) ⊕ ((Int32 × Int32 × Int32 × Int32 × Int32 × (Nat → Int32) × (Nat → Int32) × (Nat → Int32)) ⊕ (Int32 × Int32 × Int32 × Int32 × Int32 × Int32 × Int32 × Int32 × Int32 × Int32 × Int32 × (Nat → Int32) × (Nat → Int32) × (Nat → Int32) × (Nat → Int32)))) :=
  if (150 : Int32) ≤ x3.2.1 then (some (Sum.inr (Sum.inl (x3.1, x3.2.2.1, x3.2.2.2.1, x3.2.2.2.2.1, x3.2.2.2.2.2.1, x3.2.2.2.2.2.2.1, x3.2.2.2.2.2.2.2.1, x3.2.2.2.2.2.2.2.2)))) else (if x3.2.2.2.2.1 = (0 : Int32) then (some (Sum.inr (Sum.inl (x3.1, x3.2.2.1, x3.2.2.2.1, x3.2.2.2.2.1, x3.2.2.2.2.2.1, x3.2.2.2.2.2.2.1, x3.2.2.2.2.2.2.2.1, x3.2.2.2.2.2.2.2.2)))) else ((f_X1_readOtherItem v_T_length x3.2.2.1 x3.2.2.2.1 x3.2.2.2.2.1 v_T_bytes x3.2.2.2.2.2.1 x3.2.2.2.2.2.2.1 x3.2.2.2.2.2.2.2.1 x3.2.2.2.2.2.2.2.2).bind (fun o6 => if o6.1 = (0 : Int32) then (some (Sum.inr (Sum.inr ((-1 : Int32), o6.2.1, o6.2.2.1, o6.2.2.2.1, o1.2.2.2.2.1, o1.2.2.2.2.2.1, o6.2.2.2.2.1, o1.2.2.2.2.2.2.2.1, o1.2.2.2.2.2.2.2.2.1, o1.2.2.2.2.2.2.2.2.2.1, o1.2.2.2.2.2.2.2.2.2.2.1, o6.2.2.2.2.2.1, o6.2.2.2.2.2.2.1, o6.2.2.2.2.2.2.2, o1.2.2.2.2.2.2.2.2.2.2.2.2)))) else ((f_X1_nextToken v_T_length o6.2.1 o6.2.2.1 o6.2.2.2.1 v_T_bytes).bind (fun o7 => some (Sum.inl (x3.1 + (1 : Int32), x3.2.1 + (1 : Int32), o7.1, o7.2.1, o7.2.2, o6.2.2.2.2.1, o6.2.2.2.2.2.1, o6.2.2.2.2.2.2.1, o6.2.2.2.2.2.2.2)))))))
def f_X1_parseInto (v_T_length : Int32) (v_T_tokenStart : Int32) (v_T_tokenEnd : Int32) (v_T_token : Int32) (v_T_bytes : Nat → Int32) (v_P1_number : Int32) (v_P1_enough : Int32) (v_P1_holders : Int32) (v_P1_day : Int32) (v_P1_tries : Int32) (v_P1_shut : Int32) (v_P1_pastCount : Int32) (v_P1_kinds : Nat → Int32) (v_P1_extras : Nat → Int32) (v_P1_factors : Nat → Int32) (v_P1_told_numbers : Nat → Int32) : Option (Int32 × Int32 × Int32 × Int32 × Int32 × Int32 × Int32 × Int32 × Int32 × Int32 × Int32 × (Nat → Int32) × (Nat → Int32) × (Nat → Int32) × (Nat → Int32)) :=
  (f_X1_readSafeItem v_T_length v_T_tokenStart (0 : Int32) v_T_token v_T_bytes v_P1_number v_P1_enough v_P1_holders v_P1_day v_P1_tries v_P1_shut v_P1_pastCount v_P1_factors v_P1_told_numbers).bind (fun o1 => if o1.1 = (0 : Int32) then (some ((-1 : Int32), o1.2.1, o1.2.2.1, o1.2.2.2.1, o1.2.2.2.2.1, o1.2.2.2.2.2.1, o1.2.2.2.2.2.2.1, o1.2.2.2.2.2.2.2.1, o1.2.2.2.2.2.2.2.2.1, o1.2.2.2.2.2.2.2.2.2.1, o1.2.2.2.2.2.2.2.2.2.2.1, v_P1_kinds, v_P1_extras, o1.2.2.2.2.2.2.2.2.2.2.2.1, o1.2.2.2.2.2.2.2.2.2.2.2.2)) else ((f_X1_nextToken v_T_length o1.2.1 o1.2.2.1 o1.2.2.2.1 v_T_bytes).bind (fun o2 => (lp (b_X1_parseInto_23 v_T_length v_T_bytes o1) 200 ((1 : Int32), (0 : Int32), o2.1, o2.2.1, o2.2.2, o1.2.2.2.2.2.2.1, v_P1_kinds, v_P1_extras, o1.2.2.2.2.2.2.2.2.2.2.2.1)).bind (fun y4 => Sum.elim (fun z5 => some (z5.1, z5.2.1, z5.2.2.1, z5.2.2.2.1, o1.2.2.2.2.1, o1.2.2.2.2.2.1, z5.2.2.2.2.1, o1.2.2.2.2.2.2.2.1, o1.2.2.2.2.2.2.2.2.1, o1.2.2.2.2.2.2.2.2.2.1, o1.2.2.2.2.2.2.2.2.2.2.1, z5.2.2.2.2.2.1, z5.2.2.2.2.2.2.1, z5.2.2.2.2.2.2.2, o1.2.2.2.2.2.2.2.2.2.2.2.2)) (fun r => some r) y4))))
set_option maxHeartbeats 4000000 in
set_option maxRecDepth 100000 in
theorem c_X1_parseInto (l : Launch) (g : GG) (sz : Nat) (a_T a_T_bytes a_P1 a_P1_past a_P1_kinds a_P1_extras a_P1_factors a_P1_told a_P1_told_numbers : Nat) (v_T_length : Int32) (v_T_tokenStart : Int32) (v_T_tokenEnd : Int32) (v_T_token : Int32) (v_T_bytes : Nat → Int32) (v_P1_number : Int32) (v_P1_enough : Int32) (v_P1_holders : Int32) (v_P1_day : Int32) (v_P1_tries : Int32) (v_P1_shut : Int32) (v_P1_pastCount : Int32) (v_P1_kinds : Nat → Int32) (v_P1_extras : Nat → Int32) (v_P1_factors : Nat → Int32) (v_P1_told_numbers : Nat → Int32) (o : Int32 × Int32 × Int32 × Int32 × Int32 × Int32 × Int32 × Int32 × Int32 × Int32 × Int32 × (Nat → Int32) × (Nat → Int32) × (Nat → Int32) × (Nat → Int32)) (hf : f_X1_parseInto v_T_length v_T_tokenStart v_T_tokenEnd v_T_token v_T_bytes v_P1_number v_P1_enough v_P1_holders v_P1_day v_P1_tries v_P1_shut v_P1_pastCount v_P1_kinds v_P1_extras v_P1_factors v_P1_told_numbers = some o) : Met l yX1_parseInto (Cond.code yX1_parseInto cX1_parseInto 4 (some .int) :: TB) { frames := 6, cells := 0, slots := 0, locals := 130 } (Pst g [(a_T, .inr (1, [.ref a_T_bytes, .int v_T_length, .int v_T_tokenStart, .int v_T_tokenEnd, .int v_T_token])), (a_T_bytes, .inl (gB g, 150, .inl v_T_bytes)), (a_P1, .inr (0, [.int v_P1_number, .int v_P1_enough, .int v_P1_holders, .ref a_P1_kinds, .ref a_P1_extras, .ref a_P1_factors, .int v_P1_day, .int v_P1_tries, .int v_P1_shut, .ref a_P1_told, .ref a_P1_past, .int v_P1_pastCount])), (a_P1_kinds, .inl (gI g, 6, .inl v_P1_kinds)), (a_P1_extras, .inl (gI g, 6, .inl v_P1_extras)), (a_P1_factors, .inl (gI g, 3, .inl v_P1_factors)), (a_P1_told, .inr (2, [.ref a_P1_told_numbers])), (a_P1_told_numbers, .inl (gI g, 6, .inl v_P1_told_numbers))] [.ref a_T, .ref a_P1] sz) (Qst g [(a_T, .inr (1, [.ref a_T_bytes, .int v_T_length, .int o.2.1, .int o.2.2.1, .int o.2.2.2.1])), (a_T_bytes, .inl (gB g, 150, .inl v_T_bytes)), (a_P1, .inr (0, [.int o.2.2.2.2.1, .int o.2.2.2.2.2.1, .int o.2.2.2.2.2.2.1, .ref a_P1_kinds, .ref a_P1_extras, .ref a_P1_factors, .int o.2.2.2.2.2.2.2.1, .int o.2.2.2.2.2.2.2.2.1, .int o.2.2.2.2.2.2.2.2.2.1, .ref a_P1_told, .ref a_P1_past, .int o.2.2.2.2.2.2.2.2.2.2.1])), (a_P1_kinds, .inl (gI g, 6, .inl o.2.2.2.2.2.2.2.2.2.2.2.1)), (a_P1_extras, .inl (gI g, 6, .inl o.2.2.2.2.2.2.2.2.2.2.2.2.1)), (a_P1_factors, .inl (gI g, 3, .inl o.2.2.2.2.2.2.2.2.2.2.2.2.2.1)), (a_P1_told, .inr (2, [.ref a_P1_told_numbers])), (a_P1_told_numbers, .inl (gI g, 6, .inl o.2.2.2.2.2.2.2.2.2.2.2.2.2.2))] (some (.int o.1)) (va_A [(a_T, .inr (1, [.ref a_T_bytes, .int v_T_length, .int v_T_tokenStart, .int v_T_tokenEnd, .int v_T_token])), (a_T_bytes, .inl (gB g, 150, .inl v_T_bytes)), (a_P1, .inr (0, [.int v_P1_number, .int v_P1_enough, .int v_P1_holders, .ref a_P1_kinds, .ref a_P1_extras, .ref a_P1_factors, .int v_P1_day, .int v_P1_tries, .int v_P1_shut, .ref a_P1_told, .ref a_P1_past, .int v_P1_pastCount])), (a_P1_kinds, .inl (gI g, 6, .inl v_P1_kinds)), (a_P1_extras, .inl (gI g, 6, .inl v_P1_extras)), (a_P1_factors, .inl (gI g, 3, .inl v_P1_factors)), (a_P1_told, .inr (2, [.ref a_P1_told_numbers])), (a_P1_told_numbers, .inl (gI g, 6, .inl v_P1_told_numbers))] sz)) 0 0 (va_A [(a_T, .inr (1, [.ref a_T_bytes, .int v_T_length, .int v_T_tokenStart, .int v_T_tokenEnd, .int v_T_token])), (a_T_bytes, .inl (gB g, 150, .inl v_T_bytes)), (a_P1, .inr (0, [.int v_P1_number, .int v_P1_enough, .int v_P1_holders, .ref a_P1_kinds, .ref a_P1_extras, .ref a_P1_factors, .int v_P1_day, .int v_P1_tries, .int v_P1_shut, .ref a_P1_told, .ref a_P1_past, .int v_P1_pastCount])), (a_P1_kinds, .inl (gI g, 6, .inl v_P1_kinds)), (a_P1_extras, .inl (gI g, 6, .inl v_P1_extras)), (a_P1_factors, .inl (gI g, 3, .inl v_P1_factors)), (a_P1_told, .inr (2, [.ref a_P1_told_numbers])), (a_P1_told_numbers, .inl (gI g, 6, .inl v_P1_told_numbers))] sz) := by
  unfold f_X1_parseInto at hf
  refine zs_met (own := RX1) (plainFor_of_name (by decide)) rfl (Nat.le_of_ble_eq_true rfl) ?_
  intro p e s m below meth c A ls hX hB hR hM hT hO hK hN hA hE hP hD hS hl
  have hl : lv_has ls 4 [(0, .ref a_T), (1, .ref a_P1)] := hl
  refine lv_aload_n (pc := 0) hX hB dX1_parseInto_0 rfl (lv_at hl 0 rfl) ?_
  refine lv_iconst (pc := 1) (v := 0) hX hB dX1_parseInto_1 (by decide) ?_
  refine pf_X1_22 (pc := 2) (x := (0 : Int32)) (w2 := [(a_T, .inr (1, [.ref a_T_bytes, .int v_T_length, .int v_T_tokenStart, .int (0 : Int32), .int v_T_token])), (a_T_bytes, .inl (gB g, 150, .inl v_T_bytes)), (a_P1, .inr (0, [.int v_P1_number, .int v_P1_enough, .int v_P1_holders, .ref a_P1_kinds, .ref a_P1_extras, .ref a_P1_factors, .int v_P1_day, .int v_P1_tries, .int v_P1_shut, .ref a_P1_told, .ref a_P1_past, .int v_P1_pastCount])), (a_P1_kinds, .inl (gI g, 6, .inl v_P1_kinds)), (a_P1_extras, .inl (gI g, 6, .inl v_P1_extras)), (a_P1_factors, .inl (gI g, 3, .inl v_P1_factors)), (a_P1_told, .inr (2, [.ref a_P1_told_numbers])), (a_P1_told_numbers, .inl (gI g, 6, .inl v_P1_told_numbers))]) hX hB hT hO hE hP hD hS 0 rfl (Nat.le_of_ble_eq_true rfl) rfl dX1_parseInto_2 (fun H locs hP hD hS => ?_)
  refine lv_aload_n (pc := 5) hX hB dX1_parseInto_5 rfl (lv_at hl 0 rfl) ?_
  refine lv_aload_n (pc := 6) hX hB dX1_parseInto_6 rfl (lv_at hl 1 rfl) ?_
  obtain ⟨o1, hc, hf⟩ := zs_bind hf
  refine zs_V (q := (RX1, TX1, 5)) (ci := 1) (q0 := 0) (b := a_T) (pc := 7) (As := [.ref a_P1]) (rest := []) (st1 := [.int o1.1]) (wc := [(a_T, .inr (1, [.ref a_T_bytes, .int v_T_length, .int v_T_tokenStart, .int (0 : Int32), .int v_T_token])), (a_T_bytes, .inl (gB g, 150, .inl v_T_bytes)), (a_P1, .inr (0, [.int v_P1_number, .int v_P1_enough, .int v_P1_holders, .ref a_P1_kinds, .ref a_P1_extras, .ref a_P1_factors, .int v_P1_day, .int v_P1_tries, .int v_P1_shut, .ref a_P1_told, .ref a_P1_past, .int v_P1_pastCount])), (a_P1_factors, .inl (gI g, 3, .inl v_P1_factors)), (a_P1_told, .inr (2, [.ref a_P1_told_numbers])), (a_P1_told_numbers, .inl (gI g, 6, .inl v_P1_told_numbers))]) (wr := [(a_P1_kinds, .inl (gI g, 6, .inl v_P1_kinds)), (a_P1_extras, .inl (gI g, 6, .inl v_P1_extras))]) (w1 := [(a_T, .inr (1, [.ref a_T_bytes, .int v_T_length, .int o1.2.1, .int o1.2.2.1, .int o1.2.2.2.1])), (a_T_bytes, .inl (gB g, 150, .inl v_T_bytes)), (a_P1, .inr (0, [.int o1.2.2.2.2.1, .int o1.2.2.2.2.2.1, .int o1.2.2.2.2.2.2.1, .ref a_P1_kinds, .ref a_P1_extras, .ref a_P1_factors, .int o1.2.2.2.2.2.2.2.1, .int o1.2.2.2.2.2.2.2.2.1, .int o1.2.2.2.2.2.2.2.2.2.1, .ref a_P1_told, .ref a_P1_past, .int o1.2.2.2.2.2.2.2.2.2.2.1])), (a_P1_factors, .inl (gI g, 3, .inl o1.2.2.2.2.2.2.2.2.2.2.2.1)), (a_P1_told, .inr (2, [.ref a_P1_told_numbers])), (a_P1_told_numbers, .inl (gI g, 6, .inl o1.2.2.2.2.2.2.2.2.2.2.2.2))]) (w2 := [(a_T, .inr (1, [.ref a_T_bytes, .int v_T_length, .int o1.2.1, .int o1.2.2.1, .int o1.2.2.2.1])), (a_T_bytes, .inl (gB g, 150, .inl v_T_bytes)), (a_P1, .inr (0, [.int o1.2.2.2.2.1, .int o1.2.2.2.2.2.1, .int o1.2.2.2.2.2.2.1, .ref a_P1_kinds, .ref a_P1_extras, .ref a_P1_factors, .int o1.2.2.2.2.2.2.2.1, .int o1.2.2.2.2.2.2.2.2.1, .int o1.2.2.2.2.2.2.2.2.2.1, .ref a_P1_told, .ref a_P1_past, .int o1.2.2.2.2.2.2.2.2.2.2.1])), (a_P1_kinds, .inl (gI g, 6, .inl v_P1_kinds)), (a_P1_extras, .inl (gI g, 6, .inl v_P1_extras)), (a_P1_factors, .inl (gI g, 3, .inl o1.2.2.2.2.2.2.2.2.2.2.2.1)), (a_P1_told, .inr (2, [.ref a_P1_told_numbers])), (a_P1_told_numbers, .inl (gI g, 6, .inl o1.2.2.2.2.2.2.2.2.2.2.2.2))]) (ov := some (.int o1.1)) lb_X1_readSafeItem lk_X1_28 hX hB hM hO hT hE hP hD hS hA (c_X1_readSafeItem l g _ a_T a_T_bytes a_P1 a_P1_kinds a_P1_extras a_P1_past a_P1_factors a_P1_told a_P1_told_numbers v_T_length v_T_tokenStart (0 : Int32) v_T_token v_T_bytes v_P1_number v_P1_enough v_P1_holders v_P1_day v_P1_tries v_P1_shut v_P1_pastCount v_P1_factors v_P1_told_numbers o1 hc) ⟨rfl, rfl⟩ ⟨Nat.le_of_ble_eq_true rfl, Nat.le_of_ble_eq_true rfl⟩ rfl rfl [0, 1, 2, 5, 6, 7] [3, 4] [2, 3, 4, 0, 1, 5, 6, 7] rfl rfl rfl rfl (by decide) rfl rfl rfl rfl hl.1 (Nat.le_of_ble_eq_true rfl) ⟨Nat.zero_le _, Nat.zero_le _⟩ rfl dX1_parseInto_7 (fun H locs hP hD hS => ?_)
  refine lv_if_ne (pc := 10) (tgt := 15) hX hB dX1_parseInto_10 (by decide) (fun hq => ?_) (fun hq => ?_)
  · have hf := zs_in hf hq
    refine lv_iconst (pc := 15) (v := 1) hX hB dX1_parseInto_15 (by decide) ?_
    refine lv_istore_n (pc := 16) (lv' := [(2, .int (1 : Int32)), (0, .ref a_T), (1, .ref a_P1)]) hX hB dX1_parseInto_16 rfl hl (by decide) rfl (fun ls hl => ?_)
    refine lv_aload_n (pc := 17) hX hB dX1_parseInto_17 rfl (lv_at hl 1 rfl) ?_
    obtain ⟨o2, hc, hf⟩ := zs_bind hf
    refine zs_V (q := (RX1, TX1, 5)) (ci := 1) (q0 := 0) (b := a_T) (pc := 18) (As := []) (rest := []) (st1 := []) (wc := [(a_T, .inr (1, [.ref a_T_bytes, .int v_T_length, .int o1.2.1, .int o1.2.2.1, .int o1.2.2.2.1])), (a_T_bytes, .inl (gB g, 150, .inl v_T_bytes))]) (wr := [(a_P1, .inr (0, [.int o1.2.2.2.2.1, .int o1.2.2.2.2.2.1, .int o1.2.2.2.2.2.2.1, .ref a_P1_kinds, .ref a_P1_extras, .ref a_P1_factors, .int o1.2.2.2.2.2.2.2.1, .int o1.2.2.2.2.2.2.2.2.1, .int o1.2.2.2.2.2.2.2.2.2.1, .ref a_P1_told, .ref a_P1_past, .int o1.2.2.2.2.2.2.2.2.2.2.1])), (a_P1_kinds, .inl (gI g, 6, .inl v_P1_kinds)), (a_P1_extras, .inl (gI g, 6, .inl v_P1_extras)), (a_P1_factors, .inl (gI g, 3, .inl o1.2.2.2.2.2.2.2.2.2.2.2.1)), (a_P1_told, .inr (2, [.ref a_P1_told_numbers])), (a_P1_told_numbers, .inl (gI g, 6, .inl o1.2.2.2.2.2.2.2.2.2.2.2.2))]) (w1 := [(a_T, .inr (1, [.ref a_T_bytes, .int v_T_length, .int o2.1, .int o2.2.1, .int o2.2.2])), (a_T_bytes, .inl (gB g, 150, .inl v_T_bytes))]) (w2 := [(a_T, .inr (1, [.ref a_T_bytes, .int v_T_length, .int o2.1, .int o2.2.1, .int o2.2.2])), (a_T_bytes, .inl (gB g, 150, .inl v_T_bytes)), (a_P1, .inr (0, [.int o1.2.2.2.2.1, .int o1.2.2.2.2.2.1, .int o1.2.2.2.2.2.2.1, .ref a_P1_kinds, .ref a_P1_extras, .ref a_P1_factors, .int o1.2.2.2.2.2.2.2.1, .int o1.2.2.2.2.2.2.2.2.1, .int o1.2.2.2.2.2.2.2.2.2.1, .ref a_P1_told, .ref a_P1_past, .int o1.2.2.2.2.2.2.2.2.2.2.1])), (a_P1_kinds, .inl (gI g, 6, .inl v_P1_kinds)), (a_P1_extras, .inl (gI g, 6, .inl v_P1_extras)), (a_P1_factors, .inl (gI g, 3, .inl o1.2.2.2.2.2.2.2.2.2.2.2.1)), (a_P1_told, .inr (2, [.ref a_P1_told_numbers])), (a_P1_told_numbers, .inl (gI g, 6, .inl o1.2.2.2.2.2.2.2.2.2.2.2.2))]) (ov := none) lb_X1_nextToken lk_X1_32 hX hB hM hO hT hE hP hD hS hA (c_X1_nextToken l g _ a_T a_T_bytes v_T_length o1.2.1 o1.2.2.1 o1.2.2.2.1 v_T_bytes o2 hc) ⟨rfl, rfl⟩ ⟨Nat.le_of_ble_eq_true rfl, Nat.le_of_ble_eq_true rfl⟩ rfl rfl [0, 1] [2, 3, 4, 5, 6, 7] [6, 7, 0, 1, 2, 3, 4, 5] rfl rfl rfl rfl (by decide) rfl rfl rfl rfl hl.1 (Nat.le_of_ble_eq_true rfl) ⟨Nat.zero_le _, Nat.zero_le _⟩ rfl dX1_parseInto_18 (fun H locs hP hD hS => ?_)
    refine lv_iconst (pc := 21) (v := 0) hX hB dX1_parseInto_21 (by decide) ?_
    refine lv_istore_n (pc := 22) (lv' := [(3, .int (0 : Int32)), (2, .int (1 : Int32)), (0, .ref a_T), (1, .ref a_P1)]) hX hB dX1_parseInto_22 rfl hl (by decide) rfl (fun ls hl => ?_)
    obtain ⟨y4, hj, hf⟩ := zs_bind hf
    refine zs_then (α := (Int32 × Int32 × Int32 × Int32 × Int32 × (Nat → Int32) × (Nat → Int32) × (Nat → Int32))) (fun z5 H locs ls => y4 = Sum.inl z5 ∧ CC g A s.heap 4 [(a_T, .inr (1, [.ref a_T_bytes, .int v_T_length, .int z5.2.1, .int z5.2.2.1, .int z5.2.2.2.1])), (a_T_bytes, .inl (gB g, 150, .inl v_T_bytes)), (a_P1, .inr (0, [.int o1.2.2.2.2.1, .int o1.2.2.2.2.2.1, .int z5.2.2.2.2.1, .ref a_P1_kinds, .ref a_P1_extras, .ref a_P1_factors, .int o1.2.2.2.2.2.2.2.1, .int o1.2.2.2.2.2.2.2.2.1, .int o1.2.2.2.2.2.2.2.2.2.1, .ref a_P1_told, .ref a_P1_past, .int o1.2.2.2.2.2.2.2.2.2.2.1])), (a_P1_kinds, .inl (gI g, 6, .inl z5.2.2.2.2.2.1)), (a_P1_extras, .inl (gI g, 6, .inl z5.2.2.2.2.2.2.1)), (a_P1_factors, .inl (gI g, 3, .inl z5.2.2.2.2.2.2.2)), (a_P1_told, .inr (2, [.ref a_P1_told_numbers])), (a_P1_told_numbers, .inl (gI g, 6, .inl o1.2.2.2.2.2.2.2.2.2.2.2.2))] [(2, .int z5.1)] H locs ls) (fun _ ls => F0 m 60 ls []) (fun z5 H locs ls hC => ?_) (fun X => ?_)
    · obtain ⟨rfl, hP, hD, hS, hl⟩ := hC
      have hf := zs_el hf
      refine lv_iload_n (pc := 60) hX hB dX1_parseInto_60 rfl (lv_at hl 0 rfl) ?_
      obtain rfl := Option.some.inj hf
      exact zs_iret (pc := 61) hX hB hR hK hP hD hS dX1_parseInto_61
    · have hf2 := hf
      refine zs_loop (fun x3 H locs ls => CC g A s.heap 4 [(a_T, .inr (1, [.ref a_T_bytes, .int v_T_length, .int x3.2.2.1, .int x3.2.2.2.1, .int x3.2.2.2.2.1])), (a_T_bytes, .inl (gB g, 150, .inl v_T_bytes)), (a_P1, .inr (0, [.int o1.2.2.2.2.1, .int o1.2.2.2.2.2.1, .int x3.2.2.2.2.2.1, .ref a_P1_kinds, .ref a_P1_extras, .ref a_P1_factors, .int o1.2.2.2.2.2.2.2.1, .int o1.2.2.2.2.2.2.2.2.1, .int o1.2.2.2.2.2.2.2.2.2.1, .ref a_P1_told, .ref a_P1_past, .int o1.2.2.2.2.2.2.2.2.2.2.1])), (a_P1_kinds, .inl (gI g, 6, .inl x3.2.2.2.2.2.2.1)), (a_P1_extras, .inl (gI g, 6, .inl x3.2.2.2.2.2.2.2.1)), (a_P1_factors, .inl (gI g, 3, .inl x3.2.2.2.2.2.2.2.2)), (a_P1_told, .inr (2, [.ref a_P1_told_numbers])), (a_P1_told_numbers, .inl (gI g, 6, .inl o1.2.2.2.2.2.2.2.2.2.2.2.2))] [(0, .ref a_T), (1, .ref a_P1), (2, .int x3.1), (3, .int x3.2.1)] H locs ls) hj (fun n x3 q hf hr ih H locs ls hC => ?_) ⟨hP, hD, hS, lv_sub hl [2, 3, 1, 0] rfl⟩
      obtain ⟨hP, hD, hS, hl⟩ := hC
      unfold b_X1_parseInto_23 at hf
      refine lv_iload_n (pc := 23) hX hB dX1_parseInto_23 rfl (lv_at hl 3 rfl) ?_
      refine lv_sipush (pc := 24) (v := 150) hX hB dX1_parseInto_24 (by decide) ?_
      refine lv_icmp_ge (pc := 27) (tgt := 60) hX hB dX1_parseInto_27 (by decide) (fun hq => ?_) (fun hq => ?_)
      · have hf := zs_ip hf hq
        obtain rfl := Option.some.inj hf
        exact X _ _ _ _ ⟨hr.symm, hP, hD, hS, lv_sub hl [2] rfl⟩
      · have hf := zs_in hf hq
        refine lv_aload_n (pc := 30) hX hB dX1_parseInto_30 rfl (lv_at hl 0 rfl) ?_
        refine gf_X1_25 (pc := 31) (v := .int x3.2.2.2.2.1) hX hB hT hO hE hP 0 rfl rfl dX1_parseInto_31 ?_
        refine lv_if_eq (pc := 34) (tgt := 60) hX hB dX1_parseInto_34 (by decide) (fun hq => ?_) (fun hq => ?_)
        · have hf := zs_ip hf hq
          obtain rfl := Option.some.inj hf
          exact X _ _ _ _ ⟨hr.symm, hP, hD, hS, lv_sub hl [2] rfl⟩
        · have hf := zs_in hf hq
          refine lv_aload_n (pc := 37) hX hB dX1_parseInto_37 rfl (lv_at hl 0 rfl) ?_
          refine lv_aload_n (pc := 38) hX hB dX1_parseInto_38 rfl (lv_at hl 1 rfl) ?_
          obtain ⟨o6, hc, hf⟩ := zs_bind hf
          refine zs_V (q := (RX1, TX1, 5)) (ci := 1) (q0 := 0) (b := a_T) (pc := 39) (As := [.ref a_P1]) (rest := []) (st1 := [.int o6.1]) (wc := [(a_T, .inr (1, [.ref a_T_bytes, .int v_T_length, .int x3.2.2.1, .int x3.2.2.2.1, .int x3.2.2.2.2.1])), (a_T_bytes, .inl (gB g, 150, .inl v_T_bytes)), (a_P1, .inr (0, [.int o1.2.2.2.2.1, .int o1.2.2.2.2.2.1, .int x3.2.2.2.2.2.1, .ref a_P1_kinds, .ref a_P1_extras, .ref a_P1_factors, .int o1.2.2.2.2.2.2.2.1, .int o1.2.2.2.2.2.2.2.2.1, .int o1.2.2.2.2.2.2.2.2.2.1, .ref a_P1_told, .ref a_P1_past, .int o1.2.2.2.2.2.2.2.2.2.2.1])), (a_P1_kinds, .inl (gI g, 6, .inl x3.2.2.2.2.2.2.1)), (a_P1_extras, .inl (gI g, 6, .inl x3.2.2.2.2.2.2.2.1)), (a_P1_factors, .inl (gI g, 3, .inl x3.2.2.2.2.2.2.2.2))]) (wr := [(a_P1_told, .inr (2, [.ref a_P1_told_numbers])), (a_P1_told_numbers, .inl (gI g, 6, .inl o1.2.2.2.2.2.2.2.2.2.2.2.2))]) (w1 := [(a_T, .inr (1, [.ref a_T_bytes, .int v_T_length, .int o6.2.1, .int o6.2.2.1, .int o6.2.2.2.1])), (a_T_bytes, .inl (gB g, 150, .inl v_T_bytes)), (a_P1, .inr (0, [.int o1.2.2.2.2.1, .int o1.2.2.2.2.2.1, .int o6.2.2.2.2.1, .ref a_P1_kinds, .ref a_P1_extras, .ref a_P1_factors, .int o1.2.2.2.2.2.2.2.1, .int o1.2.2.2.2.2.2.2.2.1, .int o1.2.2.2.2.2.2.2.2.2.1, .ref a_P1_told, .ref a_P1_past, .int o1.2.2.2.2.2.2.2.2.2.2.1])), (a_P1_kinds, .inl (gI g, 6, .inl o6.2.2.2.2.2.1)), (a_P1_extras, .inl (gI g, 6, .inl o6.2.2.2.2.2.2.1)), (a_P1_factors, .inl (gI g, 3, .inl o6.2.2.2.2.2.2.2))]) (w2 := [(a_T, .inr (1, [.ref a_T_bytes, .int v_T_length, .int o6.2.1, .int o6.2.2.1, .int o6.2.2.2.1])), (a_T_bytes, .inl (gB g, 150, .inl v_T_bytes)), (a_P1, .inr (0, [.int o1.2.2.2.2.1, .int o1.2.2.2.2.2.1, .int o6.2.2.2.2.1, .ref a_P1_kinds, .ref a_P1_extras, .ref a_P1_factors, .int o1.2.2.2.2.2.2.2.1, .int o1.2.2.2.2.2.2.2.2.1, .int o1.2.2.2.2.2.2.2.2.2.1, .ref a_P1_told, .ref a_P1_past, .int o1.2.2.2.2.2.2.2.2.2.2.1])), (a_P1_kinds, .inl (gI g, 6, .inl o6.2.2.2.2.2.1)), (a_P1_extras, .inl (gI g, 6, .inl o6.2.2.2.2.2.2.1)), (a_P1_factors, .inl (gI g, 3, .inl o6.2.2.2.2.2.2.2)), (a_P1_told, .inr (2, [.ref a_P1_told_numbers])), (a_P1_told_numbers, .inl (gI g, 6, .inl o1.2.2.2.2.2.2.2.2.2.2.2.2))]) (ov := some (.int o6.1)) lb_X1_readOtherItem lk_X1_35 hX hB hM hO hT hE hP hD hS hA (c_X1_readOtherItem l g _ a_T a_T_bytes a_P1 a_P1_told a_P1_past a_P1_kinds a_P1_extras a_P1_factors v_T_length x3.2.2.1 x3.2.2.2.1 x3.2.2.2.2.1 v_T_bytes o1.2.2.2.2.1 o1.2.2.2.2.2.1 x3.2.2.2.2.2.1 o1.2.2.2.2.2.2.2.1 o1.2.2.2.2.2.2.2.2.1 o1.2.2.2.2.2.2.2.2.2.1 o1.2.2.2.2.2.2.2.2.2.2.1 x3.2.2.2.2.2.2.1 x3.2.2.2.2.2.2.2.1 x3.2.2.2.2.2.2.2.2 o6 hc) ⟨rfl, rfl⟩ ⟨Nat.le_of_ble_eq_true rfl, Nat.le_of_ble_eq_true rfl⟩ rfl rfl [0, 1, 2, 3, 4, 5] [6, 7] [2, 3, 4, 5, 6, 7, 0, 1] rfl rfl rfl rfl (by decide) rfl rfl rfl rfl hl.1 (Nat.le_of_ble_eq_true rfl) ⟨Nat.zero_le _, Nat.zero_le _⟩ rfl dX1_parseInto_39 (fun H locs hP hD hS => ?_)
          refine lv_if_ne (pc := 42) (tgt := 47) hX hB dX1_parseInto_42 (by decide) (fun hq => ?_) (fun hq => ?_)
          · have hf := zs_in hf hq
            refine lv_iinc (pc := 47) (v := x3.1 + (1 : Int32)) (lv' := [(2, .int (x3.1 + (1 : Int32))), (0, .ref a_T), (1, .ref a_P1), (3, .int x3.2.1)]) hX hB dX1_parseInto_47 hl (k := 2) rfl rfl (by decide) rfl (fun ls hl => ?_)
            refine lv_aload_n (pc := 50) hX hB dX1_parseInto_50 rfl (lv_at hl 1 rfl) ?_
            obtain ⟨o7, hc, hf⟩ := zs_bind hf
            refine zs_V (q := (RX1, TX1, 5)) (ci := 1) (q0 := 0) (b := a_T) (pc := 51) (As := []) (rest := []) (st1 := []) (wc := [(a_T, .inr (1, [.ref a_T_bytes, .int v_T_length, .int o6.2.1, .int o6.2.2.1, .int o6.2.2.2.1])), (a_T_bytes, .inl (gB g, 150, .inl v_T_bytes))]) (wr := [(a_P1, .inr (0, [.int o1.2.2.2.2.1, .int o1.2.2.2.2.2.1, .int o6.2.2.2.2.1, .ref a_P1_kinds, .ref a_P1_extras, .ref a_P1_factors, .int o1.2.2.2.2.2.2.2.1, .int o1.2.2.2.2.2.2.2.2.1, .int o1.2.2.2.2.2.2.2.2.2.1, .ref a_P1_told, .ref a_P1_past, .int o1.2.2.2.2.2.2.2.2.2.2.1])), (a_P1_kinds, .inl (gI g, 6, .inl o6.2.2.2.2.2.1)), (a_P1_extras, .inl (gI g, 6, .inl o6.2.2.2.2.2.2.1)), (a_P1_factors, .inl (gI g, 3, .inl o6.2.2.2.2.2.2.2)), (a_P1_told, .inr (2, [.ref a_P1_told_numbers])), (a_P1_told_numbers, .inl (gI g, 6, .inl o1.2.2.2.2.2.2.2.2.2.2.2.2))]) (w1 := [(a_T, .inr (1, [.ref a_T_bytes, .int v_T_length, .int o7.1, .int o7.2.1, .int o7.2.2])), (a_T_bytes, .inl (gB g, 150, .inl v_T_bytes))]) (w2 := [(a_T, .inr (1, [.ref a_T_bytes, .int v_T_length, .int o7.1, .int o7.2.1, .int o7.2.2])), (a_T_bytes, .inl (gB g, 150, .inl v_T_bytes)), (a_P1, .inr (0, [.int o1.2.2.2.2.1, .int o1.2.2.2.2.2.1, .int o6.2.2.2.2.1, .ref a_P1_kinds, .ref a_P1_extras, .ref a_P1_factors, .int o1.2.2.2.2.2.2.2.1, .int o1.2.2.2.2.2.2.2.2.1, .int o1.2.2.2.2.2.2.2.2.2.1, .ref a_P1_told, .ref a_P1_past, .int o1.2.2.2.2.2.2.2.2.2.2.1])), (a_P1_kinds, .inl (gI g, 6, .inl o6.2.2.2.2.2.1)), (a_P1_extras, .inl (gI g, 6, .inl o6.2.2.2.2.2.2.1)), (a_P1_factors, .inl (gI g, 3, .inl o6.2.2.2.2.2.2.2)), (a_P1_told, .inr (2, [.ref a_P1_told_numbers])), (a_P1_told_numbers, .inl (gI g, 6, .inl o1.2.2.2.2.2.2.2.2.2.2.2.2))]) (ov := none) lb_X1_nextToken lk_X1_32 hX hB hM hO hT hE hP hD hS hA (c_X1_nextToken l g _ a_T a_T_bytes v_T_length o6.2.1 o6.2.2.1 o6.2.2.2.1 v_T_bytes o7 hc) ⟨rfl, rfl⟩ ⟨Nat.le_of_ble_eq_true rfl, Nat.le_of_ble_eq_true rfl⟩ rfl rfl [0, 1] [2, 3, 4, 5, 6, 7] [6, 7, 0, 1, 2, 3, 4, 5] rfl rfl rfl rfl (by decide) rfl rfl rfl rfl hl.1 (Nat.le_of_ble_eq_true rfl) ⟨Nat.zero_le _, Nat.zero_le _⟩ rfl dX1_parseInto_51 (fun H locs hP hD hS => ?_)
            refine lv_iinc (pc := 54) (v := x3.2.1 + (1 : Int32)) (lv' := [(3, .int (x3.2.1 + (1 : Int32))), (2, .int (x3.1 + (1 : Int32))), (0, .ref a_T), (1, .ref a_P1)]) hX hB dX1_parseInto_54 hl (k := 3) rfl rfl (by decide) rfl (fun ls hl => ?_)
            refine lv_goto (pc := 57) (tgt := 23) hX hB dX1_parseInto_57 (by decide) ?_
            obtain rfl := Option.some.inj hf
            exact ih _ hr _ _ _ ⟨hP, hD, hS, lv_sub hl [2, 3, 1, 0] rfl⟩
          · have hf := zs_ip hf hq
            refine lv_iconst (pc := 45) (v := -1) hX hB dX1_parseInto_45 (by decide) ?_
            obtain rfl := Option.some.inj hf
            obtain rfl := hr
            have hf := zs_er hf2
            obtain rfl := Option.some.inj hf
            exact zs_iret (pc := 46) hX hB hR hK hP hD hS dX1_parseInto_46
  · have hf := zs_ip hf hq
    refine lv_iconst (pc := 13) (v := -1) hX hB dX1_parseInto_13 (by decide) ?_
    obtain rfl := Option.some.inj hf
    exact zs_iret (pc := 14) hX hB hR hK hP hD hS dX1_parseInto_14
