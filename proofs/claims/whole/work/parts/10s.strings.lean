/-! the three text constants: length and charAt, and what they call -/
abbrev evS {g : GG} {A : Nat → Prop} {s : State} (hE : EV g A s) := hE.2.2.2.2.2.2.1
def strC (i : Nat) (j : Nat) : Int32 := ((((strB.getD i []).getD j 0) &&& 255).toUInt32 % 65536).toInt32
def strN (i : Nat) : Int32 := Int32.ofNat (strL.getD i 0)
section ZT
variable {p : Program} {l : Launch} {e : Env} {R : Room} {s : State} {m : MethodId} {args : Array Value} {below : List Frame} {meth : Method} {c : Code} {H : Heap} {locs : List Loc} {cells slots : Nat} {Q : State → Prop} {cc : ByteArray} {pc : Nat} {ls : Array Slot} {rest : List Value} {A : Nat → Prop} {g : GG} {ws : va_W}
/-- a call of a method of a text constant -/
theorem zs_VS {own : String} {index i : Nat} {y : MethodName} {bytes : ByteArray} {maxL nL n : Nat} {ret : Option FieldType} {rm : Room} {wr w2 : va_W} {ov : Option Value} {As st0 st1 : List Value} (lk : LkB y bytes maxL ret n) (hl : Cond.methodLink own index y ∈ TB ∧ Cond.instanceMethod y ∈ TB ∧ Cond.selects "java/lang/String" y y ∈ TB) (hi : i < 3)
    (hx : p.tables.exec = Jvm.exec) (hb : c.code = cc) (hml : c.maxLocals = nL) (hown : s.vm.findClass own = some m.cls) (hts : ∀ w ∈ TB, w.before args s = true) (hE : EV g A s) (hP : va_P g.1 vwCl ws H) (hD : va_D A ws) (hS : va_S A s.heap H locs) (hA : ∀ q : Nat, s.heap.size ≤ q → A q)
    (hM : Met l y (Cond.code y bytes maxL ret :: TB) rm (Pst g [] (.ref (gK g i) :: As) H.size) (Qst g [] ov (va_A [] H.size)) 0 0 (va_A [] H.size)) (hrm : rm.cells = 0 ∧ rm.slots = 0) (hR9 : rm.frames + 1 ≤ R.frames ∧ 8 + (maxL + 11) + rm.locals ≤ R.locals)
    (iR iP : List Nat) (hR : iR.map (fun i => ws[i]?) = wr.map some) (hn : va_nd iR = true) (hp : iP.map (fun i => (wr ++ [])[i]?) = w2.map some) (hpn : va_nd iP = true) (hst : st0 = As.reverse ++ .ref (gK g i) :: rest) (hAn : As.length = n) (hls : ls.size = nL) (hw : (rest.map fun v => v.category).sum ≤ 8) (hcs : cells ≤ R.cells ∧ slots ≤ R.slots) (hs1 : ov.toList ++ rest = st1) (hdg : decode cc pc = .ok (.invokevirtual index, 3))
    (kk : ∀ (H1 : Heap) (locs1 : List Loc), va_P g.1 vwCl w2 H1 → va_D A w2 → va_S A s.heap H1 locs1 → W p l e R s m args below meth c H1 locs1 cells slots Q (F0 m (pc + 3) ls st1)) : W p l e R s m args below meth c H locs cells slots Q (F0 m pc ls st0) := by
  subst hst
  refine zs_call (va_runV (As := As) (rest := rest) ⟨hx, hb, hml, hown, hts⟩ hM (n := n) (C := "java/lang/String") ⟨zs_cb lk hts hl.1 hrm hR9, hts _ hl.2.1, hts _ hl.2.2⟩ ⟨zs_blind _ _ _ _, vk_recv (evS hE) hi hS, zs_pre (wc := []) hE hP hD hS hA [] rfl rfl⟩ rfl hAn hls rfl (lv_room hw) hdg hcs) hP hD hS hA [] iR iP rfl hR hn (fun _ _ => List.not_mem_nil) hp hpn hs1 kk
end ZT
set_option maxHeartbeats 4000000 in
set_option maxRecDepth 100000 in
theorem c_J0_coder (l : Launch) (g : GG) (sz i : Nat) (hi : i < 3) : Met l yJ0_coder_7d493 (Cond.code yJ0_coder_7d493 cJ0_coder_7d493 1 (some .byte) :: TB) { frames := 0, cells := 0, slots := 0, locals := 0 } (Pst g [] [.ref (gK g i)] sz) (Qst g [] (some (.int 0)) (va_A [] sz)) 0 0 (va_A [] sz) := by
  refine zs_met (own := RJ0) (plainFor_of_name (by decide)) rfl (Nat.le_of_ble_eq_true rfl) ?_
  intro p e s m below meth c A ls hX hB hR hM hT hO hK hN hA hE hP hD hS hl
  have hl : lv_has ls 1 [(0, .ref (gK g i))] := hl
  refine va_gets (pc := 0) hX hB hE.2.2.2.2.1 hS hO (hT _ tw_2_17) (fun _ h => h) dJ0_coder_7d493_0 ?_
  refine lv_if_eq (pc := 3) (tgt := 13) hX hB dJ0_coder_7d493_3 (by decide) (fun hq => absurd hq (by decide)) (fun _ => ?_)
  refine lv_aload_n (pc := 6) hX hB dJ0_coder_7d493_6 rfl (lv_at hl 0 rfl) ?_
  refine vk_getf (pc := 7) hX hB ((evS hE).1 i hi).2.1 hS hO (hT _ tw_5_50) (fun _ h => h) dJ0_coder_7d493_7 ?_
  refine lv_goto (pc := 10) (tgt := 14) hX hB dJ0_coder_7d493_10 (by decide) ?_
  exact zs_zret (pc := 14) hX hB hR hK rfl hP hD hS dJ0_coder_7d493_14
set_option maxHeartbeats 4000000 in
set_option maxRecDepth 100000 in
theorem c_J0_length (l : Launch) (g : GG) (sz i : Nat) (hi : i < 3) : Met l yJ0_length_8abf5 (Cond.code yJ0_length_8abf5 cJ0_length_8abf5 1 (some .int) :: TB) { frames := 1, cells := 0, slots := 0, locals := 20 } (Pst g [] [.ref (gK g i)] sz) (Qst g [] (some (.int (jshr (strN i) 0))) (va_A [] sz)) 0 0 (va_A [] sz) := by
  refine zs_met (own := RJ0) (plainFor_of_name (by decide)) rfl (Nat.le_of_ble_eq_true rfl) ?_
  intro p e s m below meth c A ls hX hB hR hM hT hO hK hN hA hE hP hD hS hl
  have hl : lv_has ls 1 [(0, .ref (gK g i))] := hl
  refine lv_aload_n (pc := 0) hX hB dJ0_length_8abf5_0 rfl (lv_at hl 0 rfl) ?_
  refine vk_getf (pc := 1) hX hB ((evS hE).1 i hi).2.2.1 hS hO (hT _ tw_5_49) (fun _ h => h) dJ0_length_8abf5_1 ?_
  refine va_tlen (pc := 4) hX hB ((evS hE).1 i hi).2.2.2 hS (v := strN i) rfl dJ0_length_8abf5_4 ?_
  refine lv_aload_n (pc := 5) hX hB dJ0_length_8abf5_5 rfl (lv_at hl 0 rfl) ?_
  refine zs_VS (i := i) (pc := 6) (As := []) (rest := [.int (strN i)]) (st1 := [.int 0, .int (strN i)]) (wr := []) (w2 := []) (ov := some (.int 0)) lb_J0_coder_7d493 lk_J0_335 hi hX hB hM hO hT hE hP hD hS hA (c_J0_coder l g _ i hi) ⟨rfl, rfl⟩ ⟨Nat.le_of_ble_eq_true rfl, Nat.le_of_ble_eq_true rfl⟩ [] [] rfl rfl rfl rfl rfl rfl hl.1 (Nat.le_of_ble_eq_true rfl) ⟨Nat.zero_le _, Nat.zero_le _⟩ rfl dJ0_length_8abf5_6 (fun H locs hP hD hS => ?_)
  refine zs_ishr (pc := 9) hX hB dJ0_length_8abf5_9 ?_
  exact zs_iret (pc := 10) hX hB hR hK hP hD hS dJ0_length_8abf5_10
set_option maxHeartbeats 4000000 in
set_option maxRecDepth 100000 in
theorem c_J0_isLatin1 (l : Launch) (g : GG) (sz i : Nat) (hi : i < 3) : Met l yJ0_isLatin1_aae02 (Cond.code yJ0_isLatin1_aae02 cJ0_isLatin1_aae02 1 (some .boolean) :: TB) { frames := 0, cells := 0, slots := 0, locals := 0 } (Pst g [] [.ref (gK g i)] sz) (Qst g [] (some (.int 1)) (va_A [] sz)) 0 0 (va_A [] sz) := by
  refine zs_met (own := RJ0) (plainFor_of_name (by decide)) rfl (Nat.le_of_ble_eq_true rfl) ?_
  intro p e s m below meth c A ls hX hB hR hM hT hO hK hN hA hE hP hD hS hl
  have hl : lv_has ls 1 [(0, .ref (gK g i))] := hl
  refine va_gets (pc := 0) hX hB hE.2.2.2.2.1 hS hO (hT _ tw_2_17) (fun _ h => h) dJ0_isLatin1_aae02_0 ?_
  refine lv_if_eq (pc := 3) (tgt := 17) hX hB dJ0_isLatin1_aae02_3 (by decide) (fun hq => absurd hq (by decide)) (fun _ => ?_)
  refine lv_aload_n (pc := 6) hX hB dJ0_isLatin1_aae02_6 rfl (lv_at hl 0 rfl) ?_
  refine vk_getf (pc := 7) hX hB ((evS hE).1 i hi).2.1 hS hO (hT _ tw_5_50) (fun _ h => h) dJ0_isLatin1_aae02_7 ?_
  refine lv_if_ne (pc := 10) (tgt := 17) hX hB dJ0_isLatin1_aae02_10 (by decide) (fun hq => absurd rfl hq) (fun _ => ?_)
  refine lv_iconst (pc := 13) (v := 1) hX hB dJ0_isLatin1_aae02_13 (by decide) ?_
  refine lv_goto (pc := 14) (tgt := 18) hX hB dJ0_isLatin1_aae02_14 (by decide) ?_
  exact zs_zret (pc := 18) hX hB hR hK rfl hP hD hS dJ0_isLatin1_aae02_18
set_option maxHeartbeats 4000000 in
set_option maxRecDepth 100000 in
theorem c_J3_checkIndexN (l : Launch) (g : GG) (sz : Nat) (i n : Int32) (h0 : ¬ i < 0) (h1 : i < n) : Met l yJ3_checkIndex_8e157 (Cond.code yJ3_checkIndex_8e157 cJ3_checkIndex_8e157 3 (some .int) :: TB) { frames := 0, cells := 0, slots := 0, locals := 0 } (Pst g [] [.int i, .int n, .null] sz) (Qst g [] (some (.int i)) (va_A [] sz)) 0 0 (va_A [] sz) := by
  refine zs_met (own := RJ3) (plainFor_of_name (by decide)) rfl (Nat.le_of_ble_eq_true rfl) ?_
  intro p e s m below meth c A ls hX hB hR hM hT hO hK hN hA hE hP hD hS hl
  have hl : lv_has ls 3 [(0, .int i), (1, .int n), (2, .null)] := hl
  refine lv_iload_n (pc := 0) hX hB dJ3_checkIndex_8e157_0 rfl (lv_at hl 0 rfl) ?_
  refine lv_if_lt (pc := 1) (tgt := 9) hX hB dJ3_checkIndex_8e157_1 (by decide) (fun hq => absurd hq h0) (fun _ => ?_)
  refine lv_iload_n (pc := 4) hX hB dJ3_checkIndex_8e157_4 rfl (lv_at hl 0 rfl) ?_
  refine lv_iload_n (pc := 5) hX hB dJ3_checkIndex_8e157_5 rfl (lv_at hl 1 rfl) ?_
  refine lv_icmp_lt (pc := 6) (tgt := 16) hX hB dJ3_checkIndex_8e157_6 (by decide) (fun _ => ?_) (fun hq => absurd h1 hq)
  refine lv_iload_n (pc := 16) hX hB dJ3_checkIndex_8e157_16 rfl (lv_at hl 0 rfl) ?_
  exact zs_iret (pc := 17) hX hB hR hK hP hD hS dJ3_checkIndex_8e157_17
set_option maxHeartbeats 4000000 in
set_option maxRecDepth 100000 in
theorem c_J3_checkIndexR (l : Launch) (g : GG) (sz : Nat) (i n : Int32) (t : Nat) (h0 : ¬ i < 0) (h1 : i < n) : Met l yJ3_checkIndex_8e157 (Cond.code yJ3_checkIndex_8e157 cJ3_checkIndex_8e157 3 (some .int) :: TB) { frames := 0, cells := 0, slots := 0, locals := 0 } (Pst g [] [.int i, .int n, .ref t] sz) (Qst g [] (some (.int i)) (va_A [] sz)) 0 0 (va_A [] sz) := by
  refine zs_met (own := RJ3) (plainFor_of_name (by decide)) rfl (Nat.le_of_ble_eq_true rfl) ?_
  intro p e s m below meth c A ls hX hB hR hM hT hO hK hN hA hE hP hD hS hl
  have hl : lv_has ls 3 [(0, .int i), (1, .int n), (2, .ref t)] := hl
  refine lv_iload_n (pc := 0) hX hB dJ3_checkIndex_8e157_0 rfl (lv_at hl 0 rfl) ?_
  refine lv_if_lt (pc := 1) (tgt := 9) hX hB dJ3_checkIndex_8e157_1 (by decide) (fun hq => absurd hq h0) (fun _ => ?_)
  refine lv_iload_n (pc := 4) hX hB dJ3_checkIndex_8e157_4 rfl (lv_at hl 0 rfl) ?_
  refine lv_iload_n (pc := 5) hX hB dJ3_checkIndex_8e157_5 rfl (lv_at hl 1 rfl) ?_
  refine lv_icmp_lt (pc := 6) (tgt := 16) hX hB dJ3_checkIndex_8e157_6 (by decide) (fun _ => ?_) (fun hq => absurd h1 hq)
  refine lv_iload_n (pc := 16) hX hB dJ3_checkIndex_8e157_16 rfl (lv_at hl 0 rfl) ?_
  exact zs_iret (pc := 17) hX hB hR hK hP hD hS dJ3_checkIndex_8e157_17
set_option maxHeartbeats 4000000 in
set_option maxRecDepth 100000 in
theorem c_J0_checkIndex (l : Launch) (g : GG) (sz : Nat) (i n : Int32) (h0 : ¬ i < 0) (h1 : i < n) : Met l yJ0_checkIndex_df160 (Cond.code yJ0_checkIndex_df160 cJ0_checkIndex_df160 2 none :: TB) { frames := 1, cells := 0, slots := 0, locals := 22 } (Pst g [] [.int i, .int n] sz) (Qst g [] none (va_A [] sz)) 0 0 (va_A [] sz) := by
  refine zs_met (own := RJ0) (plainFor_of_name (by decide)) rfl (Nat.le_of_ble_eq_true rfl) ?_
  intro p e s m below meth c A ls hX hB hR hM hT hO hK hN hA hE hP hD hS hl
  have hl : lv_has ls 2 [(0, .int i), (1, .int n)] := hl
  refine lv_iload_n (pc := 0) hX hB dJ0_checkIndex_df160_0 rfl (lv_at hl 0 rfl) ?_
  refine lv_iload_n (pc := 1) hX hB dJ0_checkIndex_df160_1 rfl (lv_at hl 1 rfl) ?_
  rcases hE.2.2.2.2.2.1 with hZ | ⟨t, hZ⟩
  · refine va_gets (pc := 2) hX hB hZ hS hO (hT _ tw_2_33) (fun _ h => h) dJ0_checkIndex_df160_2 ?_
    refine zs_S (pc := 5) (As := [.int i, .int n, .null]) (rest := []) (st1 := [.int i]) (wc := []) (wr := []) (w1 := []) (w2 := []) (ov := some (.int i)) lb_J3_checkIndex_8e157 lk_J0_1059 hX hB hM hO hT hE hP hD hS hA (c_J3_checkIndexN l g _ i n h0 h1) ⟨rfl, rfl⟩ ⟨Nat.le_of_ble_eq_true rfl, Nat.le_of_ble_eq_true rfl⟩ [] [] [] rfl rfl rfl rfl (by decide) rfl rfl rfl rfl hl.1 (Nat.le_of_ble_eq_true rfl) ⟨Nat.zero_le _, Nat.zero_le _⟩ rfl dJ0_checkIndex_df160_5 (fun H locs hP hD hS => ?_)
    refine lv_pop (pc := 8) hX hB dJ0_checkIndex_df160_8 rfl ?_
    exact zs_vret (pc := 9) hX hB hR hK hP hD hS dJ0_checkIndex_df160_9
  · refine va_gets (pc := 2) hX hB hZ hS hO (hT _ tw_2_33) (fun _ h => h) dJ0_checkIndex_df160_2 ?_
    refine zs_S (pc := 5) (As := [.int i, .int n, .ref t]) (rest := []) (st1 := [.int i]) (wc := []) (wr := []) (w1 := []) (w2 := []) (ov := some (.int i)) lb_J3_checkIndex_8e157 lk_J0_1059 hX hB hM hO hT hE hP hD hS hA (c_J3_checkIndexR l g _ i n t h0 h1) ⟨rfl, rfl⟩ ⟨Nat.le_of_ble_eq_true rfl, Nat.le_of_ble_eq_true rfl⟩ [] [] [] rfl rfl rfl rfl (by decide) rfl rfl rfl rfl hl.1 (Nat.le_of_ble_eq_true rfl) ⟨Nat.zero_le _, Nat.zero_le _⟩ rfl dJ0_checkIndex_df160_5 (fun H locs hP hD hS => ?_)
    refine lv_pop (pc := 8) hX hB dJ0_checkIndex_df160_8 rfl ?_
    exact zs_vret (pc := 9) hX hB hR hK hP hD hS dJ0_checkIndex_df160_9
set_option maxHeartbeats 4000000 in
set_option maxRecDepth 100000 in
theorem c_J1_charAt (l : Launch) (g : GG) (sz i : Nat) (hi : i < 3) (j : Int32) (h0 : inb j (strL.getD i 0) = true) (h1 : j < strN i) : Met l yJ1_charAt_3b067 (Cond.code yJ1_charAt_3b067 cJ1_charAt_3b067 2 (some .char) :: TB) { frames := 2, cells := 0, slots := 0, locals := 43 } (Pst g [] [.ref (gV g i), .int j] sz) (Qst g [] (some (.int (strC i j.toNatClampNeg))) (va_A [] sz)) 0 0 (va_A [] sz) := by
  have hj0 : ¬ j < 0 := fun q => (zs_inb h0) (Or.inl q)
  refine zs_met (own := RJ1) (plainFor_of_name (by decide)) rfl (Nat.le_of_ble_eq_true rfl) ?_
  intro p e s m below meth c A ls hX hB hR hM hT hO hK hN hA hE hP hD hS hl
  have hl : lv_has ls 2 [(0, .ref (gV g i)), (1, .int j)] := hl
  refine lv_iload_n (pc := 0) hX hB dJ1_charAt_3b067_0 rfl (lv_at hl 1 rfl) ?_
  refine lv_aload_n (pc := 1) hX hB dJ1_charAt_3b067_1 rfl (lv_at hl 0 rfl) ?_
  refine va_tlen (pc := 2) hX hB ((evS hE).1 i hi).2.2.2 hS (v := strN i) rfl dJ1_charAt_3b067_2 ?_
  refine zs_S (pc := 3) (As := [.int j, .int (strN i)]) (rest := []) (st1 := []) (wc := []) (wr := []) (w1 := []) (w2 := []) (ov := none) lb_J0_checkIndex_df160 lk_J1_9 hX hB hM hO hT hE hP hD hS hA (c_J0_checkIndex l g _ j (strN i) hj0 h1) ⟨rfl, rfl⟩ ⟨Nat.le_of_ble_eq_true rfl, Nat.le_of_ble_eq_true rfl⟩ [] [] [] rfl rfl rfl rfl (by decide) rfl rfl rfl rfl hl.1 (Nat.le_of_ble_eq_true rfl) ⟨Nat.zero_le _, Nat.zero_le _⟩ rfl dJ1_charAt_3b067_3 (fun H locs hP hD hS => ?_)
  refine lv_aload_n (pc := 6) hX hB dJ1_charAt_3b067_6 rfl (lv_at hl 0 rfl) ?_
  refine lv_iload_n (pc := 7) hX hB dJ1_charAt_3b067_7 rfl (lv_at hl 1 rfl) ?_
  refine va_tb (pc := 8) hX hB ((evS hE).1 i hi).2.2.2 hS (zs_inb h0) (v := .int ((strB.getD i []).getD j.toNatClampNeg 0)) rfl dJ1_charAt_3b067_8 ?_
  refine lv_sipush (pc := 9) (v := 255) hX hB dJ1_charAt_3b067_9 (by decide) ?_
  refine lv_iand (pc := 12) hX hB dJ1_charAt_3b067_12 ?_
  refine lv_i2c (pc := 13) (v := strC i j.toNatClampNeg) hX hB dJ1_charAt_3b067_13 rfl ?_
  exact zs_zret (pc := 14) hX hB hR hK (pk_nc _) hP hD hS dJ1_charAt_3b067_14
set_option maxHeartbeats 4000000 in
set_option maxRecDepth 100000 in
theorem c_J0_charAt (l : Launch) (g : GG) (sz i : Nat) (hi : i < 3) (j : Int32) (h0 : inb j (strL.getD i 0) = true) (h1 : j < strN i) : Met l yJ0_charAt_5068e (Cond.code yJ0_charAt_5068e cJ0_charAt_5068e 2 (some .char) :: TB) { frames := 3, cells := 0, slots := 0, locals := 64 } (Pst g [] [.ref (gK g i), .int j] sz) (Qst g [] (some (.int (strC i j.toNatClampNeg))) (va_A [] sz)) 0 0 (va_A [] sz) := by
  refine zs_met (own := RJ0) (plainFor_of_name (by decide)) rfl (Nat.le_of_ble_eq_true rfl) ?_
  intro p e s m below meth c A ls hX hB hR hM hT hO hK hN hA hE hP hD hS hl
  have hl : lv_has ls 2 [(0, .ref (gK g i)), (1, .int j)] := hl
  refine lv_aload_n (pc := 0) hX hB dJ0_charAt_5068e_0 rfl (lv_at hl 0 rfl) ?_
  refine zs_VS (i := i) (pc := 1) (As := []) (rest := []) (st1 := [.int 1]) (wr := []) (w2 := []) (ov := some (.int 1)) lb_J0_isLatin1_aae02 lk_J0_492 hi hX hB hM hO hT hE hP hD hS hA (c_J0_isLatin1 l g _ i hi) ⟨rfl, rfl⟩ ⟨Nat.le_of_ble_eq_true rfl, Nat.le_of_ble_eq_true rfl⟩ [] [] rfl rfl rfl rfl rfl rfl hl.1 (Nat.le_of_ble_eq_true rfl) ⟨Nat.zero_le _, Nat.zero_le _⟩ rfl dJ0_charAt_5068e_1 (fun H locs hP hD hS => ?_)
  refine lv_if_eq (pc := 4) (tgt := 16) hX hB dJ0_charAt_5068e_4 (by decide) (fun hq => absurd hq (by decide)) (fun _ => ?_)
  refine lv_aload_n (pc := 7) hX hB dJ0_charAt_5068e_7 rfl (lv_at hl 0 rfl) ?_
  refine vk_getf (pc := 8) hX hB ((evS hE).1 i hi).2.2.1 hS hO (hT _ tw_5_49) (fun _ h => h) dJ0_charAt_5068e_8 ?_
  refine lv_iload_n (pc := 11) hX hB dJ0_charAt_5068e_11 rfl (lv_at hl 1 rfl) ?_
  refine zs_S (pc := 12) (As := [.ref (gV g i), .int j]) (rest := []) (st1 := [.int (strC i j.toNatClampNeg)]) (wc := []) (wr := []) (w1 := []) (w2 := []) (ov := some (.int (strC i j.toNatClampNeg))) lb_J1_charAt_3b067 lk_J0_495 hX hB hM hO hT hE hP hD hS hA (c_J1_charAt l g _ i hi j h0 h1) ⟨rfl, rfl⟩ ⟨Nat.le_of_ble_eq_true rfl, Nat.le_of_ble_eq_true rfl⟩ [] [] [] rfl rfl rfl rfl (by decide) rfl rfl rfl rfl hl.1 (Nat.le_of_ble_eq_true rfl) ⟨Nat.zero_le _, Nat.zero_le _⟩ rfl dJ0_charAt_5068e_12 (fun H locs hP hD hS => ?_)
  exact zs_zret (pc := 15) hX hB hR hK (pk_nc _) hP hD hS dJ0_charAt_5068e_15
set_option maxHeartbeats 4000000 in
set_option maxRecDepth 100000 in
/-- imageAt: which of the two -/
theorem c_X3_imageAt_0 (l : Launch) (g : GG) (sz : Nat) (a_T a_T_now a_T_image0 a_T_image1 a_T_draft a_T_row a_T_text : Nat) (v_T_kept0 v_T_kept1 v_T_badCalls v_T_noCalls v_T_fullCalls : Int32) (v_T_above v_T_below : Int64) (p1 : Int32) (hi : p1 = 0) : Met l yX3_imageAt (Cond.code yX3_imageAt cX3_imageAt 2 (some (.object "SafeShares$Safe")) :: TB) { frames := 0, cells := 0, slots := 0, locals := 0 } (Pst g [(a_T, .inr (3, [.ref a_T_now, .ref a_T_image0, .ref a_T_image1, .ref a_T_draft, .ref a_T_row, .ref a_T_text, .int v_T_kept0, .int v_T_kept1, .int v_T_badCalls, .int v_T_noCalls, .int v_T_fullCalls, .long v_T_above, .long v_T_below]))] [.ref a_T, .int p1] sz) (Qst g [(a_T, .inr (3, [.ref a_T_now, .ref a_T_image0, .ref a_T_image1, .ref a_T_draft, .ref a_T_row, .ref a_T_text, .int v_T_kept0, .int v_T_kept1, .int v_T_badCalls, .int v_T_noCalls, .int v_T_fullCalls, .long v_T_above, .long v_T_below]))] (some (.ref a_T_image0)) (va_A [(a_T, .inr (3, [.ref a_T_now, .ref a_T_image0, .ref a_T_image1, .ref a_T_draft, .ref a_T_row, .ref a_T_text, .int v_T_kept0, .int v_T_kept1, .int v_T_badCalls, .int v_T_noCalls, .int v_T_fullCalls, .long v_T_above, .long v_T_below]))] sz)) 0 0 (va_A [(a_T, .inr (3, [.ref a_T_now, .ref a_T_image0, .ref a_T_image1, .ref a_T_draft, .ref a_T_row, .ref a_T_text, .int v_T_kept0, .int v_T_kept1, .int v_T_badCalls, .int v_T_noCalls, .int v_T_fullCalls, .long v_T_above, .long v_T_below]))] sz) := by
  refine zs_met (own := RX3) (plainFor_of_name (by decide)) rfl (Nat.le_of_ble_eq_true rfl) ?_
  intro p e s m below meth c A ls hX hB hR hM hT hO hK hN hA hE hP hD hS hl
  have hl : lv_has ls 2 [(0, .ref a_T), (1, .int p1)] := hl
  refine lv_iload_n (pc := 0) hX hB dX3_imageAt_0 rfl (lv_at hl 1 rfl) ?_
  refine lv_if_ne (pc := 1) (tgt := 11) hX hB dX3_imageAt_1 (by decide) (fun hq => absurd hi hq) (fun _ => ?_)
  refine lv_aload_n (pc := 4) hX hB dX3_imageAt_4 rfl (lv_at hl 0 rfl) ?_
  refine gf_X3_16 (pc := 5) (v := .ref a_T_image0) hX hB hT hO hE hP 0 rfl rfl dX3_imageAt_5 ?_
  refine lv_goto (pc := 8) (tgt := 15) hX hB dX3_imageAt_8 (by decide) ?_
  exact zs_aret (pc := 15) hX hB hR (Or.inl ⟨_, rfl⟩) hK hP hD hS dX3_imageAt_15
set_option maxHeartbeats 4000000 in
set_option maxRecDepth 100000 in
/-- imageAt: which of the two -/
theorem c_X3_imageAt_1 (l : Launch) (g : GG) (sz : Nat) (a_T a_T_now a_T_image0 a_T_image1 a_T_draft a_T_row a_T_text : Nat) (v_T_kept0 v_T_kept1 v_T_badCalls v_T_noCalls v_T_fullCalls : Int32) (v_T_above v_T_below : Int64) (p1 : Int32) (hi : ¬ p1 = 0) : Met l yX3_imageAt (Cond.code yX3_imageAt cX3_imageAt 2 (some (.object "SafeShares$Safe")) :: TB) { frames := 0, cells := 0, slots := 0, locals := 0 } (Pst g [(a_T, .inr (3, [.ref a_T_now, .ref a_T_image0, .ref a_T_image1, .ref a_T_draft, .ref a_T_row, .ref a_T_text, .int v_T_kept0, .int v_T_kept1, .int v_T_badCalls, .int v_T_noCalls, .int v_T_fullCalls, .long v_T_above, .long v_T_below]))] [.ref a_T, .int p1] sz) (Qst g [(a_T, .inr (3, [.ref a_T_now, .ref a_T_image0, .ref a_T_image1, .ref a_T_draft, .ref a_T_row, .ref a_T_text, .int v_T_kept0, .int v_T_kept1, .int v_T_badCalls, .int v_T_noCalls, .int v_T_fullCalls, .long v_T_above, .long v_T_below]))] (some (.ref a_T_image1)) (va_A [(a_T, .inr (3, [.ref a_T_now, .ref a_T_image0, .ref a_T_image1, .ref a_T_draft, .ref a_T_row, .ref a_T_text, .int v_T_kept0, .int v_T_kept1, .int v_T_badCalls, .int v_T_noCalls, .int v_T_fullCalls, .long v_T_above, .long v_T_below]))] sz)) 0 0 (va_A [(a_T, .inr (3, [.ref a_T_now, .ref a_T_image0, .ref a_T_image1, .ref a_T_draft, .ref a_T_row, .ref a_T_text, .int v_T_kept0, .int v_T_kept1, .int v_T_badCalls, .int v_T_noCalls, .int v_T_fullCalls, .long v_T_above, .long v_T_below]))] sz) := by
  refine zs_met (own := RX3) (plainFor_of_name (by decide)) rfl (Nat.le_of_ble_eq_true rfl) ?_
  intro p e s m below meth c A ls hX hB hR hM hT hO hK hN hA hE hP hD hS hl
  have hl : lv_has ls 2 [(0, .ref a_T), (1, .int p1)] := hl
  refine lv_iload_n (pc := 0) hX hB dX3_imageAt_0 rfl (lv_at hl 1 rfl) ?_
  refine lv_if_ne (pc := 1) (tgt := 11) hX hB dX3_imageAt_1 (by decide) (fun _ => ?_) (fun hq => absurd hq hi)
  refine lv_aload_n (pc := 11) hX hB dX3_imageAt_11 rfl (lv_at hl 0 rfl) ?_
  refine gf_X3_19 (pc := 12) (v := .ref a_T_image1) hX hB hT hO hE hP 0 rfl rfl dX3_imageAt_12 ?_
  exact zs_aret (pc := 15) hX hB hR (Or.inl ⟨_, rfl⟩) hK hP hD hS dX3_imageAt_15
