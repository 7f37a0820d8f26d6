theorem lw_str {own tx : String} {k a b : Nat} {s : State} (h1 : (Cond.stringRef own k tx).before #[Value.ref b] s = true) (h2 : (Term.string own k).eval #[Value.ref b] s none [] s = some (.ref a)) : vk_R own k tx a s := vk_R.of h1 h2
theorem lw_arr {s : State} {args : Array Value} {ty : FieldType} (h : (Cond.arrayClass ty).before args s = true) (hp : ∀ C, ty ≠ .object C) : ∃ cA : ClassId, ArrOfT s cA ty ∧ va_RA s cA ty := by
  obtain ⟨c, k, comp, h1, h2, h3⟩ := Cond.arrayClass_spec h
  refine ⟨c, fun n z => ⟨fun k h => (by cases h), k, h2, comp, h3⟩, ?_⟩
  cases ty with
  | object C => exact absurd rfl (hp C)
  | _ => exact h1
set_option maxHeartbeats 8000000 in
set_option maxRecDepth 100000 in
/-- what holds in every state of the run holds at the law's entry -/
theorem lw_EV {s : State} {b : Nat} (hts : ∀ w ∈ lw_tbl, w.before #[Value.ref b] s = true) (hgv : (Jvm.Cond.and given_1 narrow_1).before #[Value.ref b] s = true) : ∃ g : GG, EV g (fun q : Nat => s.heap.size ≤ q) s := by
  have hT : ∀ w ∈ TB, w.before #[Value.ref b] s = true := fun w h => hts w (tb_sub h)
  have hs := flat_of_before _ hgv
  have hAA : ∀ a : Nat, a < s.heap.size → ¬ (fun q : Nat => s.heap.size ≤ q) a := fun a h => Nat.not_le.mpr h
  obtain ⟨c0, iS0, hKn0⟩ := u_known (C := RX0) (T := TX0) (N := 12) (n := 12) hT u_X0 (hT _ tw_in_X0)
  obtain ⟨c1, iS1, hKn1⟩ := u_known (C := RX1) (T := TX1) (N := 5) (n := 5) hT u_X1 (hT _ tw_in_X1)
  obtain ⟨c2, iS2, hKn2⟩ := u_known (C := RX2) (T := TX2) (N := 1) (n := 1) hT u_X2 (hT _ tw_in_X2)
  obtain ⟨c3, iS3, hKn3⟩ := u_known (C := RX3) (T := TX3) (N := 13) (n := 13) hT u_X3 (hT _ tw_in_X3)
  obtain ⟨c4, iS4, hKn4⟩ := u_known (C := RX4) (T := TX4) (N := 21) (n := 21) hT u_X4 (hT _ tw_in_X4)
  obtain ⟨dC, dI, hKc⟩ : ∃ (dC : Nat → ClassId) (dI : Nat → Nat → Nat), ∀ (k : Nat) (q : vw_C), vwCl[k]? = some q → u_Kn s q.1 q.2.1 q.2.2 (dC k) (dI k) := by
    refine ⟨fun k => if k = 0 then c0 else if k = 1 then c1 else if k = 2 then c2 else if k = 3 then c3 else c4, fun k => if k = 0 then iS0 else if k = 1 then iS1 else if k = 2 then iS2 else if k = 3 then iS3 else iS4, ?_⟩
    intro k q hq
    match k, hq with
    | 0, hq => cases hq; exact hKn0
    | 1, hq => cases hq; exact hKn1
    | 2, hq => cases hq; exact hKn2
    | 3, hq => cases hq; exact hKn3
    | 4, hq => cases hq; exact hKn4
    | k + 5, hq => simp [vwCl] at hq
  obtain ⟨cI, hI⟩ := lw_arr (hT _ tw_1_41) (fun _ h => by cases h)
  obtain ⟨cB, hBy⟩ := lw_arr (hT _ tw_1_113) (fun _ h => by cases h)
  obtain ⟨cZ, hZ⟩ := lw_arr (hT _ tw_3_236) (fun _ h => by cases h)
  obtain ⟨tI, htI, hTI⟩ := va_Tof (args := #[Value.ref b]) (s := s) (tm := Term.static "SafeShares$Told" "INVERSES" "[I") (ty := .int) (N := 6) (f := fun j => .int (invF j)) (A := fun q : Nat => s.heap.size ≤ q) (by decide) (hs _ (by decide +kernel)) (va_eqt (hs _ (by decide +kernel))) (fun j hj => by
    match j, hj with
    | 0, _ => exact va_eqt (hs _ (by decide +kernel))
    | 1, _ => exact va_eqt (hs _ (by decide +kernel))
    | 2, _ => exact va_eqt (hs _ (by decide +kernel))
    | 3, _ => exact va_eqt (hs _ (by decide +kernel))
    | 4, _ => exact va_eqt (hs _ (by decide +kernel))
    | 5, _ => exact va_eqt (hs _ (by decide +kernel))
    | j + 6, h => exact absurd h (by omega)) hAA
  obtain ⟨adK, adV, hSt, hSe⟩ := vk_Sof (args := #[Value.ref b]) (s := s) (N := 3) (tm := fun i => Term.string "SafeShares$Text" (if i = 0 then 38 else if i = 1 then 58 else 63)) (len := strL) (byt := strB) (A := fun q : Nat => s.heap.size ≤ q)
    (fun i hi => by match i, hi with
      | 0, _ => decide
      | 1, _ => decide
      | 2, _ => decide
      | i + 3, h => omega)
    (fun i hi => by match i, hi with
      | 0, _ => exact hs _ (by decide +kernel)
      | 1, _ => exact hs _ (by decide +kernel)
      | 2, _ => exact hs _ (by decide +kernel)
      | i + 3, h => exact absurd h (by omega))
    (fun i hi => by match i, hi with
      | 0, _ => exact hs _ (by decide +kernel)
      | 1, _ => exact hs _ (by decide +kernel)
      | 2, _ => exact hs _ (by decide +kernel)
      | i + 3, h => exact absurd h (by omega))
    (fun i hi => by match i, hi with
      | 0, _ => exact hs _ (by decide +kernel)
      | 1, _ => exact hs _ (by decide +kernel)
      | 2, _ => exact hs _ (by decide +kernel)
      | i + 3, h => exact absurd h (by omega))
    (fun i hi => by match i, hi with
      | 0, _ => exact hs _ (by decide +kernel)
      | 1, _ => exact hs _ (by decide +kernel)
      | 2, _ => exact hs _ (by decide +kernel)
      | i + 3, h => exact absurd h (by omega))
    (fun i hi j hj => by match i, hi, j, hj with
      | 0, _, 0, _ => exact hs _ (by decide +kernel)
      | 0, _, 1, _ => exact hs _ (by decide +kernel)
      | 0, _, 2, _ => exact hs _ (by decide +kernel)
      | 0, _, 3, _ => exact hs _ (by decide +kernel)
      | 0, _, j + 4, h => exact absurd (show j + 4 < 4 from h) (by omega)
      | 1, _, 0, _ => exact hs _ (by decide +kernel)
      | 1, _, 1, _ => exact hs _ (by decide +kernel)
      | 1, _, 2, _ => exact hs _ (by decide +kernel)
      | 1, _, j + 3, h => exact absurd (show j + 3 < 3 from h) (by omega)
      | 2, _, 0, _ => exact hs _ (by decide +kernel)
      | 2, _, 1, _ => exact hs _ (by decide +kernel)
      | 2, _, 2, _ => exact hs _ (by decide +kernel)
      | 2, _, 3, _ => exact hs _ (by decide +kernel)
      | 2, _, 4, _ => exact hs _ (by decide +kernel)
      | 2, _, 5, _ => exact hs _ (by decide +kernel)
      | 2, _, j + 6, h => exact absurd (show j + 6 < 6 from h) (by omega)
      | i + 3, h, j, _ => exact absurd h (by omega))
    (fun i j hi hj hij => by match i, hi, j, hj with
      | 0, _, 0, _ => exact absurd rfl hij
      | 0, _, 1, _ => exact Or.inl (hs _ (by decide +kernel))
      | 0, _, 2, _ => exact Or.inl (hs _ (by decide +kernel))
      | 1, _, 0, _ => exact Or.inr (hs _ (by decide +kernel))
      | 1, _, 1, _ => exact absurd rfl hij
      | 1, _, 2, _ => exact Or.inl (hs _ (by decide +kernel))
      | 2, _, 0, _ => exact Or.inr (hs _ (by decide +kernel))
      | 2, _, 1, _ => exact Or.inr (hs _ (by decide +kernel))
      | 2, _, 2, _ => exact absurd rfl hij
      | i + 3, h, j, _ => exact absurd h (by omega)
      | 0, _, j + 3, h => exact absurd h (by omega)
      | 1, _, j + 3, h => exact absurd h (by omega)
      | 2, _, j + 3, h => exact absurd h (by omega)) hAA
  refine ⟨((dC, dI), cI, cB, cZ, tI, adK, adV), ⟨hKc, fun k q hq => ?_⟩, ⟨?_, ?_⟩, ?_, hTI, ?_, ?_, hSt, ?_, ?_, ?_⟩
  · match k, hq with
    | 0, hq => cases hq; exact hI
    | 1, hq => cases hq; exact hBy
    | 2, hq => cases hq; exact hZ
    | k + 3, hq => simp [K3] at hq
  · exact (List.forall_mem_cons.mpr ⟨va_Nw.of rfl (hts _ (tb_t1 (List.mem_of_getElem? (i := 99) rfl))), (List.forall_mem_cons.mpr ⟨va_Nw.of rfl (hts _ (tb_t1 (List.mem_of_getElem? (i := 52) rfl))), (List.forall_mem_cons.mpr ⟨va_Nw.of rfl (hts _ (tb_t1 (List.mem_of_getElem? (i := 45) rfl))), (List.forall_mem_cons.mpr ⟨va_Nw.of rfl (hts _ (tb_t1 (List.mem_of_getElem? (i := 58) rfl))), (List.forall_mem_cons.mpr ⟨va_Nw.of rfl (hts _ (tb_t1 (List.mem_of_getElem? (i := 54) rfl))), (List.forall_mem_cons.mpr ⟨va_Nw.of rfl (hts _ (tb_t1 (List.mem_of_getElem? (i := 56) rfl))), (List.forall_mem_cons.mpr ⟨va_Nw.of rfl (hts _ (tb_t1 (List.mem_of_getElem? (i := 43) rfl))), (List.forall_mem_cons.mpr ⟨va_Nw.of rfl (hts _ (tb_t1 (List.mem_of_getElem? (i := 47) rfl))), (List.forall_mem_cons.mpr ⟨va_Nw.of rfl (hts _ (tb_t1 (List.mem_of_getElem? (i := 61) rfl))), (List.forall_mem_cons.mpr ⟨va_Nw.of rfl (hts _ (tb_t1 (List.mem_of_getElem? (i := 97) rfl))), (fun _ h => absurd h List.not_mem_nil)⟩)⟩)⟩)⟩)⟩)⟩)⟩)⟩)⟩)⟩)
  · exact (List.forall_mem_cons.mpr ⟨va_Nw.of rfl (hts _ (tb_t1 (List.mem_of_getElem? (i := 24) rfl))), (List.forall_mem_cons.mpr ⟨va_Nw.of rfl (hts _ (tb_t1 (List.mem_of_getElem? (i := 91) rfl))), (List.forall_mem_cons.mpr ⟨va_Nw.of rfl (hts _ (tb_t2 (List.mem_of_getElem? (i := 61) rfl))), (List.forall_mem_cons.mpr ⟨va_Nw.of rfl (hts _ (tb_t2 (List.mem_of_getElem? (i := 95) rfl))), (List.forall_mem_cons.mpr ⟨va_Nw.of rfl (hts _ (tb_t2 (List.mem_of_getElem? (i := 136) rfl))), (List.forall_mem_cons.mpr ⟨va_Nw.of rfl (hts _ (tb_t2 (List.mem_of_getElem? (i := 146) rfl))), (List.forall_mem_cons.mpr ⟨va_Nw.of rfl (hts _ (tb_t2 (List.mem_of_getElem? (i := 183) rfl))), (List.forall_mem_cons.mpr ⟨va_Nw.of rfl (hts _ (tb_t2 (List.mem_of_getElem? (i := 202) rfl))), (List.forall_mem_cons.mpr ⟨va_Nw.of rfl (hts _ (tb_t2 (List.mem_of_getElem? (i := 208) rfl))), (fun _ h => absurd h List.not_mem_nil)⟩)⟩)⟩)⟩)⟩)⟩)⟩)⟩)⟩)
  · exact va_Zof (hts _ (tb_t2 (List.mem_of_getElem? (i := 188) rfl))) (hT _ tw_1_3) htI hAA
  · exact va_Zof (hts _ (tb_t2 (List.mem_of_getElem? (i := 18) rfl))) (hT _ tw_1_7) (va_eqi (hs _ (by decide +kernel))) hAA
  · exact va_Zqof (hts _ (tb_t2 (List.mem_of_getElem? (i := 34) rfl))) (hT _ tw_1_9) (hs _ (by decide +kernel)) hAA
  · exact lw_str (hts _ (tb_t2 (List.mem_of_getElem? (i := 4) rfl))) (hSe 0 (by decide))
  · exact lw_str (hts _ (tb_t2 (List.mem_of_getElem? (i := 71) rfl))) (hSe 1 (by decide))
  · exact lw_str (hts _ (tb_t2 (List.mem_of_getElem? (i := 77) rfl))) (hSe 2 (by decide))
