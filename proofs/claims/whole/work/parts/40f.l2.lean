theorem SD.to {n e h c1 c2 c3 : Nat} {kinds extras fac st st' : Nat → Int32} (S : SD n e h c1 c2 c3 kinds extras fac st) (hs : ∀ j, (j < 5 ∨ 8 ≤ j) → st' j = st j) : SD n e h c1 c2 c3 kinds extras fac st' := by
  obtain ⟨g, f, ⟨s0, s1, s2, s3, s4, s8⟩, H⟩ := S
  refine ⟨g, f, ⟨by rw [hs 0 (by omega)]; exact s0, by rw [hs 1 (by omega)]; exact s1, by rw [hs 2 (by omega)]; exact s2, by rw [hs 3 (by omega)]; exact s3, by rw [hs 4 (by omega)]; exact s4, by rw [hs 8 (by omega)]; exact s8⟩, fun j hj => ?_⟩
  rw [hs (9 + j) (by omega), hs (15 + j) (by omega)]
  exact H j hj
theorem lN_I (n : Nat) : (lN n).toInt32 = nI n := by
  first
  | exact Int64.toInt32_ofNat
  | exact Int64.toInt32_ofNat' n
  | exact Int64.toInt32_ofNat' _
theorem next_n {X : Nat} (h : X < 2 ^ 31) : ∃ Y, Y < 2 ^ 31 ∧ jlrem (lN X * 1103515245 + 12345) 2147483648 = lN Y := by
  refine ⟨(X * 1103515245 + 12345) % 2147483648, Nat.mod_lt _ (by decide), ?_⟩
  have e1 : lN X * 1103515245 + 12345 = lN (X * 1103515245 + 12345) := by
    rw [show (1103515245 : Int64) = lN 1103515245 from rfl, show (12345 : Int64) = lN 12345 from rfl, lN_mul, lN_add]
  rw [e1]
  exact pk_lRem (b := 2147483648) (by omega) (by decide) (by decide)
theorem draw_n {Y d : Nat} (h : Y < 2 ^ 31) (h0 : 0 < d) (hd : d < 2 ^ 31) : ∃ b, b < d ∧ (jlrem (lN Y / 65536) (nI d).toInt64).toInt32 = nI b := by
  refine ⟨Y / 65536 % d, Nat.mod_lt _ h0, ?_⟩
  have e1 : lN Y / 65536 = lN (Y / 65536) := pk_lDiv (b := 65536) (by omega) (by decide) (by decide)
  have e2 : (nI d).toInt64 = lN d := nI_l hd
  rw [e1, e2]
  have e3 : jlrem (lN (Y / 65536)) (lN d) = lN (Y / 65536 % d) := pk_lRem (by omega) h0 (by omega)
  rw [e3, lN_I]
theorem L2_day (k : Nat) (hk : k ≤ 256) (x : CX) (y : MX) (hR : RR k x y) (p1 : Int32) : ∃ (o : Int32 × Int32 × Int32 × Int32 × Int32 × Int32 × (Nat → Int32) × (Nat → Int32)) (u : Int32 × Int32 × (Nat → Int32) × (Nat → Int32) × (Nat → Int32) × (Nat → Int32) × (Nat → Int32)), f_X3_day x.2.2.2.2.2.2.2.2.1 x.1.1 x.1.2.1 x.1.2.2.1 x.1.2.2.2.1 x.1.2.2.2.2.1 x.1.2.2.2.2.2.1 x.1.2.2.2.2.2.2.1 x.1.2.2.2.2.2.2.2.1 x.1.2.2.2.2.2.2.2.2.1 x.1.2.2.2.2.2.2.2.2.2.1 x.1.2.2.2.2.2.2.2.2.2.2.2 x.2.2.2.2.1 p1 = some o ∧ f_X4_day y.2.2.2.2.2.2.2.2.2.2.2.2.2.2.2.1 y.1 y.2.2.2.1 y.2.2.2.2.2.2.2.2.2.2.2.2.1 y.2.2.2.2.2.2.2.2.2.2.2.2.2.1 y.2.2.2.2.2.2.2.2.2.2.2.2.2.2.1 p1 = some u ∧ o.1 = u.1 ∧ RR (k + 4) ((x.1.1, x.1.2.1, x.1.2.2.1, o.2.2.1, o.2.2.2.1, o.2.2.2.2.1, o.2.2.2.2.2.1, x.1.2.2.2.2.2.2.2.1, x.1.2.2.2.2.2.2.2.2.1, x.1.2.2.2.2.2.2.2.2.2.1, x.1.2.2.2.2.2.2.2.2.2.2.1, o.2.2.2.2.2.2.1), x.2.1, x.2.2.1, x.2.2.2.1, o.2.2.2.2.2.2.2, x.2.2.2.2.2.1, (x.2.2.2.2.2.2.1, x.2.2.2.2.2.2.2.1, o.2.1, x.2.2.2.2.2.2.2.2.2.1, x.2.2.2.2.2.2.2.2.2.2.1, x.2.2.2.2.2.2.2.2.2.2.2.1, x.2.2.2.2.2.2.2.2.2.2.2.2)) (u.2.2.1, y.2.1, y.2.2.1, u.2.2.2.1, y.2.2.2.2.1, y.2.2.2.2.2.1, y.2.2.2.2.2.2.1, y.2.2.2.2.2.2.2.1, y.2.2.2.2.2.2.2.2.1, y.2.2.2.2.2.2.2.2.2.1, y.2.2.2.2.2.2.2.2.2.2.1, y.2.2.2.2.2.2.2.2.2.2.2.1, u.2.2.2.2.1, u.2.2.2.2.2.1, u.2.2.2.2.2.2, u.2.1, y.2.2.2.2.2.2.2.2.2.2.2.2.2.2.2.2.1, y.2.2.2.2.2.2.2.2.2.2.2.2.2.2.2.2.2.1, y.2.2.2.2.2.2.2.2.2.2.2.2.2.2.2.2.2.2.1, y.2.2.2.2.2.2.2.2.2.2.2.2.2.2.2.2.2.2.2.1, y.2.2.2.2.2.2.2.2.2.2.2.2.2.2.2.2.2.2.2.2) := by
  obtain ⟨nw, i0, i1, dr, row, tx, kp0, kp1, bc, nc, fc, ab, be⟩ := x
  obtain ⟨st, yab, ybe, rf, txt, byt, pl, tok, vlu, beg, yrow, th, pts, usd, ahd, um, drw, ik, kpt, kah, kmn⟩ := y
  obtain ⟨hS, hI0, hI1, hT, ⟨hb, hn, hf⟩, ha, he⟩ := hR
  dsimp only at hS hI0 hI1 hT hb hn hf ha he ⊢
  obtain ⟨n, e, h, d, t, s, u, c1, c2, c3, a, ⟨b1, b2, b3, b4, b5, b6, b7⟩, ⟨d5, d6, d7, dum⟩, S, ht, hp⟩ := hS.op
  obtain ⟨⟨g1, g2, g3, g4, g5, g6, g7⟩, ⟨f1, f2, f3⟩, ⟨s0, s1, s2, s3, s4, s8⟩, H⟩ := id S
  by_cases h1 : ¬ p1 < 0 ∧ ¬ nI (2 ^ h - 1) < p1
  · obtain ⟨m, hm, hm6, rfl⟩ := wi_who g4 h1
    obtain ⟨a1, a2, a3, a4, a5, a6, a7, a8, a9, a10, a11⟩ := a
    obtain ⟨u', past', ahead', hu', A, B, C⟩ := note_both (k := k) a8 a5 a6 a7 g5 g6 g7 f1 f2 f3 s2 s3 s4 d5 d6 d7 hp
    obtain ⟨r, t', s', row', st', pts', usd', ht', hs', D, E, q5, q6, q7, qs, _⟩ := day_both S (row := row) (pts := pts) (used := usd) (show d < 2000 by omega) a6 a7 d5 d6 d7 hm
    refine ⟨_, _, (by rw [b1, b2, b3, b4, b5, b6, b7]; simp only [f_X3_day, v_isWithin, v_isDay, v_isImage, v_bad, v_no, v_full, f_X3_refuseBadAs, Option.bind_some, n10, ↓reduceIte, gd_t, v_hasAll g4, if_pos h1, A, D]; rfl), (by rw [dum]; simp only [f_X4_day, in_0_96, in_1_4, in_0_5, in_1_3, in_0_127, in_0_2, in_0_999, in_1_6, in_m1_96, in_0_7, in_0_1, in_0_10, in_0_990, in_0_999999, in_0_60, in_0_100, w_isWhat, w_bad, w_no, w_full, Option.bind_some, n10, ↓reduceIte, gd_t, i27_0, i27_1, i27_5, i27_6, i27_7, i27_8, cl_0, cl_1, cl_5, cl_6, cl_7, cl_8, w_areHolders g4 s8, if_pos h1, B, E]; rfl), ?_, ?_⟩
    · rfl
    · refine ⟨SR.cl (n := n) (e := e) (h := h) (d := d + 1) (t := t') (s := s') (u := u') ⟨a1, a2, a3, a4, by omega, ht', hs', hu', a9, a10, a11⟩ ⟨b1, b2, b3, rfl, rfl, rfl, rfl⟩ ⟨q5, q6, q7, rfl⟩ (S.to qs) (fun j hj => ?_) (fun i hi => (C i hi).mono (by omega)), hI0.mono (by omega), hI1.mono (by omega), hT, ⟨hb, hn, hf⟩, ha, he⟩
      have e1 := qs (21 + j) (by omega)
      have e2 := ht j hj
      rw [← e1] at e2
      exact e2
  · refine ⟨_, _, (by rw [b3]; simp only [f_X3_day, v_isWithin, v_isDay, v_isImage, v_bad, v_no, v_full, f_X3_refuseBadAs, Option.bind_some, n10, ↓reduceIte, gd_t, v_hasAll g4, if_neg h1]; rfl), (by simp only [f_X4_day, in_0_96, in_1_4, in_0_5, in_1_3, in_0_127, in_0_2, in_0_999, in_1_6, in_m1_96, in_0_7, in_0_1, in_0_10, in_0_990, in_0_999999, in_0_60, in_0_100, w_isWhat, w_bad, w_no, w_full, Option.bind_some, n10, ↓reduceIte, gd_t, i27_0, i27_1, i27_5, i27_6, i27_7, i27_8, cl_0, cl_1, cl_5, cl_6, cl_7, cl_8, w_areHolders g4 s8, if_neg h1]; rfl), ?_, ?_⟩
    · rfl
    · exact ⟨hS.mono (by omega), hI0.mono (by omega), hI1.mono (by omega), hT, bad3 hb hn hf, ha, he⟩
theorem w_undoLoop {v : Nat} (hv : v < 8) (ahead st : Nat → Int32) : lp (b_X4_undo_24 (nI (v + 1)) ahead) 200 (0, st) = some (wf (fun j => ahead (6 * v + j)) st 2 6) := by
  have key : lp (b_X4_undo_24 (nI (v + 1)) ahead) 200 (nI 0, wf (fun j => ahead (6 * v + j)) st 2 0) = some (wf (fun j => ahead (6 * v + j)) st 2 6) := by
    refine lp_run (fun i => (nI i, wf (fun j => ahead (6 * v + j)) st 2 i)) 6 (fun i hi => ?_) ?_ 200 (by decide)
    · have e1 : (2 : Int32) + nI i = nI (2 + i) := nI_add 2 i
      have e2 : (6 : Int32) * (nI (v + 1) - 1) + nI i = nI (6 * v + i) := by rw [nI_pred, show (6 : Int32) * nI v = nI (6 * v) from pk_mul 6 v, nI_add]
      simp only [b_X4_undo_24, if_neg (i6 hi), e1, e2, inb_nI (show 2 + i < 27 by omega) (by decide), inb_nI (show 6 * v + i < 48 by omega) (by decide), gd_t, nI_clamp (show 2 + i < 2 ^ 31 by omega), nI_clamp (show 6 * v + i < 2 ^ 31 by omega), nI_1]
      rw [← wf_succ]
    · simp only [b_X4_undo_24, if_pos i6e]
  rw [wf_0] at key
  exact key
theorem L2_undo (k : Nat) (hk : k ≤ 256) (x : CX) (y : MX) (hR : RR k x y) : ∃ (o : Int32 × Int32 × Int32 × Int32 × Int32 × Int32 × (Nat → Int32)) (u : Int32 × Int32 × (Nat → Int32) × (Nat → Int32)), f_X3_undo x.2.2.2.2.2.2.2.2.2.1 x.1.2.2.2.1 x.1.2.2.2.2.1 x.1.2.2.2.2.2.1 x.1.2.2.2.2.2.2.1 x.1.2.2.2.2.2.2.2.2.2.1 x.1.2.2.2.2.2.2.2.2.2.2.2 = some o ∧ f_X4_undo y.2.2.2.2.2.2.2.2.2.2.2.2.2.2.2.1 y.1 y.2.2.2.1 y.2.2.2.2.2.2.2.2.2.2.2.2.2.2.1 = some u ∧ o.1 = u.1 ∧ RR (k + 4) ((x.1.1, x.1.2.1, x.1.2.2.1, o.2.2.1, o.2.2.2.1, o.2.2.2.2.1, o.2.2.2.2.2.1, x.1.2.2.2.2.2.2.2.1, x.1.2.2.2.2.2.2.2.2.1, o.2.2.2.2.2.2, x.1.2.2.2.2.2.2.2.2.2.2.1, x.1.2.2.2.2.2.2.2.2.2.2.2), x.2.1, x.2.2.1, x.2.2.2.1, x.2.2.2.2.1, x.2.2.2.2.2.1, (x.2.2.2.2.2.2.1, x.2.2.2.2.2.2.2.1, x.2.2.2.2.2.2.2.2.1, o.2.1, x.2.2.2.2.2.2.2.2.2.2.1, x.2.2.2.2.2.2.2.2.2.2.2.1, x.2.2.2.2.2.2.2.2.2.2.2.2)) (u.2.2.1, y.2.1, y.2.2.1, u.2.2.2, y.2.2.2.2.1, y.2.2.2.2.2.1, y.2.2.2.2.2.2.1, y.2.2.2.2.2.2.2.1, y.2.2.2.2.2.2.2.2.1, y.2.2.2.2.2.2.2.2.2.1, y.2.2.2.2.2.2.2.2.2.2.1, y.2.2.2.2.2.2.2.2.2.2.2.1, y.2.2.2.2.2.2.2.2.2.2.2.2.1, y.2.2.2.2.2.2.2.2.2.2.2.2.2.1, y.2.2.2.2.2.2.2.2.2.2.2.2.2.2.1, u.2.1, y.2.2.2.2.2.2.2.2.2.2.2.2.2.2.2.2.1, y.2.2.2.2.2.2.2.2.2.2.2.2.2.2.2.2.2.1, y.2.2.2.2.2.2.2.2.2.2.2.2.2.2.2.2.2.2.1, y.2.2.2.2.2.2.2.2.2.2.2.2.2.2.2.2.2.2.2.1, y.2.2.2.2.2.2.2.2.2.2.2.2.2.2.2.2.2.2.2.2) := by
  obtain ⟨nw, i0, i1, dr, row, tx, kp0, kp1, bc, nc, fc, ab, be⟩ := x
  obtain ⟨st, yab, ybe, rf, txt, byt, pl, tok, vlu, beg, yrow, th, pts, usd, ahd, um, drw, ik, kpt, kah, kmn⟩ := y
  obtain ⟨hS, hI0, hI1, hT, ⟨hb, hn, hf⟩, ha, he⟩ := hR
  dsimp only at hS hI0 hI1 hT hb hn hf ha he ⊢
  obtain ⟨n, e, h, d, t, s, u, c1, c2, c3, a, ⟨b1, b2, b3, b4, b5, b6, b7⟩, ⟨d5, d6, d7, dum⟩, S, ht, hp⟩ := hS.op
  obtain ⟨⟨g1, g2, g3, g4, g5, g6, g7⟩, ⟨f1, f2, f3⟩, ⟨s0, s1, s2, s3, s4, s8⟩, H⟩ := id S
  obtain ⟨a1, a2, a3, a4, a5, a6, a7, a8, a9, a10, a11⟩ := a
  by_cases h1 : u = 0
  · subst h1
    have e7 : ¬ (0 : Int32) < nw.2.2.2.2.2.2.1 := by rw [b7]; decide
    have e0 : um = 0 := dum
    refine ⟨_, _, (by simp only [f_X3_undo, if_neg e7, v_isWithin, v_isDay, v_isImage, v_bad, v_no, v_full, f_X3_refuseBadAs, Option.bind_some, n10, ↓reduceIte, gd_t]; rfl), (by simp only [f_X4_undo, if_pos e0, in_0_96, in_1_4, in_0_5, in_1_3, in_0_127, in_0_2, in_0_999, in_1_6, in_m1_96, in_0_7, in_0_1, in_0_10, in_0_990, in_0_999999, in_0_60, in_0_100, w_isWhat, w_bad, w_no, w_full, Option.bind_some, n10, ↓reduceIte, gd_t, i27_0, i27_1, i27_5, i27_6, i27_7, i27_8, cl_0, cl_1, cl_5, cl_6, cl_7, cl_8]; rfl), ?_, ?_⟩
    · rfl
    · exact ⟨hS.mono (by omega), hI0.mono (by omega), hI1.mono (by omega), hT, no3 hb hn hf, ha, he⟩
  · obtain ⟨v, rfl⟩ : ∃ v, u = v + 1 := ⟨u - 1, by omega⟩
    obtain ⟨d', t', s', c1', c2', c3', z1, z2, z3, z4, z5, z6, q0, q1, q2, q3, q4, q5, w0, w1, w2, w3, w4, w5⟩ := hp v (by omega)
    obtain ⟨r1, r2, r3, r4, r5, r6, r7, r8, r9, r10, r11, r12⟩ := rem_ar v (by omega)
    have k1 : (0 : Int32) < nI (v + 1) := nI_lt (a := 0) (b := v + 1) (by omega) (by omega)
    have k2 : ¬ nI (v + 1) = 0 := nI_ne0 (by omega) (by omega)
    have k3 : (if nI s' = 1 then some (1 : Int32) else some 0) = some (nI s') := by
      have : s' = 0 ∨ s' = 1 := by omega
      rcases this with rfl | rfl
      · rfl
      · rfl
    have w : ∀ j, j < 6 → wf (fun j => ahd (6 * v + j)) st 2 6 (2 + j) = ahd (6 * v + j) := fun j hj => wf_in hj
    have wo : ∀ j, (j < 2 ∨ 8 ≤ j) → wf (fun j => ahd (6 * v + j)) st 2 6 j = st j := fun j hj => wf_out (by omega)
    have A : f_X0_goBack nw.2.2.2.1 nw.2.2.2.2.1 nw.2.2.2.2.2.1 (nI (v + 1)) nw.2.2.2.2.2.2.2.2.2.1 nw.2.2.2.2.2.2.2.2.2.2.2 = some (nI d', nI t', nI s', nI v, va_cpy nw.2.2.2.2.2.2.2.2.2.2.2 nw.2.2.2.2.2.2.2.2.2.1 (6 * v + 3) 0 3) := by
      simp only [f_X0_goBack, nI_pred, r1, if_neg r2, if_neg r3, r4, r5, r6, r8, gd_t]
      simp only [r9, r10, r11, r12, cl_0, cl_3, q0, q1, q2, k3, Option.bind_some, bz_n z3, gd_t]
    refine ⟨_, _, (by rw [b7]; simp only [f_X3_undo, if_pos k1, A, v_isWithin, v_isDay, v_isImage, v_bad, v_no, v_full, f_X3_refuseBadAs, Option.bind_some, n10, ↓reduceIte, gd_t]; rfl), (by rw [dum]; simp only [f_X4_undo, if_neg k2, w_undoLoop (show v < 8 by omega), nI_pred, in_0_96, in_1_4, in_0_5, in_1_3, in_0_127, in_0_2, in_0_999, in_1_6, in_m1_96, in_0_7, in_0_1, in_0_10, in_0_990, in_0_999999, in_0_60, in_0_100, w_isWhat, w_bad, w_no, w_full, Option.bind_some, n10, ↓reduceIte, gd_t, i27_0, i27_1, i27_5, i27_6, i27_7, i27_8, cl_0, cl_1, cl_5, cl_6, cl_7, cl_8]; rfl), ?_, ?_⟩
    · exact ((w 3 (by decide)).trans w3).symm
    · refine ⟨SR.cl (n := n) (e := e) (h := h) (d := d') (t := t') (s := s') (u := v) (c1 := c1') (c2 := c2') (c3 := c3') ⟨a1, a2, a3, a4, by omega, z2, z3, by omega, z4, z5, z6⟩ ⟨b1, b2, b3, rfl, rfl, rfl, rfl⟩ ⟨(w 3 (by decide)).trans w3, (w 4 (by decide)).trans w4, (w 5 (by decide)).trans w5, rfl⟩ ⟨⟨a1, a2, a3, a4, z4, z5, z6⟩, ⟨?_, ?_, ?_⟩, ⟨(wo 0 (by omega)).trans s0, (wo 1 (by omega)).trans s1, (w 0 (by decide)).trans w0, (w 1 (by decide)).trans w1, (w 2 (by decide)).trans w2, (wo 8 (by omega)).trans s8⟩, fun j hj => ?_⟩ (fun j hj => ?_) (fun i hi => (hp i (by omega)).mono (by omega)), hI0.mono (by omega), hI1.mono (by omega), hT, ⟨hb, hn, hf⟩, ha, he⟩
      · show va_cpy nw.2.2.2.2.2.2.2.2.2.2.2 nw.2.2.2.2.2.2.2.2.2.1 (6 * v + 3) 0 3 0 = _
        rw [pk_cpy_in (by omega) (by omega)]
        exact q3
      · show va_cpy nw.2.2.2.2.2.2.2.2.2.2.2 nw.2.2.2.2.2.2.2.2.2.1 (6 * v + 3) 0 3 1 = _
        rw [pk_cpy_in (by omega) (by omega)]
        exact q4
      · show va_cpy nw.2.2.2.2.2.2.2.2.2.2.2 nw.2.2.2.2.2.2.2.2.2.1 (6 * v + 3) 0 3 2 = _
        rw [pk_cpy_in (by omega) (by omega)]
        exact q5
      · have e1 := wo (9 + j) (by omega)
        have e2 := wo (15 + j) (by omega)
        have e3 := H j hj
        rw [← e1, ← e2] at e3
        exact e3
      · have e1 := wo (21 + j) (by omega)
        have e2 := ht j hj
        rw [← e1] at e2
        exact e2
theorem change_both {n e h c1 c2 c3 : Nat} {kinds extras fac st : Nat → Int32} (S : SD n e h c1 c2 c3 kinds extras fac st) {X : Nat} (hX : X < 2 ^ 31) :
    ∃ (fac' : Nat → Int32) (dr : Int64) (st' : Nat → Int32), lp (b_X0_changeWay_6 (nI e)) 200 (lN X, 1, fac) = some fac' ∧ lp b_X4_change_29 200 (1, lN X, st) = some (dr, st') ∧ (∀ j, j < 3 → ∃ c, c < 97 ∧ fac' j = nI c ∧ st' (2 + j) = nI c) ∧ (∀ j, (j < 2 ∨ 5 ≤ j) → st' j = st j) := by
  obtain ⟨⟨g1, g2, g3, g4, g5, g6, g7⟩, ⟨f1, f2, f3⟩, ⟨s0, s1, s2, s3, s4, s8⟩, H⟩ := S
  have F : ∀ j, j < 3 → ∃ c, c < 97 ∧ fac j = nI c ∧ st (2 + j) = nI c := fun j hj => by
    have : j = 0 ∨ j = 1 ∨ j = 2 := by omega
    rcases this with rfl | rfl | rfl
    · exact ⟨c1, g5, f1, s2⟩
    · exact ⟨c2, g6, f2, s3⟩
    · exact ⟨c3, g7, f3, s4⟩
  obtain ⟨r, r', q1, q2, q3, q4⟩ := lp_rel (b1 := b_X0_changeWay_6 (nI e)) (b2 := b_X4_change_29)
    (fun x y => ∃ i Y : Nat, 1 ≤ i ∧ i ≤ 4 ∧ Y < 2 ^ 31 ∧ x.1 = lN Y ∧ y.2.1 = lN Y ∧ x.2.1 = nI i ∧ y.1 = nI i ∧ (∀ j, j < 3 → ∃ c, c < 97 ∧ x.2.2 j = nI c ∧ y.2.2 (2 + j) = nI c) ∧ (∀ j, (j < 2 ∨ 5 ≤ j) → y.2.2 j = st j))
    (fun x y => (∀ j, j < 3 → ∃ c, c < 97 ∧ x j = nI c ∧ y.2 (2 + j) = nI c) ∧ (∀ j, (j < 2 ∨ 5 ≤ j) → y.2 j = st j)) (fun x => 5 - x.2.1.toNatClampNeg) (by
    rintro ⟨x, xi, xf⟩ ⟨yi, y, ys⟩ ⟨i, Y, hi1, hi4, hY, rfl, hy, rfl, hyi, hF, hO⟩
    dsimp only at hy hyi hF hO
    subst hy hyi
    have hy1 : ys 1 = nI e := by rw [hO 1 (by omega), s1]
    by_cases q : e ≤ i
    · right
      have k1 : nI e ≤ nI i := nI_le q (by omega)
      exact ⟨xf, (lN Y, ys), by simp only [b_X0_changeWay_6, if_pos k1], by simp only [b_X4_change_29, i27_1, cl_1, gd_t, hy1, if_pos k1], hF, hO⟩
    · left
      obtain ⟨j, rfl⟩ : ∃ j, i = j + 1 := ⟨i - 1, by omega⟩
      have hj : j < 3 := by omega
      have k1 : ¬ nI e ≤ nI (j + 1) := nI_ge (by omega) (by omega)
      obtain ⟨Z, hZ, eZ⟩ := next_n hY
      obtain ⟨b, hb, eb⟩ := draw_n hZ (d := 97) (by decide) (by decide)
      obtain ⟨c, hc, c1', c2'⟩ := hF j hj
      have n97 : decide (¬ (97 : Int32).toInt64 = 0) = true := by decide
      have eb : (jlrem (lN Z / 65536) (97 : Int32).toInt64).toInt32 = nI b := eb
      have k2 : ¬ nI (j + 1) < 1 := nI_nlt (a := j + 1) (b := 1) (by omega) (by omega)
      have k3 : ¬ (3 : Int32) < nI (j + 1) := nI_nlt (a := 3) (b := j + 1) (by omega) (by omega)
      have k4 : (2 : Int32) + nI (j + 1) - 1 = nI (2 + j) := by
        rw [show (2 : Int32) + nI (j + 1) = nI (2 + j + 1) from nI_add 2 (j + 1), nI_pred]
      have k5 : inb (nI (2 + j)) 27 = true := inb_nI (by omega) (by decide)
      have k6 : (nI (2 + j)).toNatClampNeg = 2 + j := nI_clamp (by omega)
      have k7 : (1 : Int32) ≤ 97 := by decide
      refine ⟨(lN Z, nI (j + 1 + 1), upd xf j (nI ((c + b) % 97))), (nI (j + 1 + 1), lN Z, upd ys (2 + j) (nI ((c + b) % 97))), ?_, ?_, ⟨j + 1 + 1, Z, by omega, by omega, hZ, rfl, rfl, rfl, rfl, fun l hl => ?_, fun l hl => ?_⟩, ?_⟩
      · simp only [b_X0_changeWay_6, if_neg k1, f_X3_nextX, eZ, Option.bind_some, f_X0_factor, if_neg k2, if_neg k3, nI_pred, inb_nI hj (by decide), nI_clamp (show j < 2 ^ 31 by omega), gd_t, f_X3_drawn, if_pos k7, n97, eb, c1', nI_add, v_leftOver (show c + b < 2 ^ 31 by omega), f_X0_putFactor]
        rw [nI_1]
      · simp only [b_X4_change_29, i27_1, cl_1, gd_t, hy1, if_neg k1, k4, k5, k6, f_X4_draw, n97, eZ, eb, Option.bind_some, c2', nI_add, jr97 (show c + b < 2 ^ 31 by omega)]
        rw [nI_1]
      · by_cases z : l = j
        · subst z
          exact ⟨_, Nat.mod_lt _ (by decide), pk_us, pk_us⟩
        · obtain ⟨c'', y1, y2, y3⟩ := hF l hl
          exact ⟨c'', y1, (pk_un z).trans y2, (pk_un (by omega)).trans y3⟩
      · exact (pk_un (by omega)).trans (hO l hl)
      · show 5 - (nI (j + 1 + 1)).toNatClampNeg < 5 - (nI (j + 1)).toNatClampNeg
        rw [nI_clamp (by omega), nI_clamp (by omega)]
        omega) 200 200 (lN X, 1, fac) (1, lN X, st) ⟨1, X, by omega, by omega, hX, rfl, rfl, rfl, rfl, F, fun _ _ => rfl⟩ (by show 5 - (1 : Int32).toNatClampNeg < 200; rw [cl_1]; omega) (by show 5 - (1 : Int32).toNatClampNeg < 200; rw [cl_1]; omega)
  exact ⟨r, r'.1, r'.2, q1, q2, q3, q4⟩
theorem L2_change (k : Nat) (hk : k ≤ 256) (x : CX) (y : MX) (hR : RR k x y) (p1 : Int32) : ∃ (o : Int32 × Int32 × Int32 × (Nat → Int32) × (Nat → Int32)) (u : Int32 × Int32 × Int64 × (Nat → Int32) × (Nat → Int32) × (Nat → Int32)), f_X3_change x.2.2.2.2.2.2.2.2.1 x.1.2.1 x.1.2.2.2.1 x.1.2.2.2.2.1 x.1.2.2.2.2.2.1 x.1.2.2.2.2.2.2.1 x.1.2.2.2.2.2.2.2.2.2.1 x.1.2.2.2.2.2.2.2.2.2.2.2 p1 = some o ∧ f_X4_change y.2.2.2.2.2.2.2.2.2.2.2.2.2.2.2.1 y.2.2.2.2.2.2.2.2.2.2.2.2.2.2.2.2.1 y.1 y.2.2.2.1 y.2.2.2.2.2.2.2.2.2.2.2.2.2.2.1 p1 = some u ∧ o.1 = u.1 ∧ RR (k + 4) ((x.1.1, x.1.2.1, x.1.2.2.1, x.1.2.2.2.1, x.1.2.2.2.2.1, x.1.2.2.2.2.2.1, o.2.2.1, x.1.2.2.2.2.2.2.2.1, x.1.2.2.2.2.2.2.2.2.1, o.2.2.2.1, x.1.2.2.2.2.2.2.2.2.2.2.1, o.2.2.2.2), x.2.1, x.2.2.1, x.2.2.2.1, x.2.2.2.2.1, x.2.2.2.2.2.1, (x.2.2.2.2.2.2.1, x.2.2.2.2.2.2.2.1, o.2.1, x.2.2.2.2.2.2.2.2.2.1, x.2.2.2.2.2.2.2.2.2.2.1, x.2.2.2.2.2.2.2.2.2.2.2.1, x.2.2.2.2.2.2.2.2.2.2.2.2)) (u.2.2.2.1, y.2.1, y.2.2.1, u.2.2.2.2.1, y.2.2.2.2.1, y.2.2.2.2.2.1, y.2.2.2.2.2.2.1, y.2.2.2.2.2.2.2.1, y.2.2.2.2.2.2.2.2.1, y.2.2.2.2.2.2.2.2.2.1, y.2.2.2.2.2.2.2.2.2.2.1, y.2.2.2.2.2.2.2.2.2.2.2.1, y.2.2.2.2.2.2.2.2.2.2.2.2.1, y.2.2.2.2.2.2.2.2.2.2.2.2.2.1, u.2.2.2.2.2, u.2.1, u.2.2.1, y.2.2.2.2.2.2.2.2.2.2.2.2.2.2.2.2.2.1, y.2.2.2.2.2.2.2.2.2.2.2.2.2.2.2.2.2.2.1, y.2.2.2.2.2.2.2.2.2.2.2.2.2.2.2.2.2.2.2.1, y.2.2.2.2.2.2.2.2.2.2.2.2.2.2.2.2.2.2.2.2) := by
  obtain ⟨nw, i0, i1, dr, row, tx, kp0, kp1, bc, nc, fc, ab, be⟩ := x
  obtain ⟨st, yab, ybe, rf, txt, byt, pl, tok, vlu, beg, yrow, th, pts, usd, ahd, um, drw, ik, kpt, kah, kmn⟩ := y
  obtain ⟨hS, hI0, hI1, hT, ⟨hb, hn, hf⟩, ha, he⟩ := hR
  dsimp only at hS hI0 hI1 hT hb hn hf ha he ⊢
  obtain ⟨n, e, h, d, t, s, u, c1, c2, c3, a, ⟨b1, b2, b3, b4, b5, b6, b7⟩, ⟨d5, d6, d7, dum⟩, S, ht, hp⟩ := hS.op
  obtain ⟨⟨g1, g2, g3, g4, g5, g6, g7⟩, ⟨f1, f2, f3⟩, ⟨s0, s1, s2, s3, s4, s8⟩, H⟩ := id S
  by_cases h1 : ¬ p1 < 0 ∧ ¬ (999999 : Int32) < p1
  · obtain ⟨X, hX, rfl⟩ := wi_n (N := 999999) rfl (by decide) h1
    obtain ⟨a1, a2, a3, a4, a5, a6, a7, a8, a9, a10, a11⟩ := a
    obtain ⟨u', past', ahead', hu', A, B, C⟩ := note_both (k := k) a8 a5 a6 a7 g5 g6 g7 f1 f2 f3 s2 s3 s4 d5 d6 d7 hp
    obtain ⟨fac', dr', st', D, E, F, G⟩ := change_both S (X := X) (by omega)
    have eX : (nI X).toInt64 = lN X := nI_l (by omega)
    rw [← eX] at D E
    have q1 : st' 1 = nI e := (G 1 (by omega)).trans s1
    obtain ⟨y1, z1, w1, v1⟩ := F 0 (by decide)
    obtain ⟨y2, z2, w2, v2⟩ := F 1 (by decide)
    obtain ⟨y3, z3, w3, v3⟩ := F 2 (by decide)
    refine ⟨_, _, (by rw [b2, b4, b5, b6, b7]; simp only [f_X3_change, v_isWithin, v_isDay, v_isImage, v_bad, v_no, v_full, f_X3_refuseBadAs, Option.bind_some, n10, ↓reduceIte, gd_t, if_pos h1, A, f_X0_changeWay, D]; rfl), (by rw [dum]; simp only [f_X4_change, in_0_96, in_1_4, in_0_5, in_1_3, in_0_127, in_0_2, in_0_999, in_1_6, in_m1_96, in_0_7, in_0_1, in_0_10, in_0_990, in_0_999999, in_0_60, in_0_100, w_isWhat, w_bad, w_no, w_full, Option.bind_some, n10, ↓reduceIte, gd_t, i27_0, i27_1, i27_5, i27_6, i27_7, i27_8, cl_0, cl_1, cl_5, cl_6, cl_7, cl_8, if_pos h1, B, E, q1]; rfl), ?_, ?_⟩
    · rfl
    · refine ⟨SR.cl (n := n) (e := e) (h := h) (d := d) (t := t) (s := s) (u := u') (c1 := y1) (c2 := y2) (c3 := y3) ⟨a1, a2, a3, a4, by omega, a6, a7, hu', z1, z2, z3⟩ ⟨b1, b2, b3, b4, b5, b6, rfl⟩ ⟨(G 5 (by omega)).trans d5, (G 6 (by omega)).trans d6, (G 7 (by omega)).trans d7, rfl⟩ ⟨⟨a1, a2, a3, a4, z1, z2, z3⟩, ⟨w1, w2, w3⟩, ⟨(G 0 (by omega)).trans s0, q1, v1, v2, v3, (G 8 (by omega)).trans s8⟩, fun j hj => ?_⟩ (fun j hj => ?_) (fun i hi => (C i hi).mono (by omega)), hI0.mono (by omega), hI1.mono (by omega), hT, ⟨hb, hn, hf⟩, ha, he⟩
      · have e1 := G (9 + j) (by omega)
        have e2 := G (15 + j) (by omega)
        have e3 := H j hj
        rw [← e1, ← e2] at e3
        exact e3
      · have e1 := G (21 + j) (by omega)
        have e2 := ht j hj
        rw [← e1] at e2
        exact e2
  · refine ⟨_, _, (by simp only [f_X3_change, v_isWithin, v_isDay, v_isImage, v_bad, v_no, v_full, f_X3_refuseBadAs, Option.bind_some, n10, ↓reduceIte, gd_t, if_neg h1]; rfl), (by simp only [f_X4_change, in_0_96, in_1_4, in_0_5, in_1_3, in_0_127, in_0_2, in_0_999, in_1_6, in_m1_96, in_0_7, in_0_1, in_0_10, in_0_990, in_0_999999, in_0_60, in_0_100, w_isWhat, w_bad, w_no, w_full, Option.bind_some, n10, ↓reduceIte, gd_t, i27_0, i27_1, i27_5, i27_6, i27_7, i27_8, cl_0, cl_1, cl_5, cl_6, cl_7, cl_8, if_neg h1]; rfl), ?_, ?_⟩
    · rfl
    · exact ⟨hS.mono (by omega), hI0.mono (by omega), hI1.mono (by omega), hT, bad3 hb hn hf, ha, he⟩
