/-! the pure rows, method by method -/
theorem in_0_96 (v : Int32) : f_X4_in v.toInt64 0 96 = some (if ¬ v < 0 ∧ ¬ 96 < v then 1 else 0) := v_in (by rfl) (by rfl)
theorem in_1_4 (v : Int32) : f_X4_in v.toInt64 1 4 = some (if ¬ v < 1 ∧ ¬ 4 < v then 1 else 0) := v_in (by rfl) (by rfl)
theorem in_0_5 (v : Int32) : f_X4_in v.toInt64 0 5 = some (if ¬ v < 0 ∧ ¬ 5 < v then 1 else 0) := v_in (by rfl) (by rfl)
theorem in_1_3 (v : Int32) : f_X4_in v.toInt64 1 3 = some (if ¬ v < 1 ∧ ¬ 3 < v then 1 else 0) := v_in (by rfl) (by rfl)
theorem in_0_127 (v : Int32) : f_X4_in v.toInt64 0 127 = some (if ¬ v < 0 ∧ ¬ 127 < v then 1 else 0) := v_in (by rfl) (by rfl)
theorem in_0_2 (v : Int32) : f_X4_in v.toInt64 0 2 = some (if ¬ v < 0 ∧ ¬ 2 < v then 1 else 0) := v_in (by rfl) (by rfl)
theorem in_0_999 (v : Int32) : f_X4_in v.toInt64 0 999 = some (if ¬ v < 0 ∧ ¬ 999 < v then 1 else 0) := v_in (by rfl) (by rfl)
theorem in_1_6 (v : Int32) : f_X4_in v.toInt64 1 6 = some (if ¬ v < 1 ∧ ¬ 6 < v then 1 else 0) := v_in (by rfl) (by rfl)
theorem in_0_7 (v : Int32) : f_X4_in v.toInt64 0 7 = some (if ¬ v < 0 ∧ ¬ 7 < v then 1 else 0) := v_in (by rfl) (by rfl)
theorem in_0_1 (v : Int32) : f_X4_in v.toInt64 0 1 = some (if ¬ v < 0 ∧ ¬ 1 < v then 1 else 0) := v_in (by rfl) (by rfl)
theorem in_0_10 (v : Int32) : f_X4_in v.toInt64 0 10 = some (if ¬ v < 0 ∧ ¬ 10 < v then 1 else 0) := v_in (by rfl) (by rfl)
theorem in_0_990 (v : Int32) : f_X4_in v.toInt64 0 990 = some (if ¬ v < 0 ∧ ¬ 990 < v then 1 else 0) := v_in (by rfl) (by rfl)
theorem in_0_999999 (v : Int32) : f_X4_in v.toInt64 0 999999 = some (if ¬ v < 0 ∧ ¬ 999999 < v then 1 else 0) := v_in (by rfl) (by rfl)
theorem in_0_60 (v : Int32) : f_X4_in v.toInt64 0 60 = some (if ¬ v < 0 ∧ ¬ 60 < v then 1 else 0) := v_in (by rfl) (by rfl)
theorem in_0_100 (v : Int32) : f_X4_in v.toInt64 0 100 = some (if ¬ v < 0 ∧ ¬ 100 < v then 1 else 0) := v_in (by rfl) (by rfl)
theorem in_m1_96 (v : Int32) : f_X4_in v.toInt64 (-1) 96 = some (if ¬ v < -1 ∧ ¬ 96 < v then 1 else 0) := v_in (by rfl) (by rfl)
theorem L2_clear (k : Nat) (hk : k ≤ 256) (x : CX) (y : MX) (hR : RR k x y) : ∃ (o : Int32 × Int32) (u : Int32 × Int32), f_X3_clear x.2.2.2.2.2.1.1 = some o ∧ f_X4_clear y.2.2.2.2.2.1 = some u ∧ o.1 = u.1 ∧ RR (k + 4) (x.1, x.2.1, x.2.2.1, x.2.2.2.1, x.2.2.2.2.1, (o.2, x.2.2.2.2.2.1.2.1, x.2.2.2.2.2.1.2.2.1, x.2.2.2.2.2.1.2.2.2.1, x.2.2.2.2.2.1.2.2.2.2), x.2.2.2.2.2.2) (y.1, y.2.1, y.2.2.1, y.2.2.2.1, y.2.2.2.2.1, u.2, y.2.2.2.2.2.2.1, y.2.2.2.2.2.2.2.1, y.2.2.2.2.2.2.2.2.1, y.2.2.2.2.2.2.2.2.2.1, y.2.2.2.2.2.2.2.2.2.2.1, y.2.2.2.2.2.2.2.2.2.2.2.1, y.2.2.2.2.2.2.2.2.2.2.2.2.1, y.2.2.2.2.2.2.2.2.2.2.2.2.2.1, y.2.2.2.2.2.2.2.2.2.2.2.2.2.2.1, y.2.2.2.2.2.2.2.2.2.2.2.2.2.2.2.1, y.2.2.2.2.2.2.2.2.2.2.2.2.2.2.2.2.1, y.2.2.2.2.2.2.2.2.2.2.2.2.2.2.2.2.2.1, y.2.2.2.2.2.2.2.2.2.2.2.2.2.2.2.2.2.2.1, y.2.2.2.2.2.2.2.2.2.2.2.2.2.2.2.2.2.2.2.1, y.2.2.2.2.2.2.2.2.2.2.2.2.2.2.2.2.2.2.2.2) := by
  obtain ⟨nw, i0, i1, dr, row, tx, kp0, kp1, bc, nc, fc, ab, be⟩ := x
  obtain ⟨st, yab, ybe, rf, txt, byt, pl, tok, vlu, beg, yrow, th, pts, usd, ahd, um, drw, ik, kpt, kah, kmn⟩ := y
  obtain ⟨hS, hI0, hI1, hT, ⟨hb, hn, hf⟩, ha, he⟩ := hR
  dsimp only at hS hI0 hI1 hT hb hn hf ha he ⊢
  refine ⟨_, _, rfl, rfl, ?_, ?_⟩
  · obtain ⟨n, _, h1, h2, _⟩ := hT
    exact h1.trans h2.symm
  · exact ⟨hS.mono (by omega), hI0.mono (by omega), hI1.mono (by omega), ⟨0, by omega, rfl, rfl, fun j hj => absurd hj (by omega)⟩, ⟨hb, hn, hf⟩, ha, he⟩
theorem L2_safe (k : Nat) (hk : k ≤ 256) (x : CX) (y : MX) (hR : RR k x y) (p1 : Int32) (p2 : Int32) : ∃ (o : Int32 × Int32 × Int32 × Int32 × Int32 × Int32 × Int32 × Int32 × Int32 × (Nat → Int32) × (Nat → Int32)) (u : Int32 × Int32 × (Nat → Int32) × (Nat → Int32)), f_X3_safe x.2.2.2.2.2.2.2.2.1 x.1.1 x.1.2.1 x.1.2.2.1 x.1.2.2.2.1 x.1.2.2.2.2.1 x.1.2.2.2.2.2.1 x.1.2.2.2.2.2.2.1 x.1.2.2.2.2.2.2.2.2.2.1 x.1.2.2.2.2.2.2.2.2.2.2.1 p1 p2 = some o ∧ f_X4_safe y.2.2.2.2.2.2.2.2.2.2.2.2.2.2.2.1 y.1 y.2.2.2.1 p1 p2 = some u ∧ o.1 = u.1 ∧ RR (k + 4) ((o.2.2.1, o.2.2.2.1, o.2.2.2.2.1, o.2.2.2.2.2.1, o.2.2.2.2.2.2.1, o.2.2.2.2.2.2.2.1, o.2.2.2.2.2.2.2.2.1, x.1.2.2.2.2.2.2.2.1, x.1.2.2.2.2.2.2.2.2.1, o.2.2.2.2.2.2.2.2.2.1, o.2.2.2.2.2.2.2.2.2.2, x.1.2.2.2.2.2.2.2.2.2.2.2), x.2.1, x.2.2.1, x.2.2.2.1, x.2.2.2.2.1, x.2.2.2.2.2.1, (x.2.2.2.2.2.2.1, x.2.2.2.2.2.2.2.1, o.2.1, x.2.2.2.2.2.2.2.2.2.1, x.2.2.2.2.2.2.2.2.2.2.1, x.2.2.2.2.2.2.2.2.2.2.2.1, x.2.2.2.2.2.2.2.2.2.2.2.2)) (u.2.2.1, y.2.1, y.2.2.1, u.2.2.2, y.2.2.2.2.1, y.2.2.2.2.2.1, y.2.2.2.2.2.2.1, y.2.2.2.2.2.2.2.1, y.2.2.2.2.2.2.2.2.1, y.2.2.2.2.2.2.2.2.2.1, y.2.2.2.2.2.2.2.2.2.2.1, y.2.2.2.2.2.2.2.2.2.2.2.1, y.2.2.2.2.2.2.2.2.2.2.2.2.1, y.2.2.2.2.2.2.2.2.2.2.2.2.2.1, y.2.2.2.2.2.2.2.2.2.2.2.2.2.2.1, u.2.1, y.2.2.2.2.2.2.2.2.2.2.2.2.2.2.2.2.1, y.2.2.2.2.2.2.2.2.2.2.2.2.2.2.2.2.2.1, y.2.2.2.2.2.2.2.2.2.2.2.2.2.2.2.2.2.2.1, y.2.2.2.2.2.2.2.2.2.2.2.2.2.2.2.2.2.2.2.1, y.2.2.2.2.2.2.2.2.2.2.2.2.2.2.2.2.2.2.2.2) := by
  obtain ⟨nw, i0, i1, dr, row, tx, kp0, kp1, bc, nc, fc, ab, be⟩ := x
  obtain ⟨st, yab, ybe, rf, txt, byt, pl, tok, vlu, beg, yrow, th, pts, usd, ahd, um, drw, ik, kpt, kah, kmn⟩ := y
  obtain ⟨hS, hI0, hI1, hT, ⟨hb, hn, hf⟩, ha, he⟩ := hR
  dsimp only at hS hI0 hI1 hT hb hn hf ha he ⊢
  obtain ⟨n, e, h, d, t, s, u, c1, c2, c3, a, ⟨b1, b2, b3, b4, b5, b6, b7⟩, ⟨d5, d6, d7, dum⟩, S, ht, hp⟩ := hS.op
  obtain ⟨⟨g1, g2, g3, g4, g5, g6, g7⟩, ⟨f1, f2, f3⟩, ⟨s0, s1, s2, s3, s4, s8⟩, H⟩ := id S
  by_cases h1 : ¬ p1 < 0 ∧ ¬ (96 : Int32) < p1
  · by_cases h2 : ¬ p2 < 1 ∧ ¬ (4 : Int32) < p2
    · obtain ⟨n', hn', rfl⟩ := wi_n (N := 96) rfl (by decide) h1
      obtain ⟨e', he', he4', rfl⟩ := wi_n1 (N := 4) rfl (by decide) h2
      refine ⟨_, _, (by simp only [f_X3_safe, v_isWithin, v_isDay, v_isImage, v_bad, v_no, v_full, f_X3_refuseBadAs, Option.bind_some, n10, ↓reduceIte, gd_t, if_pos h1, if_pos h2, f_X0_begin, v_fill (show 3 ≤ 150 by decide), v_empty]; rfl), (by simp only [f_X4_safe, in_0_96, in_1_4, in_0_5, in_1_3, in_0_127, in_0_2, in_0_999, in_1_6, in_m1_96, in_0_7, in_0_1, in_0_10, in_0_990, in_0_999999, in_0_60, in_0_100, w_isWhat, w_bad, w_no, w_full, Option.bind_some, n10, ↓reduceIte, gd_t, i27_0, i27_1, i27_5, i27_6, i27_7, i27_8, cl_0, cl_1, cl_5, cl_6, cl_7, cl_8, if_pos h1, if_pos h2, w_anew]; rfl), ?_, ?_⟩
      · exact b3.trans s8.symm
      · exact ⟨SR.new (by omega) he' he4' _ _ _ _ _ _ _, hI0.mono (by omega), hI1.mono (by omega), hT, ⟨hb, hn, hf⟩, ha, he⟩
    · refine ⟨_, _, (by simp only [f_X3_safe, v_isWithin, v_isDay, v_isImage, v_bad, v_no, v_full, f_X3_refuseBadAs, Option.bind_some, n10, ↓reduceIte, gd_t, if_pos h1, if_neg h2]; rfl), (by simp only [f_X4_safe, in_0_96, in_1_4, in_0_5, in_1_3, in_0_127, in_0_2, in_0_999, in_1_6, in_m1_96, in_0_7, in_0_1, in_0_10, in_0_990, in_0_999999, in_0_60, in_0_100, w_isWhat, w_bad, w_no, w_full, Option.bind_some, n10, ↓reduceIte, gd_t, i27_0, i27_1, i27_5, i27_6, i27_7, i27_8, cl_0, cl_1, cl_5, cl_6, cl_7, cl_8, if_pos h1, if_neg h2]; rfl), ?_, ?_⟩
      · rfl
      · exact ⟨hS.mono (by omega), hI0.mono (by omega), hI1.mono (by omega), hT, bad3 hb hn hf, ha, he⟩
  · refine ⟨_, _, (by simp only [f_X3_safe, v_isWithin, v_isDay, v_isImage, v_bad, v_no, v_full, f_X3_refuseBadAs, Option.bind_some, n10, ↓reduceIte, gd_t, if_neg h1]; rfl), (by simp only [f_X4_safe, in_0_96, in_1_4, in_0_5, in_1_3, in_0_127, in_0_2, in_0_999, in_1_6, in_m1_96, in_0_7, in_0_1, in_0_10, in_0_990, in_0_999999, in_0_60, in_0_100, w_isWhat, w_bad, w_no, w_full, Option.bind_some, n10, ↓reduceIte, gd_t, i27_0, i27_1, i27_5, i27_6, i27_7, i27_8, cl_0, cl_1, cl_5, cl_6, cl_7, cl_8, if_neg h1]; rfl), ?_, ?_⟩
    · rfl
    · exact ⟨hS.mono (by omega), hI0.mono (by omega), hI1.mono (by omega), hT, bad3 hb hn hf, ha, he⟩
