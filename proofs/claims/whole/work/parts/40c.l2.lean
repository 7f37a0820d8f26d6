theorem wi_tv {v : Int32} (q : ¬ v < -1 ∧ ¬ (96 : Int32) < v) : tv v := by
  by_cases h : v < 0
  · left
    have h1 := q.1
    rw [fa_lt] at h h1
    rw [fa_eq]
    have : (-1 : Int32).toInt = -1 := by decide
    have h0 : (0 : Int32).toInt = 0 := by decide
    omega
  · right
    obtain ⟨j, hj, rfl⟩ := wi_n (N := 96) rfl (by decide) ⟨h, q.2⟩
    exact ⟨j, by omega, rfl⟩
theorem w_forgetLoop (st : Nat → Int32) : lp b_X4_forget_7 200 (0, st) = some (fun j => if 21 ≤ j ∧ j < 27 then -1 else st j) := by
  have key : lp b_X4_forget_7 200 (nI 0, (fun j => if 21 ≤ j ∧ j < 21 + 0 then -1 else st j)) = some (fun j => if 21 ≤ j ∧ j < 21 + 6 then -1 else st j) := by
    refine lp_run (fun i => (nI i, (fun j => if 21 ≤ j ∧ j < 21 + i then -1 else st j))) 6 (fun i hi => ?_) ?_ 200 (by decide)
    · simp only [b_X4_forget_7, if_neg (i6 hi), a21, i21 hi, c21 hi, gd_t, nI_1]
      congr 3
      funext j
      unfold upd
      by_cases q : j = 21 + i
      · rw [if_pos q, if_pos (by omega)]
      · rw [if_neg q]
        show (if 21 ≤ j ∧ j < 21 + i then (-1 : Int32) else st j) = _
        by_cases z : 21 ≤ j ∧ j < 21 + i
        · rw [if_pos z, if_pos (by omega)]
        · rw [if_neg z, if_neg (by omega)]
    · simp only [b_X4_forget_7, if_pos i6e]
  have e0 : (fun j => if 21 ≤ j ∧ j < 21 + 0 then (-1 : Int32) else st j) = st := funext fun j => if_neg (by omega)
  rw [e0] at key
  exact key
theorem L2_tell (k : Nat) (hk : k ≤ 256) (x : CX) (y : MX) (hR : RR k x y) (p1 : Int32) (p2 : Int32) : ∃ (o : Int32 × Int32 × (Nat → Int32)) (u : Int32 × (Nat → Int32) × (Nat → Int32)), f_X3_tell x.2.2.2.2.2.2.2.2.1 x.1.2.2.2.2.2.2.2.2.2.2.1 p1 p2 = some o ∧ f_X4_tell y.1 y.2.2.2.1 p1 p2 = some u ∧ o.1 = u.1 ∧ RR (k + 4) ((x.1.1, x.1.2.1, x.1.2.2.1, x.1.2.2.2.1, x.1.2.2.2.2.1, x.1.2.2.2.2.2.1, x.1.2.2.2.2.2.2.1, x.1.2.2.2.2.2.2.2.1, x.1.2.2.2.2.2.2.2.2.1, x.1.2.2.2.2.2.2.2.2.2.1, o.2.2, x.1.2.2.2.2.2.2.2.2.2.2.2), x.2.1, x.2.2.1, x.2.2.2.1, x.2.2.2.2.1, x.2.2.2.2.2.1, (x.2.2.2.2.2.2.1, x.2.2.2.2.2.2.2.1, o.2.1, x.2.2.2.2.2.2.2.2.2.1, x.2.2.2.2.2.2.2.2.2.2.1, x.2.2.2.2.2.2.2.2.2.2.2.1, x.2.2.2.2.2.2.2.2.2.2.2.2)) (u.2.1, y.2.1, y.2.2.1, u.2.2, y.2.2.2.2.1, y.2.2.2.2.2.1, y.2.2.2.2.2.2.1, y.2.2.2.2.2.2.2.1, y.2.2.2.2.2.2.2.2.1, y.2.2.2.2.2.2.2.2.2.1, y.2.2.2.2.2.2.2.2.2.2.1, y.2.2.2.2.2.2.2.2.2.2.2.1, y.2.2.2.2.2.2.2.2.2.2.2.2.1, y.2.2.2.2.2.2.2.2.2.2.2.2.2.1, y.2.2.2.2.2.2.2.2.2.2.2.2.2.2.1, y.2.2.2.2.2.2.2.2.2.2.2.2.2.2.2.1, y.2.2.2.2.2.2.2.2.2.2.2.2.2.2.2.2.1, y.2.2.2.2.2.2.2.2.2.2.2.2.2.2.2.2.2.1, y.2.2.2.2.2.2.2.2.2.2.2.2.2.2.2.2.2.2.1, y.2.2.2.2.2.2.2.2.2.2.2.2.2.2.2.2.2.2.2.1, y.2.2.2.2.2.2.2.2.2.2.2.2.2.2.2.2.2.2.2.2) := by
  obtain ⟨nw, i0, i1, dr, row, tx, kp0, kp1, bc, nc, fc, ab, be⟩ := x
  obtain ⟨st, yab, ybe, rf, txt, byt, pl, tok, vlu, beg, yrow, th, pts, usd, ahd, um, drw, ik, kpt, kah, kmn⟩ := y
  obtain ⟨hS, hI0, hI1, hT, ⟨hb, hn, hf⟩, ha, he⟩ := hR
  dsimp only at hS hI0 hI1 hT hb hn hf ha he ⊢
  obtain ⟨n, e, h, d, t, s, u, c1, c2, c3, a, ⟨b1, b2, b3, b4, b5, b6, b7⟩, ⟨d5, d6, d7, dum⟩, S, ht, hp⟩ := hS.op
  obtain ⟨⟨g1, g2, g3, g4, g5, g6, g7⟩, ⟨f1, f2, f3⟩, ⟨s0, s1, s2, s3, s4, s8⟩, H⟩ := id S
  by_cases h1 : ¬ p1 < 0 ∧ ¬ (5 : Int32) < p1
  · by_cases h2 : ¬ p2 < -1 ∧ ¬ (96 : Int32) < p2
    · obtain ⟨m, hm, rfl⟩ := wi_n (N := 5) rfl (by decide) h1
      have hm6 : m < 6 := by omega
      refine ⟨_, _, (by simp only [f_X3_tell, v_isWithin, v_isDay, v_isImage, v_bad, v_no, v_full, f_X3_refuseBadAs, Option.bind_some, n10, ↓reduceIte, gd_t, if_pos h1, if_pos h2, v_at6t hm6, v_put6 hm6]; rfl), (by simp only [f_X4_tell, in_0_96, in_1_4, in_0_5, in_1_3, in_0_127, in_0_2, in_0_999, in_1_6, in_m1_96, in_0_7, in_0_1, in_0_10, in_0_990, in_0_999999, in_0_60, in_0_100, w_isWhat, w_bad, w_no, w_full, Option.bind_some, n10, ↓reduceIte, gd_t, i27_0, i27_1, i27_5, i27_6, i27_7, i27_8, cl_0, cl_1, cl_5, cl_6, cl_7, cl_8, if_pos h1, if_pos h2, a21, i21 hm6, c21 hm6]; rfl), ?_, ?_⟩
      · exact (ht m hm6).1
      · refine ⟨SR.st (hS.mono (by omega)) ⟨rfl, rfl, rfl, rfl, rfl, rfl, rfl, rfl, rfl, rfl, rfl⟩ (fun j hj => pk_un (by omega)) (fun j hj => ?_), hI0.mono (by omega), hI1.mono (by omega), hT, ⟨hb, hn, hf⟩, ha, he⟩
        show (upd nw.2.2.2.2.2.2.2.2.2.2.1 m p2) j = (upd st (21 + m) p2) (21 + j) ∧ tv ((upd st (21 + m) p2) (21 + j))
        by_cases q : j = m
        · subst q
          rw [pk_us, pk_us]
          exact ⟨rfl, wi_tv h2⟩
        · rw [pk_un q, pk_un (by omega)]
          exact ht j hj
    · refine ⟨_, _, (by simp only [f_X3_tell, v_isWithin, v_isDay, v_isImage, v_bad, v_no, v_full, f_X3_refuseBadAs, Option.bind_some, n10, ↓reduceIte, gd_t, if_pos h1, if_neg h2]; rfl), (by simp only [f_X4_tell, in_0_96, in_1_4, in_0_5, in_1_3, in_0_127, in_0_2, in_0_999, in_1_6, in_m1_96, in_0_7, in_0_1, in_0_10, in_0_990, in_0_999999, in_0_60, in_0_100, w_isWhat, w_bad, w_no, w_full, Option.bind_some, n10, ↓reduceIte, gd_t, i27_0, i27_1, i27_5, i27_6, i27_7, i27_8, cl_0, cl_1, cl_5, cl_6, cl_7, cl_8, if_pos h1, if_neg h2]; rfl), ?_, ?_⟩
      · rfl
      · exact ⟨hS.mono (by omega), hI0.mono (by omega), hI1.mono (by omega), hT, bad3 hb hn hf, ha, he⟩
  · refine ⟨_, _, (by simp only [f_X3_tell, v_isWithin, v_isDay, v_isImage, v_bad, v_no, v_full, f_X3_refuseBadAs, Option.bind_some, n10, ↓reduceIte, gd_t, if_neg h1]; rfl), (by simp only [f_X4_tell, in_0_96, in_1_4, in_0_5, in_1_3, in_0_127, in_0_2, in_0_999, in_1_6, in_m1_96, in_0_7, in_0_1, in_0_10, in_0_990, in_0_999999, in_0_60, in_0_100, w_isWhat, w_bad, w_no, w_full, Option.bind_some, n10, ↓reduceIte, gd_t, i27_0, i27_1, i27_5, i27_6, i27_7, i27_8, cl_0, cl_1, cl_5, cl_6, cl_7, cl_8, if_neg h1]; rfl), ?_, ?_⟩
    · rfl
    · exact ⟨hS.mono (by omega), hI0.mono (by omega), hI1.mono (by omega), hT, bad3 hb hn hf, ha, he⟩
theorem L2_forget (k : Nat) (hk : k ≤ 256) (x : CX) (y : MX) (hR : RR k x y) : ∃ (o : Int32 × (Nat → Int32)) (u : Int32 × (Nat → Int32)), f_X3_forget x.1.2.2.2.2.2.2.2.2.2.2.1 = some o ∧ f_X4_forget y.1 = some u ∧ o.1 = u.1 ∧ RR (k + 4) ((x.1.1, x.1.2.1, x.1.2.2.1, x.1.2.2.2.1, x.1.2.2.2.2.1, x.1.2.2.2.2.2.1, x.1.2.2.2.2.2.2.1, x.1.2.2.2.2.2.2.2.1, x.1.2.2.2.2.2.2.2.2.1, x.1.2.2.2.2.2.2.2.2.2.1, o.2, x.1.2.2.2.2.2.2.2.2.2.2.2), x.2.1, x.2.2.1, x.2.2.2.1, x.2.2.2.2.1, x.2.2.2.2.2.1, x.2.2.2.2.2.2) (u.2, y.2.1, y.2.2.1, y.2.2.2.1, y.2.2.2.2.1, y.2.2.2.2.2.1, y.2.2.2.2.2.2.1, y.2.2.2.2.2.2.2.1, y.2.2.2.2.2.2.2.2.1, y.2.2.2.2.2.2.2.2.2.1, y.2.2.2.2.2.2.2.2.2.2.1, y.2.2.2.2.2.2.2.2.2.2.2.1, y.2.2.2.2.2.2.2.2.2.2.2.2.1, y.2.2.2.2.2.2.2.2.2.2.2.2.2.1, y.2.2.2.2.2.2.2.2.2.2.2.2.2.2.1, y.2.2.2.2.2.2.2.2.2.2.2.2.2.2.2.1, y.2.2.2.2.2.2.2.2.2.2.2.2.2.2.2.2.1, y.2.2.2.2.2.2.2.2.2.2.2.2.2.2.2.2.2.1, y.2.2.2.2.2.2.2.2.2.2.2.2.2.2.2.2.2.2.1, y.2.2.2.2.2.2.2.2.2.2.2.2.2.2.2.2.2.2.2.1, y.2.2.2.2.2.2.2.2.2.2.2.2.2.2.2.2.2.2.2.2) := by
  obtain ⟨nw, i0, i1, dr, row, tx, kp0, kp1, bc, nc, fc, ab, be⟩ := x
  obtain ⟨st, yab, ybe, rf, txt, byt, pl, tok, vlu, beg, yrow, th, pts, usd, ahd, um, drw, ik, kpt, kah, kmn⟩ := y
  obtain ⟨hS, hI0, hI1, hT, ⟨hb, hn, hf⟩, ha, he⟩ := hR
  dsimp only at hS hI0 hI1 hT hb hn hf ha he ⊢
  obtain ⟨n, e, h, d, t, s, u, c1, c2, c3, a, ⟨b1, b2, b3, b4, b5, b6, b7⟩, ⟨d5, d6, d7, dum⟩, S, ht, hp⟩ := hS.op
  obtain ⟨⟨g1, g2, g3, g4, g5, g6, g7⟩, ⟨f1, f2, f3⟩, ⟨s0, s1, s2, s3, s4, s8⟩, H⟩ := id S
  refine ⟨_, _, (by simp only [f_X3_forget, v_size, v_empty, v_isWithin, v_isDay, v_isImage, v_bad, v_no, v_full, f_X3_refuseBadAs, Option.bind_some, n10, ↓reduceIte, gd_t]; rfl), (by simp only [f_X4_forget, w_toldMany (fun j hj => (ht j hj).1) (fun j hj => (ht j hj).2), w_forgetLoop, in_0_96, in_1_4, in_0_5, in_1_3, in_0_127, in_0_2, in_0_999, in_1_6, in_m1_96, in_0_7, in_0_1, in_0_10, in_0_990, in_0_999999, in_0_60, in_0_100, w_isWhat, w_bad, w_no, w_full, Option.bind_some, n10, ↓reduceIte, gd_t, i27_0, i27_1, i27_5, i27_6, i27_7, i27_8, cl_0, cl_1, cl_5, cl_6, cl_7, cl_8]; rfl), ?_, ?_⟩
  · rfl
  · refine ⟨SR.st (hS.mono (by omega)) ⟨rfl, rfl, rfl, rfl, rfl, rfl, rfl, rfl, rfl, rfl, rfl⟩ (fun j hj => if_neg (by omega)) (fun j hj => ?_), hI0.mono (by omega), hI1.mono (by omega), hT, ⟨hb, hn, hf⟩, ha, he⟩
    have e1 : (if 21 ≤ 21 + j ∧ 21 + j < 27 then (-1 : Int32) else st (21 + j)) = -1 := if_pos (by omega)
    show fa_fill (fun _ => -1) nw.2.2.2.2.2.2.2.2.2.2.1 6 j = (if 21 ≤ 21 + j ∧ 21 + j < 27 then (-1 : Int32) else st (21 + j)) ∧ tv (if 21 ≤ 21 + j ∧ 21 + j < 27 then (-1 : Int32) else st (21 + j))
    rw [e1, fa_fill_in hj]
    exact ⟨rfl, Or.inl rfl⟩
theorem L2_agree (k : Nat) (hk : k ≤ 256) (x : CX) (y : MX) (hR : RR k x y) : ∃ (o : Int32) (u : Int32 × (Nat → Int32) × (Nat → Int32)), f_X3_agree x.1.2.1 x.1.2.2.2.2.2.2.2.2.2.2.1 = some o ∧ f_X4_agree y.1 y.2.2.2.2.2.2.2.2.2.2.2.2.1 y.2.2.2.2.2.2.2.2.2.2.2.2.2.1 = some u ∧ o = u.1 ∧ RR (k + 4) x (y.1, y.2.1, y.2.2.1, y.2.2.2.1, y.2.2.2.2.1, y.2.2.2.2.2.1, y.2.2.2.2.2.2.1, y.2.2.2.2.2.2.2.1, y.2.2.2.2.2.2.2.2.1, y.2.2.2.2.2.2.2.2.2.1, y.2.2.2.2.2.2.2.2.2.2.1, y.2.2.2.2.2.2.2.2.2.2.2.1, u.2.1, u.2.2, y.2.2.2.2.2.2.2.2.2.2.2.2.2.2.1, y.2.2.2.2.2.2.2.2.2.2.2.2.2.2.2.1, y.2.2.2.2.2.2.2.2.2.2.2.2.2.2.2.2.1, y.2.2.2.2.2.2.2.2.2.2.2.2.2.2.2.2.2.1, y.2.2.2.2.2.2.2.2.2.2.2.2.2.2.2.2.2.2.1, y.2.2.2.2.2.2.2.2.2.2.2.2.2.2.2.2.2.2.2.1, y.2.2.2.2.2.2.2.2.2.2.2.2.2.2.2.2.2.2.2.2) := by
  obtain ⟨nw, i0, i1, dr, row, tx, kp0, kp1, bc, nc, fc, ab, be⟩ := x
  obtain ⟨st, yab, ybe, rf, txt, byt, pl, tok, vlu, beg, yrow, th, pts, usd, ahd, um, drw, ik, kpt, kah, kmn⟩ := y
  obtain ⟨hS, hI0, hI1, hT, ⟨hb, hn, hf⟩, ha, he⟩ := hR
  dsimp only at hS hI0 hI1 hT hb hn hf ha he ⊢
  obtain ⟨n, e, h, d, t, s, u, c1, c2, c3, a, ⟨b1, b2, b3, b4, b5, b6, b7⟩, ⟨d5, d6, d7, dum⟩, S, ht, hp⟩ := hS.op
  obtain ⟨⟨g1, g2, g3, g4, g5, g6, g7⟩, ⟨f1, f2, f3⟩, ⟨s0, s1, s2, s3, s4, s8⟩, H⟩ := id S
  have ht1 : ∀ j, j < 6 → tv (nw.2.2.2.2.2.2.2.2.2.2.1 j) := fun j hj => by rw [(ht j hj).1]; exact (ht j hj).2
  have hw : ∀ j, j < 6 → tv (fa_fill (TW st 0) pts 6 j) := fill_tv (TW_tv (fun j hj => (ht j hj).2) 0)
  have hc : ∀ j, j < 6 → nw.2.2.2.2.2.2.2.2.2.2.1 j = fa_fill (TW st 0) pts 6 j := fun j hj => by rw [fill6 _ _ j hj, TW0]; exact (ht j hj).1
  have hc0 : f_X4_takeTold st pts 0 = some (fa_fill (TW st 0) pts 6) := w_takeTold (m := 0) (by decide)
  have hpl := pop_le _ (tm_lt nw.2.2.2.2.2.2.2.2.2.2.1)
  by_cases h1 : e ≤ pop (tm nw.2.2.2.2.2.2.2.2.2.2.1)
  · have h1' : e ≤ pop (tm (fa_fill (TW st 0) pts 6)) := by rw [← tm_congr hc]; exact h1
    obtain ⟨us, hus⟩ := w_agrees (st := st) usd hw s1 g2 g3 h1'
    have l1 : nI e ≤ nI (pop (tm nw.2.2.2.2.2.2.2.2.2.2.1)) := nI_le h1 (by omega)
    have l2 : nI e ≤ nI (pop (tm (fa_fill (TW st 0) pts 6))) := by rw [← tm_congr hc]; exact l1
    by_cases q : agb nw.2.2.2.2.2.2.2.2.2.2.1 e = true
    · have q' : agb (fa_fill (TW st 0) pts 6) e = true := by rw [← agb_congr hc g3]; exact q
      rw [if_pos q'] at hus
      refine ⟨_, _, (by rw [b2]; simp only [f_X3_agree, v_size, v_isWithin, v_isDay, v_isImage, v_bad, v_no, v_full, f_X3_refuseBadAs, Option.bind_some, n10, ↓reduceIte, gd_t, if_pos l1, v_agreesBy ht1 g2 g3, if_pos (And.intro h1 q)]; rfl), (by simp only [f_X4_agree, hc0, w_pointMany hw, in_0_96, in_1_4, in_0_5, in_1_3, in_0_127, in_0_2, in_0_999, in_1_6, in_m1_96, in_0_7, in_0_1, in_0_10, in_0_990, in_0_999999, in_0_60, in_0_100, w_isWhat, w_bad, w_no, w_full, Option.bind_some, n10, ↓reduceIte, gd_t, i27_0, i27_1, i27_5, i27_6, i27_7, i27_8, cl_0, cl_1, cl_5, cl_6, cl_7, cl_8, s1, if_pos l2, hus]; rfl), ?_, ?_⟩
      · rfl
      · exact ⟨hS.mono (by omega), hI0.mono (by omega), hI1.mono (by omega), hT, ⟨hb, hn, hf⟩, ha, he⟩
    · have q' : ¬ agb (fa_fill (TW st 0) pts 6) e = true := by rw [← agb_congr hc g3]; exact q
      rw [if_neg q'] at hus
      refine ⟨_, _, (by rw [b2]; simp only [f_X3_agree, v_size, v_isWithin, v_isDay, v_isImage, v_bad, v_no, v_full, f_X3_refuseBadAs, Option.bind_some, n10, ↓reduceIte, gd_t, if_pos l1, v_agreesBy ht1 g2 g3, if_neg (show ¬ (e ≤ pop (tm nw.2.2.2.2.2.2.2.2.2.2.1) ∧ agb nw.2.2.2.2.2.2.2.2.2.2.1 e = true) from fun z => q z.2)]; rfl), (by simp only [f_X4_agree, hc0, w_pointMany hw, in_0_96, in_1_4, in_0_5, in_1_3, in_0_127, in_0_2, in_0_999, in_1_6, in_m1_96, in_0_7, in_0_1, in_0_10, in_0_990, in_0_999999, in_0_60, in_0_100, w_isWhat, w_bad, w_no, w_full, Option.bind_some, n10, ↓reduceIte, gd_t, i27_0, i27_1, i27_5, i27_6, i27_7, i27_8, cl_0, cl_1, cl_5, cl_6, cl_7, cl_8, s1, if_pos l2, hus]; rfl), ?_, ?_⟩
      · rfl
      · exact ⟨hS.mono (by omega), hI0.mono (by omega), hI1.mono (by omega), hT, ⟨hb, hn, hf⟩, ha, he⟩
  · have l1 : ¬ nI e ≤ nI (pop (tm nw.2.2.2.2.2.2.2.2.2.2.1)) := nI_ge (by omega) (by omega)
    have l2 : ¬ nI e ≤ nI (pop (tm (fa_fill (TW st 0) pts 6))) := by rw [← tm_congr hc]; exact l1
    refine ⟨_, _, (by rw [b2]; simp only [f_X3_agree, v_size, v_isWithin, v_isDay, v_isImage, v_bad, v_no, v_full, f_X3_refuseBadAs, Option.bind_some, n10, ↓reduceIte, gd_t, if_neg l1]; rfl), (by simp only [f_X4_agree, hc0, w_pointMany hw, in_0_96, in_1_4, in_0_5, in_1_3, in_0_127, in_0_2, in_0_999, in_1_6, in_m1_96, in_0_7, in_0_1, in_0_10, in_0_990, in_0_999999, in_0_60, in_0_100, w_isWhat, w_bad, w_no, w_full, Option.bind_some, n10, ↓reduceIte, gd_t, i27_0, i27_1, i27_5, i27_6, i27_7, i27_8, cl_0, cl_1, cl_5, cl_6, cl_7, cl_8, s1, if_neg l2]; rfl), ?_, ?_⟩
    · rfl
    · exact ⟨hS.mono (by omega), hI0.mono (by omega), hI1.mono (by omega), hT, ⟨hb, hn, hf⟩, ha, he⟩
/-- a share where the set has it -/
def PS (n e c1 c2 c3 m : Nat) (f : Nat → Int32) (j : Nat) : Int32 := if m.testBit j = true then nI (sh n e c1 c2 c3 j) else f j
theorem v_putShares {n e c1 c2 c3 : Nat} {fac : Nat → Int32} (hn : n < 97) (he : 1 ≤ e) (he4 : e ≤ 4) (h1 : fac 0 = nI c1) (h2 : fac 1 = nI c2) (h3 : fac 2 = nI c3) (hc1 : c1 < 97) (hc2 : c2 < 97) (hc3 : c3 < 97) {m : Nat} (hm : m < 64) (f : Nat → Int32) : f_X0_putShares (nI n) (nI e) fac f (nI m) = some (fa_fill (PS n e c1 c2 c3 m f) f 6) := by
  have key : lp (b_X0_putShares_2 (nI n) (nI e) fac (nI m)) 200 (nI 0, fa_fill (PS n e c1 c2 c3 m f) f 0) = some (fa_fill (PS n e c1 c2 c3 m f) f 6) := by
    refine lp_run (fun i => (nI i, fa_fill (PS n e c1 c2 c3 m f) f i)) 6 (fun i hi => ?_) ?_ 200 (by decide)
    · simp only [b_X0_putShares_2, if_neg (i6 hi), v_isIn m hm i hi, Option.bind_some, nI_1]
      rw [← fa_fill_succ]
      by_cases q : m.testBit i = true
      · simp only [PS, if_pos q, n10, ↓reduceIte, Option.bind_some, v_shareOf hn he he4 h1 h2 h3 hc1 hc2 hc3 hi, v_put6 hi]
      · simp only [PS, if_neg q, ↓reduceIte]
        rw [fa_upd_same (fa_fill_out (Nat.le_refl i))]
    · simp only [b_X0_putShares_2, if_pos i6e]
  rw [fa_fill_0] at key
  have key : lp (b_X0_putShares_2 (nI n) (nI e) fac (nI m)) 200 (0, f) = _ := key
  simp only [f_X0_putShares, key, Option.bind_some]
theorem PS_tv {n e c1 c2 c3 m : Nat} {f : Nat → Int32} (hf : ∀ j, j < 6 → tv (f j)) : ∀ j, j < 6 → tv (PS n e c1 c2 c3 m f j) := by
  intro j hj
  unfold PS
  split
  · exact Or.inr ⟨_, sh_lt _ _ _ _ _ _, rfl⟩
  · exact hf j hj
theorem w_findsLoop {n e h c1 c2 c3 : Nat} {kinds extras fac st : Nat → Int32} (S : SD n e h c1 c2 c3 kinds extras fac st) {m : Nat} (hm : m < 64) (pts : Nat → Int32) : lp (b_X4_finds_15 st (nI m)) 200 (0, pts) = some (fa_fill (PS n e c1 c2 c3 m (fun _ => -1)) pts 6) := by
  have key : lp (b_X4_finds_15 st (nI m)) 200 (nI 0, fa_fill (PS n e c1 c2 c3 m (fun _ => -1)) pts 0) = some (fa_fill (PS n e c1 c2 c3 m (fun _ => -1)) pts 6) := by
    refine lp_run (fun i => (nI i, fa_fill (PS n e c1 c2 c3 m (fun _ => -1)) pts i)) 6 (fun i hi => ?_) ?_ 200 (by decide)
    · simp only [b_X4_finds_15, if_neg (i6 hi), w_has m hm i hi, Option.bind_some, nI_1, inb_nI hi (by decide), gd_t, c6 (show i ≤ 6 by omega)]
      rw [← fa_fill_succ]
      by_cases q : m.testBit i = true
      · simp only [PS, if_pos q, n10, ↓reduceIte, Option.bind_some, (S.share hi).2]
      · simp only [PS, if_neg q, ↓reduceIte, Option.bind_some]
    · simp only [b_X4_finds_15, if_pos i6e]
  rw [fa_fill_0] at key
  exact key
theorem L2_finds (k : Nat) (hk : k ≤ 256) (x : CX) (y : MX) (hR : RR k x y) (p1 : Int32) : ∃ (o : Int32 × Int32 × (Nat → Int32)) (u : Int32 × (Nat → Int32) × (Nat → Int32) × (Nat → Int32)), f_X3_finds x.2.2.2.2.2.2.2.2.1 x.1.1 x.1.2.1 x.1.2.2.1 x.1.2.2.2.2.2.2.2.2.2.1 x.2.2.2.2.1 p1 = some o ∧ f_X4_finds y.1 y.2.2.2.1 y.2.2.2.2.2.2.2.2.2.2.2.2.1 y.2.2.2.2.2.2.2.2.2.2.2.2.2.1 p1 = some u ∧ o.1 = u.1 ∧ RR (k + 4) (x.1, x.2.1, x.2.2.1, x.2.2.2.1, o.2.2, x.2.2.2.2.2.1, (x.2.2.2.2.2.2.1, x.2.2.2.2.2.2.2.1, o.2.1, x.2.2.2.2.2.2.2.2.2.1, x.2.2.2.2.2.2.2.2.2.2.1, x.2.2.2.2.2.2.2.2.2.2.2.1, x.2.2.2.2.2.2.2.2.2.2.2.2)) (y.1, y.2.1, y.2.2.1, u.2.1, y.2.2.2.2.1, y.2.2.2.2.2.1, y.2.2.2.2.2.2.1, y.2.2.2.2.2.2.2.1, y.2.2.2.2.2.2.2.2.1, y.2.2.2.2.2.2.2.2.2.1, y.2.2.2.2.2.2.2.2.2.2.1, y.2.2.2.2.2.2.2.2.2.2.2.1, u.2.2.1, u.2.2.2, y.2.2.2.2.2.2.2.2.2.2.2.2.2.2.1, y.2.2.2.2.2.2.2.2.2.2.2.2.2.2.2.1, y.2.2.2.2.2.2.2.2.2.2.2.2.2.2.2.2.1, y.2.2.2.2.2.2.2.2.2.2.2.2.2.2.2.2.2.1, y.2.2.2.2.2.2.2.2.2.2.2.2.2.2.2.2.2.2.1, y.2.2.2.2.2.2.2.2.2.2.2.2.2.2.2.2.2.2.2.1, y.2.2.2.2.2.2.2.2.2.2.2.2.2.2.2.2.2.2.2.2) := by
  obtain ⟨nw, i0, i1, dr, row, tx, kp0, kp1, bc, nc, fc, ab, be⟩ := x
  obtain ⟨st, yab, ybe, rf, txt, byt, pl, tok, vlu, beg, yrow, th, pts, usd, ahd, um, drw, ik, kpt, kah, kmn⟩ := y
  obtain ⟨hS, hI0, hI1, hT, ⟨hb, hn, hf⟩, ha, he⟩ := hR
  dsimp only at hS hI0 hI1 hT hb hn hf ha he ⊢
  obtain ⟨n, e, h, d, t, s, u, c1, c2, c3, a, ⟨b1, b2, b3, b4, b5, b6, b7⟩, ⟨d5, d6, d7, dum⟩, S, ht, hp⟩ := hS.op
  obtain ⟨⟨g1, g2, g3, g4, g5, g6, g7⟩, ⟨f1, f2, f3⟩, ⟨s0, s1, s2, s3, s4, s8⟩, H⟩ := id S
  by_cases h1 : ¬ p1 < 0 ∧ ¬ nI (2 ^ h - 1) < p1
  · obtain ⟨m, hm, hm6, rfl⟩ := wi_who g4 h1
    have hw0 : ∀ j, j < 6 → tv (fa_fill (fun _ => (-1 : Int32)) row 6 j) := fill_tv (fun _ _ => Or.inl rfl)
    have hw1 := fill_tv (g := fa_fill (fun _ => (-1 : Int32)) row 6) (PS_tv (n := n) (e := e) (c1 := c1) (c2 := c2) (c3 := c3) (m := m) hw0)
    have hw2 := fill_tv (g := pts) (PS_tv (n := n) (e := e) (c1 := c1) (c2 := c2) (c3 := c3) (m := m) (f := fun _ => (-1 : Int32)) (fun _ _ => Or.inl rfl))
    have hc : ∀ j, j < 6 → fa_fill (PS n e c1 c2 c3 m (fa_fill (fun _ => (-1 : Int32)) row 6)) (fa_fill (fun _ => (-1 : Int32)) row 6) 6 j = fa_fill (PS n e c1 c2 c3 m (fun _ => (-1 : Int32))) pts 6 j := fun j hj => by
      rw [fill6 _ _ j hj, fill6 _ _ j hj]
      unfold PS
      rw [fill6 _ _ j hj]
    obtain ⟨us, hus⟩ := w_found (st := st) usd hw2 s1 g2 g3
    refine ⟨_, _, (by rw [b3, b2, b1]; simp only [f_X3_finds, v_isWithin, v_isDay, v_isImage, v_bad, v_no, v_full, f_X3_refuseBadAs, Option.bind_some, n10, ↓reduceIte, gd_t, v_hasAll g4, if_pos h1, v_empty, v_putShares g1 g2 g3 f1 f2 f3 g5 g6 g7 hm6, v_foundBy hw1 g2 g3]; rfl), (by simp only [f_X4_finds, in_0_96, in_1_4, in_0_5, in_1_3, in_0_127, in_0_2, in_0_999, in_1_6, in_m1_96, in_0_7, in_0_1, in_0_10, in_0_990, in_0_999999, in_0_60, in_0_100, w_isWhat, w_bad, w_no, w_full, Option.bind_some, n10, ↓reduceIte, gd_t, i27_0, i27_1, i27_5, i27_6, i27_7, i27_8, cl_0, cl_1, cl_5, cl_6, cl_7, cl_8, w_areHolders g4 s8, if_pos h1, w_findsLoop S hm6, hus]; rfl), ?_, ?_⟩
    · exact fnd_congr hc g3
    · exact ⟨hS.mono (by omega), hI0.mono (by omega), hI1.mono (by omega), hT, ⟨hb, hn, hf⟩, ha, he⟩
  · refine ⟨_, _, (by rw [b3]; simp only [f_X3_finds, v_isWithin, v_isDay, v_isImage, v_bad, v_no, v_full, f_X3_refuseBadAs, Option.bind_some, n10, ↓reduceIte, gd_t, v_hasAll g4, if_neg h1]; rfl), (by simp only [f_X4_finds, in_0_96, in_1_4, in_0_5, in_1_3, in_0_127, in_0_2, in_0_999, in_1_6, in_m1_96, in_0_7, in_0_1, in_0_10, in_0_990, in_0_999999, in_0_60, in_0_100, w_isWhat, w_bad, w_no, w_full, Option.bind_some, n10, ↓reduceIte, gd_t, i27_0, i27_1, i27_5, i27_6, i27_7, i27_8, cl_0, cl_1, cl_5, cl_6, cl_7, cl_8, w_areHolders g4 s8, if_neg h1]; rfl), ?_, ?_⟩
    · rfl
    · exact ⟨hS.mono (by omega), hI0.mono (by omega), hI1.mono (by omega), hT, bad3 hb hn hf, ha, he⟩
theorem L2_count (k : Nat) (hk : k ≤ 256) (x : CX) (y : MX) (hR : RR k x y) (p1 : Int32) : ∃ (o : Int32 × Int32) (u : Int32 × (Nat → Int32)), f_X3_count x.2.2.2.2.2.2.2.2.1 x.1.2.1 x.1.2.2.1 x.1.2.2.2.1 x.1.2.2.2.2.1 x.1.2.2.2.2.2.1 x.1.2.2.2.2.2.2.1 x.1.2.2.2.2.2.2.2.2.2.2.1 x.2.2.2.2.2.1.1 p1 = some o ∧ f_X4_count y.2.2.2.2.2.1 y.2.2.2.2.2.2.2.2.2.2.2.2.2.2.2.1 y.1 y.2.2.2.1 p1 = some u ∧ o.1 = u.1 ∧ RR (k + 4) (x.1, x.2.1, x.2.2.1, x.2.2.2.1, x.2.2.2.2.1, x.2.2.2.2.2.1, (x.2.2.2.2.2.2.1, x.2.2.2.2.2.2.2.1, o.2, x.2.2.2.2.2.2.2.2.2.1, x.2.2.2.2.2.2.2.2.2.2.1, x.2.2.2.2.2.2.2.2.2.2.2.1, x.2.2.2.2.2.2.2.2.2.2.2.2)) (y.1, y.2.1, y.2.2.1, u.2, y.2.2.2.2.1, y.2.2.2.2.2.1, y.2.2.2.2.2.2.1, y.2.2.2.2.2.2.2.1, y.2.2.2.2.2.2.2.2.1, y.2.2.2.2.2.2.2.2.2.1, y.2.2.2.2.2.2.2.2.2.2.1, y.2.2.2.2.2.2.2.2.2.2.2.1, y.2.2.2.2.2.2.2.2.2.2.2.2.1, y.2.2.2.2.2.2.2.2.2.2.2.2.2.1, y.2.2.2.2.2.2.2.2.2.2.2.2.2.2.1, y.2.2.2.2.2.2.2.2.2.2.2.2.2.2.2.1, y.2.2.2.2.2.2.2.2.2.2.2.2.2.2.2.2.1, y.2.2.2.2.2.2.2.2.2.2.2.2.2.2.2.2.2.1, y.2.2.2.2.2.2.2.2.2.2.2.2.2.2.2.2.2.2.1, y.2.2.2.2.2.2.2.2.2.2.2.2.2.2.2.2.2.2.2.1, y.2.2.2.2.2.2.2.2.2.2.2.2.2.2.2.2.2.2.2.2) := by
  obtain ⟨nw, i0, i1, dr, row, tx, kp0, kp1, bc, nc, fc, ab, be⟩ := x
  obtain ⟨st, yab, ybe, rf, txt, byt, pl, tok, vlu, beg, yrow, th, pts, usd, ahd, um, drw, ik, kpt, kah, kmn⟩ := y
  obtain ⟨hS, hI0, hI1, hT, ⟨hb, hn, hf⟩, ha, he⟩ := hR
  dsimp only at hS hI0 hI1 hT hb hn hf ha he ⊢
  obtain ⟨n, e, h, d, t, s, u, c1, c2, c3, a, ⟨b1, b2, b3, b4, b5, b6, b7⟩, ⟨d5, d6, d7, dum⟩, S, ht, hp⟩ := hS.op
  obtain ⟨⟨g1, g2, g3, g4, g5, g6, g7⟩, ⟨f1, f2, f3⟩, ⟨s0, s1, s2, s3, s4, s8⟩, H⟩ := id S
  by_cases h1 : ¬ p1 < 0 ∧ ¬ (7 : Int32) < p1
  · have hsz := w_toldMany (fun j hj => (ht j hj).1) (fun j hj => (ht j hj).2)
    obtain ⟨m, hm, rfl⟩ := wi_n (N := 7) rfl (by decide) h1
    have hs01 : s = 0 ∨ s = 1 := by have := a.2.2.2.2.2.2.1; omega
    have hl : tx.1 = byt := by obtain ⟨_, _, q1, q2, _⟩ := hT; exact q1.trans q2.symm
    have key : ∃ r, f_X3_amount nw.2.1 nw.2.2.1 nw.2.2.2.1 nw.2.2.2.2.1 nw.2.2.2.2.2.1 nw.2.2.2.2.2.2.1 nw.2.2.2.2.2.2.2.2.2.2.1 tx.1 (nI m) = some r ∧ f_X4_countOf byt um st (nI m) = some r := by
      have : m = 0 ∨ m = 1 ∨ m = 2 ∨ m = 3 ∨ m = 4 ∨ m = 5 ∨ m = 6 ∨ m = 7 := by omega
      rcases this with rfl | rfl | rfl | rfl | rfl | rfl | rfl | rfl
      · exact ⟨nI h, by rw [b3]; rfl, by rw [← s8]; rfl⟩
      · exact ⟨nI e, by rw [b2]; rfl, by rw [← s1]; rfl⟩
      · exact ⟨nI d, by rw [b4]; rfl, by rw [← d5]; rfl⟩
      · exact ⟨nI t, by rw [b5]; rfl, by rw [← d6]; rfl⟩
      · refine ⟨nI s, ?_, by rw [← d7]; rfl⟩
        rw [b6]
        rcases hs01 with rfl | rfl
        · rfl
        · rfl
      · refine ⟨nI (pop (tm nw.2.2.2.2.2.2.2.2.2.2.1)), ?_, ?_⟩
        · show (f_X2_size nw.2.2.2.2.2.2.2.2.2.2.1).bind (fun o1 => some o1) = some _
          rw [v_size]
          rfl
        · show (f_X4_toldMany st).bind (fun o1 => some o1) = some _
          rw [hsz]
          rfl
      · exact ⟨nI u, by rw [b7]; rfl, by rw [dum]; rfl⟩
      · exact ⟨byt, by rw [hl]; rfl, rfl⟩
    obtain ⟨r, hr1, hr2⟩ := key
    refine ⟨_, _, (by simp only [f_X3_count, v_isWithin, v_isDay, v_isImage, v_bad, v_no, v_full, f_X3_refuseBadAs, Option.bind_some, n10, ↓reduceIte, gd_t, if_pos h1, hr1]; rfl), (by simp only [f_X4_count, in_0_96, in_1_4, in_0_5, in_1_3, in_0_127, in_0_2, in_0_999, in_1_6, in_m1_96, in_0_7, in_0_1, in_0_10, in_0_990, in_0_999999, in_0_60, in_0_100, w_isWhat, w_bad, w_no, w_full, Option.bind_some, n10, ↓reduceIte, gd_t, i27_0, i27_1, i27_5, i27_6, i27_7, i27_8, cl_0, cl_1, cl_5, cl_6, cl_7, cl_8, if_pos h1, hr2]; rfl), ?_, ?_⟩
    · rfl
    · exact ⟨hS.mono (by omega), hI0.mono (by omega), hI1.mono (by omega), hT, ⟨hb, hn, hf⟩, ha, he⟩
  · refine ⟨_, _, (by simp only [f_X3_count, v_isWithin, v_isDay, v_isImage, v_bad, v_no, v_full, f_X3_refuseBadAs, Option.bind_some, n10, ↓reduceIte, gd_t, if_neg h1]; rfl), (by simp only [f_X4_count, in_0_96, in_1_4, in_0_5, in_1_3, in_0_127, in_0_2, in_0_999, in_1_6, in_m1_96, in_0_7, in_0_1, in_0_10, in_0_990, in_0_999999, in_0_60, in_0_100, w_isWhat, w_bad, w_no, w_full, Option.bind_some, n10, ↓reduceIte, gd_t, i27_0, i27_1, i27_5, i27_6, i27_7, i27_8, cl_0, cl_1, cl_5, cl_6, cl_7, cl_8, if_neg h1]; rfl), ?_, ?_⟩
    · rfl
    · exact ⟨hS.mono (by omega), hI0.mono (by omega), hI1.mono (by omega), hT, bad3 hb hn hf, ha, he⟩
