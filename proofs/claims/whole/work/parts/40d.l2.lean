theorem SR.raw {k : Nat} {v : SafeT} {st ahead : Nat → Int32} {um : Int32} (h : SR k v st ahead um) : ∃ n e h d t s u c1 c2 c3 : Nat, SN k n e h d t s u c1 c2 c3 ∧
    (v.1 = nI n ∧ v.2.1 = nI e ∧ v.2.2.1 = nI h ∧ v.2.2.2.1 = nI d ∧ v.2.2.2.2.1 = nI t ∧ v.2.2.2.2.2.1 = nI s ∧ v.2.2.2.2.2.2.1 = nI u) ∧
    (v.2.2.2.2.2.2.2.2.2.1 0 = nI c1 ∧ v.2.2.2.2.2.2.2.2.2.1 1 = nI c2 ∧ v.2.2.2.2.2.2.2.2.2.1 2 = nI c3) ∧
    (st 0 = nI n ∧ st 1 = nI e ∧ st 2 = nI c1 ∧ st 3 = nI c2 ∧ st 4 = nI c3 ∧ st 5 = nI d ∧ st 6 = nI t ∧ st 7 = nI s ∧ st 8 = nI h ∧ um = nI u) ∧
    (∀ j, j < h → ∃ c x : Nat, c < 6 ∧ x < 97 ∧ v.2.2.2.2.2.2.2.1 j = nI c ∧ st (9 + j) = nI c ∧ v.2.2.2.2.2.2.2.2.1 j = nI x ∧ st (15 + j) = nI x) ∧
    (∀ j, j < 6 → v.2.2.2.2.2.2.2.2.2.2.1 j = st (21 + j) ∧ tv (st (21 + j))) ∧
    (∀ i, i < u → PR k v.2.2.2.2.2.2.2.2.2.2.2 ahead i) := h
theorem L2_holder (k : Nat) (hk : k ≤ 256) (x : CX) (y : MX) (hR : RR k x y) (p1 : Int32) (p2 : Int32) : ∃ (o : Int32 × Int32 × Int32 × Int32 × Int32 × (Nat → Int32) × (Nat → Int32)) (u : Int32 × Int32 × (Nat → Int32) × (Nat → Int32)), f_X3_holder x.2.2.2.2.2.2.2.2.1 x.2.2.2.2.2.2.2.2.2.2.1 x.1.2.2.1 x.1.2.2.2.2.2.2.1 x.1.2.2.2.2.2.2.2.1 x.1.2.2.2.2.2.2.2.2.1 p1 p2 = some o ∧ f_X4_holder y.2.2.2.2.2.2.2.2.2.2.2.2.2.2.2.1 y.1 y.2.2.2.1 p1 p2 = some u ∧ o.1 = u.1 ∧ RR (k + 4) ((x.1.1, x.1.2.1, o.2.2.2.1, x.1.2.2.2.1, x.1.2.2.2.2.1, x.1.2.2.2.2.2.1, o.2.2.2.2.1, o.2.2.2.2.2.1, o.2.2.2.2.2.2, x.1.2.2.2.2.2.2.2.2.2.1, x.1.2.2.2.2.2.2.2.2.2.2.1, x.1.2.2.2.2.2.2.2.2.2.2.2), x.2.1, x.2.2.1, x.2.2.2.1, x.2.2.2.2.1, x.2.2.2.2.2.1, (x.2.2.2.2.2.2.1, x.2.2.2.2.2.2.2.1, o.2.1, x.2.2.2.2.2.2.2.2.2.1, o.2.2.1, x.2.2.2.2.2.2.2.2.2.2.2.1, x.2.2.2.2.2.2.2.2.2.2.2.2)) (u.2.2.1, y.2.1, y.2.2.1, u.2.2.2, y.2.2.2.2.1, y.2.2.2.2.2.1, y.2.2.2.2.2.2.1, y.2.2.2.2.2.2.2.1, y.2.2.2.2.2.2.2.2.1, y.2.2.2.2.2.2.2.2.2.1, y.2.2.2.2.2.2.2.2.2.2.1, y.2.2.2.2.2.2.2.2.2.2.2.1, y.2.2.2.2.2.2.2.2.2.2.2.2.1, y.2.2.2.2.2.2.2.2.2.2.2.2.2.1, y.2.2.2.2.2.2.2.2.2.2.2.2.2.2.1, u.2.1, y.2.2.2.2.2.2.2.2.2.2.2.2.2.2.2.2.1, y.2.2.2.2.2.2.2.2.2.2.2.2.2.2.2.2.2.1, y.2.2.2.2.2.2.2.2.2.2.2.2.2.2.2.2.2.2.1, y.2.2.2.2.2.2.2.2.2.2.2.2.2.2.2.2.2.2.2.1, y.2.2.2.2.2.2.2.2.2.2.2.2.2.2.2.2.2.2.2.2) := by
  obtain ⟨nw, i0, i1, dr, row, tx, kp0, kp1, bc, nc, fc, ab, be⟩ := x
  obtain ⟨st, yab, ybe, rf, txt, byt, pl, tok, vlu, beg, yrow, th, pts, usd, ahd, um, drw, ik, kpt, kah, kmn⟩ := y
  obtain ⟨hS, hI0, hI1, hT, ⟨hb, hn, hf⟩, ha, he⟩ := hR
  dsimp only at hS hI0 hI1 hT hb hn hf ha he ⊢
  obtain ⟨n, e, h, d, t, s, u, c1, c2, c3, a, ⟨b1, b2, b3, b4, b5, b6, b7⟩, f, ⟨s0, s1, s2, s3, s4, s5, s6, s7, s8, s9⟩, H, ht, hp⟩ := hS.raw
  have g4 : h ≤ 6 := a.2.2.2.1
  by_cases h1 : ¬ p1 < 0 ∧ ¬ (5 : Int32) < p1
  · by_cases h2 : ¬ p2 < 0 ∧ ¬ (96 : Int32) < p2
    · by_cases h3 : h = 6
      · subst h3
        refine ⟨_, _, (by rw [b3]; simp only [f_X3_holder, v_isWithin, v_isDay, v_isImage, v_bad, v_no, v_full, f_X3_refuseBadAs, Option.bind_some, n10, ↓reduceIte, gd_t, if_pos h1, if_pos h2, f_X0_isFull]; rw [if_neg (show ¬ nI 6 < 6 by decide)]; simp only [v_isWithin, v_isDay, v_isImage, v_bad, v_no, v_full, f_X3_refuseBadAs, Option.bind_some, n10, ↓reduceIte, gd_t]; rfl), (by simp only [f_X4_holder, in_0_96, in_1_4, in_0_5, in_1_3, in_0_127, in_0_2, in_0_999, in_1_6, in_m1_96, in_0_7, in_0_1, in_0_10, in_0_990, in_0_999999, in_0_60, in_0_100, w_isWhat, w_bad, w_no, w_full, Option.bind_some, n10, ↓reduceIte, gd_t, i27_0, i27_1, i27_5, i27_6, i27_7, i27_8, cl_0, cl_1, cl_5, cl_6, cl_7, cl_8, if_pos h1, if_pos h2, s8]; rw [if_pos (show nI 6 = 6 from rfl)]), ?_, ?_⟩
        · rfl
        · rw [← b3]
          exact ⟨hS.mono (by omega), hI0.mono (by omega), hI1.mono (by omega), hT, full3 hb hn hf, ha, he⟩
      · have h6 : h < 6 := by omega
        obtain ⟨c', hc', rfl⟩ := wi_n (N := 5) rfl (by decide) h1
        obtain ⟨x', hx', rfl⟩ := wi_n (N := 96) rfl (by decide) h2
        have k1 : nI h < 6 := nI_lt (a := h) (b := 6) h6 (by decide)
        have k2 : ¬ (6 : Int32) ≤ nI h := i6 h6
        have k3 : ¬ nI h < 0 := nI_pos (by omega)
        have k4 : ¬ nI h = 6 := nI_lit (b := 6) (by omega) (by decide) (by omega)
        have z1 : (upd st (9 + h) (nI c')) 8 = nI h := by rw [pk_un (by omega)]; exact s8
        have z2 : (upd (upd st (9 + h) (nI c')) (15 + h) (nI x')) 8 = nI h := by rw [pk_un (by omega)]; exact z1
        refine ⟨_, _, (by rw [b3]; simp only [f_X3_holder, v_isWithin, v_isDay, v_isImage, v_bad, v_no, v_full, f_X3_refuseBadAs, Option.bind_some, n10, ↓reduceIte, gd_t, if_pos h1, if_pos h2, f_X0_isFull, if_pos k1, f_X0_addHolder, if_neg k2, if_neg k3, inb_nI h6 (by decide), nI_clamp (show h < 2 ^ 31 by omega), nI_1, nI_pred]; rfl), (by simp only [f_X4_holder, in_0_96, in_1_4, in_0_5, in_1_3, in_0_127, in_0_2, in_0_999, in_1_6, in_m1_96, in_0_7, in_0_1, in_0_10, in_0_990, in_0_999999, in_0_60, in_0_100, w_isWhat, w_bad, w_no, w_full, Option.bind_some, n10, ↓reduceIte, gd_t, i27_0, i27_1, i27_5, i27_6, i27_7, i27_8, cl_0, cl_1, cl_5, cl_6, cl_7, cl_8, if_pos h1, if_pos h2, s8, if_neg k4, f_X4_add, a9, i9 h6, c9 h6, z1, a15, i15 h6, c15 h6, z2, nI_1, pk_us, nI_pred]; rfl), ?_, ?_⟩
        · rfl
        · refine ⟨⟨n, e, h + 1, d, t, s, 0, c1, c2, c3, ⟨a.1, a.2.1, a.2.2.1, by omega, by have := a.2.2.2.2.1; omega, a.2.2.2.2.2.1, a.2.2.2.2.2.2.1, by omega, a.2.2.2.2.2.2.2.2⟩, ⟨b1, b2, rfl, b4, b5, b6, rfl⟩, f, ?_, fun j hj => ?_, fun j hj => ?_, fun i hi => absurd hi (by omega)⟩, hI0.mono (by omega), hI1.mono (by omega), hT, ⟨hb, hn, hf⟩, ha, he⟩
          · have g : ∀ j, j < 8 → (upd (upd (upd st (9 + h) (nI c')) (15 + h) (nI x')) 8 (nI (h + 1))) j = st j := fun j hj => by rw [pk_un (by omega), pk_un (by omega), pk_un (by omega)]
            exact ⟨(g 0 (by decide)).trans s0, (g 1 (by decide)).trans s1, (g 2 (by decide)).trans s2, (g 3 (by decide)).trans s3, (g 4 (by decide)).trans s4, (g 5 (by decide)).trans s5, (g 6 (by decide)).trans s6, (g 7 (by decide)).trans s7, pk_us (f := upd (upd st (9 + h) (nI c')) (15 + h) (nI x')) (k := 8) (x := nI (h + 1)), rfl⟩
          · show ∃ c x : Nat, c < 6 ∧ x < 97 ∧ (upd nw.2.2.2.2.2.2.2.1 h (nI c')) j = nI c ∧ (upd (upd (upd st (9 + h) (nI c')) (15 + h) (nI x')) 8 (nI (h + 1))) (9 + j) = nI c ∧ (upd nw.2.2.2.2.2.2.2.2.1 h (nI x')) j = nI x ∧ (upd (upd (upd st (9 + h) (nI c')) (15 + h) (nI x')) 8 (nI (h + 1))) (15 + j) = nI x
            by_cases q : j = h
            · subst q
              exact ⟨c', x', by omega, by omega, pk_us, by rw [pk_un (by omega), pk_un (by omega), pk_us], pk_us, by rw [pk_un (by omega), pk_us]⟩
            · obtain ⟨c, x, q1, q2, q3, q4, q5, q6⟩ := H j (by omega)
              exact ⟨c, x, q1, q2, by rw [pk_un q]; exact q3, by rw [pk_un (by omega), pk_un (by omega), pk_un (by omega)]; exact q4, by rw [pk_un q]; exact q5, by rw [pk_un (by omega), pk_un (by omega), pk_un (by omega)]; exact q6⟩
          · have e1 : (upd (upd (upd st (9 + h) (nI c')) (15 + h) (nI x')) 8 (nI (h + 1))) (21 + j) = st (21 + j) := by rw [pk_un (by omega), pk_un (by omega), pk_un (by omega)]
            have := ht j hj
            rw [← e1] at this
            exact this
    · refine ⟨_, _, (by simp only [f_X3_holder, v_isWithin, v_isDay, v_isImage, v_bad, v_no, v_full, f_X3_refuseBadAs, Option.bind_some, n10, ↓reduceIte, gd_t, if_pos h1, if_neg h2]; rfl), (by simp only [f_X4_holder, in_0_96, in_1_4, in_0_5, in_1_3, in_0_127, in_0_2, in_0_999, in_1_6, in_m1_96, in_0_7, in_0_1, in_0_10, in_0_990, in_0_999999, in_0_60, in_0_100, w_isWhat, w_bad, w_no, w_full, Option.bind_some, n10, ↓reduceIte, gd_t, i27_0, i27_1, i27_5, i27_6, i27_7, i27_8, cl_0, cl_1, cl_5, cl_6, cl_7, cl_8, if_pos h1, if_neg h2]; rfl), ?_, ?_⟩
      · rfl
      · exact ⟨hS.mono (by omega), hI0.mono (by omega), hI1.mono (by omega), hT, bad3 hb hn hf, ha, he⟩
  · refine ⟨_, _, (by simp only [f_X3_holder, v_isWithin, v_isDay, v_isImage, v_bad, v_no, v_full, f_X3_refuseBadAs, Option.bind_some, n10, ↓reduceIte, gd_t, if_neg h1]; rfl), (by simp only [f_X4_holder, in_0_96, in_1_4, in_0_5, in_1_3, in_0_127, in_0_2, in_0_999, in_1_6, in_m1_96, in_0_7, in_0_1, in_0_10, in_0_990, in_0_999999, in_0_60, in_0_100, w_isWhat, w_bad, w_no, w_full, Option.bind_some, n10, ↓reduceIte, gd_t, i27_0, i27_1, i27_5, i27_6, i27_7, i27_8, cl_0, cl_1, cl_5, cl_6, cl_7, cl_8, if_neg h1]; rfl), ?_, ?_⟩
    · rfl
    · exact ⟨hS.mono (by omega), hI0.mono (by omega), hI1.mono (by omega), hT, bad3 hb hn hf, ha, he⟩
/-- the factors are set on both sides -/
theorem SR.fac {k : Nat} {v v' : SafeT} {st st' ahead : Nat → Int32} {um : Int32} (h : SR k v st ahead um) (hv : v'.1 = v.1 ∧ v'.2.1 = v.2.1 ∧ v'.2.2.1 = v.2.2.1 ∧ v'.2.2.2.1 = v.2.2.2.1 ∧ v'.2.2.2.2.1 = v.2.2.2.2.1 ∧ v'.2.2.2.2.2.1 = v.2.2.2.2.2.1 ∧ v'.2.2.2.2.2.2.1 = v.2.2.2.2.2.2.1 ∧ v'.2.2.2.2.2.2.2.1 = v.2.2.2.2.2.2.2.1 ∧ v'.2.2.2.2.2.2.2.2.1 = v.2.2.2.2.2.2.2.2.1 ∧ v'.2.2.2.2.2.2.2.2.2.2.1 = v.2.2.2.2.2.2.2.2.2.2.1 ∧ v'.2.2.2.2.2.2.2.2.2.2.2 = v.2.2.2.2.2.2.2.2.2.2.2) (hs : ∀ j, (j < 2 ∨ 5 ≤ j) → st' j = st j) (hf : ∀ j, j < 3 → ∃ c, c < 97 ∧ v'.2.2.2.2.2.2.2.2.2.1 j = nI c ∧ st' (2 + j) = nI c) : SR k v' st' ahead um := by
  obtain ⟨q1, q2, q3, q4, q5, q6, q7, q8, q9, q10, q11⟩ := hv
  obtain ⟨n, e, h, d, t, s, u, c1, c2, c3, a, b, f, ⟨s0, s1, s2, s3, s4, s5, s6, s7, s8, s9⟩, hk, ht, hp⟩ := h
  obtain ⟨x1, y1, z1, w1⟩ := hf 0 (by decide)
  obtain ⟨x2, y2, z2, w2⟩ := hf 1 (by decide)
  obtain ⟨x3, y3, z3, w3⟩ := hf 2 (by decide)
  obtain ⟨a1, a2, a3, a4, a5, a6, a7, a8, a9⟩ := a
  refine ⟨n, e, h, d, t, s, u, x1, x2, x3, ⟨a1, a2, a3, a4, a5, a6, a7, a8, y1, y2, y3⟩, by rw [q1, q2, q3, q4, q5, q6, q7]; exact b, ⟨z1, z2, z3⟩, ⟨by rw [hs 0 (by omega)]; exact s0, by rw [hs 1 (by omega)]; exact s1, w1, w2, w3, by rw [hs 5 (by omega)]; exact s5, by rw [hs 6 (by omega)]; exact s6, by rw [hs 7 (by omega)]; exact s7, by rw [hs 8 (by omega)]; exact s8, s9⟩, fun j hj => ?_, fun j hj => ?_, by rw [q11]; exact hp⟩
  · rw [hs (9 + j) (by omega), hs (15 + j) (by omega), q8, q9]
    exact hk j hj
  · rw [hs (21 + j) (by omega), q10]
    exact ht j hj
theorem L2_way (k : Nat) (hk : k ≤ 256) (x : CX) (y : MX) (hR : RR k x y) (p1 : Int32) (p2 : Int32) : ∃ (o : Int32 × Int32 × (Nat → Int32)) (u : Int32 × (Nat → Int32) × (Nat → Int32)), f_X3_way x.2.2.2.2.2.2.2.2.1 x.1.2.2.2.2.2.2.2.2.2.1 p1 p2 = some o ∧ f_X4_way y.1 y.2.2.2.1 p1 p2 = some u ∧ o.1 = u.1 ∧ RR (k + 4) ((x.1.1, x.1.2.1, x.1.2.2.1, x.1.2.2.2.1, x.1.2.2.2.2.1, x.1.2.2.2.2.2.1, x.1.2.2.2.2.2.2.1, x.1.2.2.2.2.2.2.2.1, x.1.2.2.2.2.2.2.2.2.1, o.2.2, x.1.2.2.2.2.2.2.2.2.2.2.1, x.1.2.2.2.2.2.2.2.2.2.2.2), x.2.1, x.2.2.1, x.2.2.2.1, x.2.2.2.2.1, x.2.2.2.2.2.1, (x.2.2.2.2.2.2.1, x.2.2.2.2.2.2.2.1, o.2.1, x.2.2.2.2.2.2.2.2.2.1, x.2.2.2.2.2.2.2.2.2.2.1, x.2.2.2.2.2.2.2.2.2.2.2.1, x.2.2.2.2.2.2.2.2.2.2.2.2)) (u.2.1, y.2.1, y.2.2.1, u.2.2, y.2.2.2.2.1, y.2.2.2.2.2.1, y.2.2.2.2.2.2.1, y.2.2.2.2.2.2.2.1, y.2.2.2.2.2.2.2.2.1, y.2.2.2.2.2.2.2.2.2.1, y.2.2.2.2.2.2.2.2.2.2.1, y.2.2.2.2.2.2.2.2.2.2.2.1, y.2.2.2.2.2.2.2.2.2.2.2.2.1, y.2.2.2.2.2.2.2.2.2.2.2.2.2.1, y.2.2.2.2.2.2.2.2.2.2.2.2.2.2.1, y.2.2.2.2.2.2.2.2.2.2.2.2.2.2.2.1, y.2.2.2.2.2.2.2.2.2.2.2.2.2.2.2.2.1, y.2.2.2.2.2.2.2.2.2.2.2.2.2.2.2.2.2.1, y.2.2.2.2.2.2.2.2.2.2.2.2.2.2.2.2.2.2.1, y.2.2.2.2.2.2.2.2.2.2.2.2.2.2.2.2.2.2.2.1, y.2.2.2.2.2.2.2.2.2.2.2.2.2.2.2.2.2.2.2.2) := by
  obtain ⟨nw, i0, i1, dr, row, tx, kp0, kp1, bc, nc, fc, ab, be⟩ := x
  obtain ⟨st, yab, ybe, rf, txt, byt, pl, tok, vlu, beg, yrow, th, pts, usd, ahd, um, drw, ik, kpt, kah, kmn⟩ := y
  obtain ⟨hS, hI0, hI1, hT, ⟨hb, hn, hf⟩, ha, he⟩ := hR
  dsimp only at hS hI0 hI1 hT hb hn hf ha he ⊢
  obtain ⟨n, e, h, d, t, s, u, c1, c2, c3, a, b, ⟨f1, f2, f3⟩, ⟨s0, s1, s2, s3, s4, s5, s6, s7, s8, s9⟩, H, ht, hp⟩ := hS.raw
  obtain ⟨a1, a2, a3, a4, a5, a6, a7, a8, a9, a10, a11⟩ := a
  have F : ∀ j, j < 3 → ∃ c, c < 97 ∧ nw.2.2.2.2.2.2.2.2.2.1 j = nI c ∧ st (2 + j) = nI c := fun j hj => by
    have : j = 0 ∨ j = 1 ∨ j = 2 := by omega
    rcases this with rfl | rfl | rfl
    · exact ⟨c1, a9, f1, s2⟩
    · exact ⟨c2, a10, f2, s3⟩
    · exact ⟨c3, a11, f3, s4⟩
  by_cases h1 : ¬ p1 < 1 ∧ ¬ (3 : Int32) < p1
  · by_cases h2 : ¬ p2 < 0 ∧ ¬ (96 : Int32) < p2
    · obtain ⟨m, hm1, hm, rfl⟩ := wi_n1 (N := 3) rfl (by decide) h1
      obtain ⟨x', hx', rfl⟩ := wi_n (N := 96) rfl (by decide) h2
      obtain ⟨j, rfl⟩ : ∃ j, m = j + 1 := ⟨m - 1, by omega⟩
      have hj : j < 3 := by omega
      have k1 : ¬ nI (j + 1) < 1 := h1.1
      have k2 : ¬ (3 : Int32) < nI (j + 1) := h1.2
      have k3 : (2 : Int32) + nI (j + 1) - 1 = nI (2 + j) := by
        rw [show (2 : Int32) + nI (j + 1) = nI (2 + j + 1) from nI_add 2 (j + 1), nI_pred]
      have k4 : inb (nI (2 + j)) 27 = true := inb_nI (by omega) (by decide)
      have k5 : (nI (2 + j)).toNatClampNeg = 2 + j := nI_clamp (by omega)
      refine ⟨_, _, (by simp only [f_X3_way, v_isWithin, v_isDay, v_isImage, v_bad, v_no, v_full, f_X3_refuseBadAs, Option.bind_some, n10, ↓reduceIte, gd_t, if_pos h1, if_pos h2, f_X0_factor, f_X0_putFactor, if_neg k1, if_neg k2, nI_pred, inb_nI hj (by decide), nI_clamp (show j < 2 ^ 31 by omega)]; rfl), (by simp only [f_X4_way, in_0_96, in_1_4, in_0_5, in_1_3, in_0_127, in_0_2, in_0_999, in_1_6, in_m1_96, in_0_7, in_0_1, in_0_10, in_0_990, in_0_999999, in_0_60, in_0_100, w_isWhat, w_bad, w_no, w_full, Option.bind_some, n10, ↓reduceIte, gd_t, i27_0, i27_1, i27_5, i27_6, i27_7, i27_8, cl_0, cl_1, cl_5, cl_6, cl_7, cl_8, if_pos h1, if_pos h2, k3, k4, k5]; rfl), ?_, ?_⟩
      · obtain ⟨c, _, q1, q2⟩ := F j hj
        exact q1.trans q2.symm
      · refine ⟨SR.fac (hS.mono (by omega)) ⟨rfl, rfl, rfl, rfl, rfl, rfl, rfl, rfl, rfl, rfl, rfl⟩ (fun i hi => pk_un (by omega)) (fun i hi => ?_), hI0.mono (by omega), hI1.mono (by omega), hT, ⟨hb, hn, hf⟩, ha, he⟩
        by_cases q : i = j
        · subst q
          exact ⟨x', by omega, pk_us, pk_us⟩
        · obtain ⟨c, q1, q2, q3⟩ := F i hi
          exact ⟨c, q1, (pk_un q).trans q2, (pk_un (by omega)).trans q3⟩
    · refine ⟨_, _, (by simp only [f_X3_way, v_isWithin, v_isDay, v_isImage, v_bad, v_no, v_full, f_X3_refuseBadAs, Option.bind_some, n10, ↓reduceIte, gd_t, if_pos h1, if_neg h2]; rfl), (by simp only [f_X4_way, in_0_96, in_1_4, in_0_5, in_1_3, in_0_127, in_0_2, in_0_999, in_1_6, in_m1_96, in_0_7, in_0_1, in_0_10, in_0_990, in_0_999999, in_0_60, in_0_100, w_isWhat, w_bad, w_no, w_full, Option.bind_some, n10, ↓reduceIte, gd_t, i27_0, i27_1, i27_5, i27_6, i27_7, i27_8, cl_0, cl_1, cl_5, cl_6, cl_7, cl_8, if_pos h1, if_neg h2]; rfl), ?_, ?_⟩
      · rfl
      · exact ⟨hS.mono (by omega), hI0.mono (by omega), hI1.mono (by omega), hT, bad3 hb hn hf, ha, he⟩
  · refine ⟨_, _, (by simp only [f_X3_way, v_isWithin, v_isDay, v_isImage, v_bad, v_no, v_full, f_X3_refuseBadAs, Option.bind_some, n10, ↓reduceIte, gd_t, if_neg h1]; rfl), (by simp only [f_X4_way, in_0_96, in_1_4, in_0_5, in_1_3, in_0_127, in_0_2, in_0_999, in_1_6, in_m1_96, in_0_7, in_0_1, in_0_10, in_0_990, in_0_999999, in_0_60, in_0_100, w_isWhat, w_bad, w_no, w_full, Option.bind_some, n10, ↓reduceIte, gd_t, i27_0, i27_1, i27_5, i27_6, i27_7, i27_8, cl_0, cl_1, cl_5, cl_6, cl_7, cl_8, if_neg h1]; rfl), ?_, ?_⟩
    · rfl
    · exact ⟨hS.mono (by omega), hI0.mono (by omega), hI1.mono (by omega), hT, bad3 hb hn hf, ha, he⟩
theorem byte_n : ∀ c, c < 128 → vp_nar .byte (nI c).toInt8.toInt32 = nI c := by decide +kernel
theorem L2_type (k : Nat) (hk : k ≤ 256) (x : CX) (y : MX) (hR : RR k x y) (p1 : Int32) : ∃ (o : Int32 × Int32 × Int32 × Int32 × (Nat → Int32)) (u : Int32 × Int32 × (Nat → Int32) × (Nat → Int32)), f_X3_type x.2.2.2.2.2.2.2.2.1 x.2.2.2.2.2.2.2.2.2.2.1 x.2.2.2.2.2.1.1 x.2.2.2.2.2.1.2.2.2.2 p1 = some o ∧ f_X4_type y.2.2.2.2.2.1 y.2.2.2.1 y.2.2.2.2.1 p1 = some u ∧ o.1 = u.1 ∧ RR (k + 4) (x.1, x.2.1, x.2.2.1, x.2.2.2.1, x.2.2.2.2.1, (o.2.2.2.1, x.2.2.2.2.2.1.2.1, x.2.2.2.2.2.1.2.2.1, x.2.2.2.2.2.1.2.2.2.1, o.2.2.2.2), (x.2.2.2.2.2.2.1, x.2.2.2.2.2.2.2.1, o.2.1, x.2.2.2.2.2.2.2.2.2.1, o.2.2.1, x.2.2.2.2.2.2.2.2.2.2.2.1, x.2.2.2.2.2.2.2.2.2.2.2.2)) (y.1, y.2.1, y.2.2.1, u.2.2.1, u.2.2.2, u.2.1, y.2.2.2.2.2.2.1, y.2.2.2.2.2.2.2.1, y.2.2.2.2.2.2.2.2.1, y.2.2.2.2.2.2.2.2.2.1, y.2.2.2.2.2.2.2.2.2.2.1, y.2.2.2.2.2.2.2.2.2.2.2.1, y.2.2.2.2.2.2.2.2.2.2.2.2.1, y.2.2.2.2.2.2.2.2.2.2.2.2.2.1, y.2.2.2.2.2.2.2.2.2.2.2.2.2.2.1, y.2.2.2.2.2.2.2.2.2.2.2.2.2.2.2.1, y.2.2.2.2.2.2.2.2.2.2.2.2.2.2.2.2.1, y.2.2.2.2.2.2.2.2.2.2.2.2.2.2.2.2.2.1, y.2.2.2.2.2.2.2.2.2.2.2.2.2.2.2.2.2.2.1, y.2.2.2.2.2.2.2.2.2.2.2.2.2.2.2.2.2.2.2.1, y.2.2.2.2.2.2.2.2.2.2.2.2.2.2.2.2.2.2.2.2) := by
  obtain ⟨nw, i0, i1, dr, row, tx, kp0, kp1, bc, nc, fc, ab, be⟩ := x
  obtain ⟨st, yab, ybe, rf, txt, byt, pl, tok, vlu, beg, yrow, th, pts, usd, ahd, um, drw, ik, kpt, kah, kmn⟩ := y
  obtain ⟨hS, hI0, hI1, hT, ⟨hb, hn, hf⟩, ha, he⟩ := hR
  dsimp only at hS hI0 hI1 hT hb hn hf ha he ⊢
  by_cases h1 : ¬ p1 < 0 ∧ ¬ (127 : Int32) < p1
  · obtain ⟨c, hc, rfl⟩ := wi_n (N := 127) rfl (by decide) h1
    obtain ⟨n, q1, q2, q3, q4⟩ := id hT
    by_cases h2 : n = 150
    · subst h2
      refine ⟨_, _, (by rw [q2]; simp only [f_X3_type, v_isWithin, v_isDay, v_isImage, v_bad, v_no, v_full, f_X3_refuseBadAs, Option.bind_some, n10, ↓reduceIte, gd_t, if_pos h1]; rw [if_neg (show ¬ nI 150 < 150 by decide)]), (by rw [q3]; simp only [f_X4_type, in_0_96, in_1_4, in_0_5, in_1_3, in_0_127, in_0_2, in_0_999, in_1_6, in_m1_96, in_0_7, in_0_1, in_0_10, in_0_990, in_0_999999, in_0_60, in_0_100, w_isWhat, w_bad, w_no, w_full, Option.bind_some, n10, ↓reduceIte, gd_t, i27_0, i27_1, i27_5, i27_6, i27_7, i27_8, cl_0, cl_1, cl_5, cl_6, cl_7, cl_8, if_pos h1]; rw [if_pos (show nI 150 = 150 from rfl)]), ?_, ?_⟩
      · rfl
      · exact ⟨hS.mono (by omega), hI0.mono (by omega), hI1.mono (by omega), ⟨150, by omega, rfl, rfl, q4⟩, full3 hb hn hf, ha, he⟩
    · have k1 : nI n < 150 := nI_lt (a := n) (b := 150) (by omega) (by decide)
      have k2 : ¬ (150 : Int32) ≤ nI n := nI_ge (a := n) (b := 150) (by omega) (by decide)
      have k3 : ¬ nI n < 0 := nI_pos (by omega)
      have k4 : ¬ nI n = 150 := nI_lit (b := 150) (by omega) (by decide) (by omega)
      refine ⟨_, _, (by rw [q2]; simp only [f_X3_type, v_isWithin, v_isDay, v_isImage, v_bad, v_no, v_full, f_X3_refuseBadAs, Option.bind_some, n10, ↓reduceIte, gd_t, if_pos h1, if_pos k1, f_X1_append, if_neg k2, if_neg k3, inb_nI (show n < 150 by omega) (by decide), nI_clamp (show n < 2 ^ 31 by omega), nI_1, byte_n c (by omega)]; rfl), (by rw [q3]; simp only [f_X4_type, in_0_96, in_1_4, in_0_5, in_1_3, in_0_127, in_0_2, in_0_999, in_1_6, in_m1_96, in_0_7, in_0_1, in_0_10, in_0_990, in_0_999999, in_0_60, in_0_100, w_isWhat, w_bad, w_no, w_full, Option.bind_some, n10, ↓reduceIte, gd_t, i27_0, i27_1, i27_5, i27_6, i27_7, i27_8, cl_0, cl_1, cl_5, cl_6, cl_7, cl_8, if_pos h1, if_neg k4, inb_nI (show n < 150 by omega) (by decide), nI_clamp (show n < 2 ^ 31 by omega), nI_1]; rfl), ?_, ?_⟩
      · rfl
      · refine ⟨hS.mono (by omega), hI0.mono (by omega), hI1.mono (by omega), ⟨n + 1, by omega, rfl, rfl, fun j hj => ?_⟩, ⟨hb, hn, hf⟩, ha, he⟩
        by_cases q : j = n
        · subst q
          exact ⟨c, by omega, pk_us, pk_us⟩
        · obtain ⟨c', z1, z2, z3⟩ := q4 j (by omega)
          exact ⟨c', z1, (pk_un q).trans z2, (pk_un q).trans z3⟩
  · refine ⟨_, _, (by simp only [f_X3_type, v_isWithin, v_isDay, v_isImage, v_bad, v_no, v_full, f_X3_refuseBadAs, Option.bind_some, n10, ↓reduceIte, gd_t, if_neg h1]; rfl), (by simp only [f_X4_type, in_0_96, in_1_4, in_0_5, in_1_3, in_0_127, in_0_2, in_0_999, in_1_6, in_m1_96, in_0_7, in_0_1, in_0_10, in_0_990, in_0_999999, in_0_60, in_0_100, w_isWhat, w_bad, w_no, w_full, Option.bind_some, n10, ↓reduceIte, gd_t, i27_0, i27_1, i27_5, i27_6, i27_7, i27_8, cl_0, cl_1, cl_5, cl_6, cl_7, cl_8, if_neg h1]; rfl), ?_, ?_⟩
    · rfl
    · exact ⟨hS.mono (by omega), hI0.mono (by omega), hI1.mono (by omega), hT, bad3 hb hn hf, ha, he⟩
theorem w_mixedLoop {n e h c1 c2 c3 n' e' d1 d2 d3 : Nat} {kinds extras fac st kpt : Nat → Int32} (S : SD n e h c1 c2 c3 kinds extras fac st) {i m1 m2 : Nat} (hi : i < 2) (h1 : m1 < 64) (h2 : m2 < 64) (hn : n' < 97) (he : 1 ≤ e') (he4 : e' ≤ 4) (k0 : kpt (27 * i) = nI n') (k1 : kpt (27 * i + 1) = nI e') (k2 : kpt (27 * i + 2) = nI d1) (k3 : kpt (27 * i + 3) = nI d2) (k4 : kpt (27 * i + 4) = nI d3) (hd1 : d1 < 97) (hd2 : d2 < 97) (hd3 : d3 < 97) (hx : m1 &&& m2 = 0) (pts : Nat → Int32) : lp (b_X4_mixed_51 st kpt (nI i) (nI m1) (nI m2)) 200 (0, pts) = some (fa_fill (PS n e c1 c2 c3 m2 (PS n' e' d1 d2 d3 m1 (fun _ => -1))) pts 6) := by
  have hand : ∀ j, m1.testBit j = true → m2.testBit j = true → False := fun j q1 q2 => by
    have := congrArg (fun z => z.testBit j) hx
    simp [q1, q2] at this
  have key : lp (b_X4_mixed_51 st kpt (nI i) (nI m1) (nI m2)) 200 (nI 0, fa_fill (PS n e c1 c2 c3 m2 (PS n' e' d1 d2 d3 m1 (fun _ => -1))) pts 0) = some (fa_fill (PS n e c1 c2 c3 m2 (PS n' e' d1 d2 d3 m1 (fun _ => -1))) pts 6) := by
    refine lp_run (fun i => (nI i, fa_fill (PS n e c1 c2 c3 m2 (PS n' e' d1 d2 d3 m1 (fun _ => -1))) pts i)) 6 (fun j hj => ?_) ?_ 200 (by decide)
    · simp only [b_X4_mixed_51, if_neg (i6 hj), w_has m1 h1 j hj, w_has m2 h2 j hj, Option.bind_some, nI_1, inb_nI hj (by decide), gd_t, c6 (show j ≤ 6 by omega)]
      rw [← fa_fill_succ]
      have e27 : (27 : Int32) * nI i = nI (27 * i) := pk_mul 27 i
      by_cases q : m1.testBit j = true
      · have q2 : ¬ m2.testBit j = true := fun z => hand j q z
        simp only [PS, if_pos q, if_neg q2, n10, ↓reduceIte, e27, w_shareOf (g := kpt) (b := 27 * i) (N1 := 54) (by omega) (by decide) hn he he4 k0 k1 k2 k3 k4 hd1 hd2 hd3 hj, Option.bind_some]
      · by_cases q2 : m2.testBit j = true
        · simp only [PS, if_neg q, if_pos q2, n10, ↓reduceIte, Option.bind_some, (S.share hj).2]
        · simp only [PS, if_neg q, if_neg q2, ↓reduceIte, Option.bind_some]
    · simp only [b_X4_mixed_51, if_pos i6e]
  rw [fa_fill_0] at key
  exact key
theorem and_z : ∀ a, a < 64 → ∀ b, b < 64 → (nI a &&& nI b = 0 ↔ a &&& b = 0) := by
  intro a ha b hb
  have : a &&& b ≤ a := Nat.and_le_left
  rw [fa_and, show (0 : Int32) = nI 0 from rfl, nI_eq (by omega) (by decide)]
/-- both sides of mixed, where all may go on -/
theorem mixed_v {n e h c1 c2 c3 n' e' d1 d2 d3 : Nat} {kinds extras fac st kpt fac' : Nat → Int32} (S : SD n e h c1 c2 c3 kinds extras fac st) {i m1 m2 : Nat} (hi : i < 2) (h1 : m1 < 64) (h2 : m2 < 64) (hn : n' < 97) (he : 1 ≤ e') (he4 : e' ≤ 4) (q0 : fac' 0 = nI d1) (q1 : fac' 1 = nI d2) (q2 : fac' 2 = nI d3) (k0 : kpt (27 * i) = nI n') (k1 : kpt (27 * i + 1) = nI e') (k2 : kpt (27 * i + 2) = nI d1) (k3 : kpt (27 * i + 3) = nI d2) (k4 : kpt (27 * i + 4) = nI d3) (hd1 : d1 < 97) (hd2 : d2 < 97) (hd3 : d3 < 97) (hx : m1 &&& m2 = 0) (pts usd row : Nat → Int32) :
    ∃ (r : Int32) (o1 o2 : Nat → Int32) (u1 u2 : Nat → Int32), f_X0_putShares (nI n') (nI e') fac' (fa_fill (fun _ => -1) row 6) (nI m1) = some o1 ∧ f_X0_putShares (nI n) (nI e) fac o1 (nI m2) = some o2 ∧ f_X2_foundBy o2 (nI e) = some r ∧ lp (b_X4_mixed_51 st kpt (nI i) (nI m1) (nI m2)) 200 (0, pts) = some u1 ∧ f_X4_found st u1 usd = some (r, u2) := by
  obtain ⟨⟨g1, g2, g3, g4, g5, g6, g7⟩, ⟨f1, f2, f3⟩, ⟨s0, s1, s2, s3, s4, s8⟩, H⟩ := id S
  have A := v_putShares hn he he4 q0 q1 q2 hd1 hd2 hd3 h1 (fa_fill (fun _ => (-1 : Int32)) row 6)
  have B := v_putShares g1 g2 g3 f1 f2 f3 g5 g6 g7 h2 (fa_fill (PS n' e' d1 d2 d3 m1 (fa_fill (fun _ => (-1 : Int32)) row 6)) (fa_fill (fun _ => (-1 : Int32)) row 6) 6)
  have hw0 : ∀ j, j < 6 → tv (fa_fill (fun _ => (-1 : Int32)) row 6 j) := fill_tv (fun _ _ => Or.inl rfl)
  have hw1 := fill_tv (g := fa_fill (fun _ => (-1 : Int32)) row 6) (PS_tv (n := n') (e := e') (c1 := d1) (c2 := d2) (c3 := d3) (m := m1) hw0)
  have hw2 := fill_tv (g := fa_fill (PS n' e' d1 d2 d3 m1 (fa_fill (fun _ => (-1 : Int32)) row 6)) (fa_fill (fun _ => (-1 : Int32)) row 6) 6) (PS_tv (n := n) (e := e) (c1 := c1) (c2 := c2) (c3 := c3) (m := m2) hw1)
  have C := v_foundBy hw2 g2 g3
  have D := w_mixedLoop S hi h1 h2 hn he he4 k0 k1 k2 k3 k4 hd1 hd2 hd3 hx pts
  have hw3 := fill_tv (g := pts) (PS_tv (n := n) (e := e) (c1 := c1) (c2 := c2) (c3 := c3) (m := m2) (PS_tv (n := n') (e := e') (c1 := d1) (c2 := d2) (c3 := d3) (m := m1) (f := fun _ => (-1 : Int32)) (fun _ _ => Or.inl rfl)))
  obtain ⟨us, hus⟩ := w_found (st := st) usd hw3 s1 g2 g3
  have hc : ∀ j, j < 6 → fa_fill (PS n e c1 c2 c3 m2 (fa_fill (PS n' e' d1 d2 d3 m1 (fa_fill (fun _ => (-1 : Int32)) row 6)) (fa_fill (fun _ => (-1 : Int32)) row 6) 6)) (fa_fill (PS n' e' d1 d2 d3 m1 (fa_fill (fun _ => (-1 : Int32)) row 6)) (fa_fill (fun _ => (-1 : Int32)) row 6) 6) 6 j = fa_fill (PS n e c1 c2 c3 m2 (PS n' e' d1 d2 d3 m1 (fun _ => -1))) pts 6 j := fun j hj => by
    rw [fill6 _ _ j hj, fill6 _ _ j hj]
    unfold PS
    rw [fill6 _ _ j hj]
    simp only [fill6 _ _ j hj]
  rw [← fnd_congr hc g3] at hus
  exact ⟨_, _, _, _, _, A, B, C, D, hus⟩
theorem L2_mixed (k : Nat) (hk : k ≤ 256) (x : CX) (y : MX) (hR : RR k x y) (p1 : Int32) (p2 : Int32) (p3 : Int32) : ∃ (o : Int32 × Int32 × Int32 × (Nat → Int32)) (u : Int32 × (Nat → Int32) × (Nat → Int32) × (Nat → Int32)), f_X3_mixed x.2.2.2.2.2.2.1 x.2.2.2.2.2.2.2.1 x.2.2.2.2.2.2.2.2.1 x.2.2.2.2.2.2.2.2.2.1 x.1.1 x.1.2.1 x.1.2.2.1 x.1.2.2.2.2.2.2.2.2.2.1 x.2.1.1 x.2.1.2.1 x.2.1.2.2.2.2.2.2.2.2.2.1 x.2.2.1.1 x.2.2.1.2.1 x.2.2.1.2.2.2.2.2.2.2.2.2.1 x.2.2.2.2.1 p1 p2 p3 = some o ∧ f_X4_mixed y.1 y.2.2.2.1 y.2.2.2.2.2.2.2.2.2.2.2.2.1 y.2.2.2.2.2.2.2.2.2.2.2.2.2.1 y.2.2.2.2.2.2.2.2.2.2.2.2.2.2.2.2.2.1 y.2.2.2.2.2.2.2.2.2.2.2.2.2.2.2.2.2.2.1 p1 p2 p3 = some u ∧ o.1 = u.1 ∧ RR (k + 4) (x.1, x.2.1, x.2.2.1, x.2.2.2.1, o.2.2.2, x.2.2.2.2.2.1, (x.2.2.2.2.2.2.1, x.2.2.2.2.2.2.2.1, o.2.1, o.2.2.1, x.2.2.2.2.2.2.2.2.2.2.1, x.2.2.2.2.2.2.2.2.2.2.2.1, x.2.2.2.2.2.2.2.2.2.2.2.2)) (y.1, y.2.1, y.2.2.1, u.2.1, y.2.2.2.2.1, y.2.2.2.2.2.1, y.2.2.2.2.2.2.1, y.2.2.2.2.2.2.2.1, y.2.2.2.2.2.2.2.2.1, y.2.2.2.2.2.2.2.2.2.1, y.2.2.2.2.2.2.2.2.2.2.1, y.2.2.2.2.2.2.2.2.2.2.2.1, u.2.2.1, u.2.2.2, y.2.2.2.2.2.2.2.2.2.2.2.2.2.2.1, y.2.2.2.2.2.2.2.2.2.2.2.2.2.2.2.1, y.2.2.2.2.2.2.2.2.2.2.2.2.2.2.2.2.1, y.2.2.2.2.2.2.2.2.2.2.2.2.2.2.2.2.2.1, y.2.2.2.2.2.2.2.2.2.2.2.2.2.2.2.2.2.2.1, y.2.2.2.2.2.2.2.2.2.2.2.2.2.2.2.2.2.2.2.1, y.2.2.2.2.2.2.2.2.2.2.2.2.2.2.2.2.2.2.2.2) := by
  obtain ⟨nw, i0, i1, dr, row, tx, kp0, kp1, bc, nc, fc, ab, be⟩ := x
  obtain ⟨st, yab, ybe, rf, txt, byt, pl, tok, vlu, beg, yrow, th, pts, usd, ahd, um, drw, ik, kpt, kah, kmn⟩ := y
  obtain ⟨hS, hI0, hI1, hT, ⟨hb, hn, hf⟩, ha, he⟩ := hR
  dsimp only at hS hI0 hI1 hT hb hn hf ha he ⊢
  obtain ⟨n, e, h, d, t, s, u, c1, c2, c3, a, ⟨b1, b2, b3, b4, b5, b6, b7⟩, ⟨d5, d6, d7, dum⟩, S, ht, hp⟩ := hS.op
  obtain ⟨⟨g1, g2, g3, g4, g5, g6, g7⟩, ⟨f1, f2, f3⟩, ⟨s0, s1, s2, s3, s4, s8⟩, H⟩ := id S
  by_cases h1 : ¬ p1 < 0 ∧ ¬ (1 : Int32) < p1
  · by_cases h2 : ¬ p2 < 0 ∧ ¬ nI (2 ^ h - 1) < p2
    · by_cases h3 : ¬ p3 < 0 ∧ ¬ nI (2 ^ h - 1) < p3
      · by_cases h4 : p2 &&& p3 = 0
        · obtain ⟨i, hi, rfl⟩ := wi_n (N := 1) rfl (by decide) h1
          obtain ⟨m1, hm1, hm16, rfl⟩ := wi_who g4 h2
          obtain ⟨m2, hm2, hm26, rfl⟩ := wi_who g4 h3
          have hx := (and_z m1 hm16 m2 hm26).mp h4
          have : i = 0 ∨ i = 1 := by omega
          rcases this with rfl | rfl
          · have z0 : nI 0 = (0 : Int32) := rfl
            rw [z0] at h1 ⊢
            obtain ⟨hk0, hk⟩ := hI0
            rcases hk with z | ⟨z, hI⟩
            · subst z
              refine ⟨_, _, (by rw [b3]; simp only [f_X3_mixed, v_isWithin, v_isDay, v_isImage, v_bad, v_no, v_full, f_X3_refuseBadAs, Option.bind_some, n10, ↓reduceIte, gd_t, v_hasAll g4, if_pos h1, if_pos h2, if_pos h3, if_pos h4, f_X3_isKept]; simp only [bz_0, v_isWithin, v_isDay, v_isImage, v_bad, v_no, v_full, f_X3_refuseBadAs, Option.bind_some, n10, ↓reduceIte, gd_t]; rfl), (by simp only [f_X4_mixed, in_0_96, in_1_4, in_0_5, in_1_3, in_0_127, in_0_2, in_0_999, in_1_6, in_m1_96, in_0_7, in_0_1, in_0_10, in_0_990, in_0_999999, in_0_60, in_0_100, w_isWhat, w_bad, w_no, w_full, Option.bind_some, n10, ↓reduceIte, gd_t, i27_0, i27_1, i27_5, i27_6, i27_7, i27_8, cl_0, cl_1, cl_5, cl_6, cl_7, cl_8, w_areHolders g4 s8, if_pos h1, if_pos h2, if_pos h3, if_pos h4, show inb (0 : Int32) 2 = true by decide, hk0]; rfl), ?_, ?_⟩
              · rfl
              · exact ⟨hS.mono (by omega), ⟨hk0, Or.inl rfl⟩, hI1.mono (by omega), hT, no3 hb hn hf, ha, he⟩
            · subst z
              obtain ⟨n', e', _, _, _, _, _, d1, d2, d3, a', ⟨b1', b2', _⟩, ⟨q0, q1, q2⟩, ⟨k0, k1, k2, k3, k4, _⟩, _⟩ := hI.raw
              obtain ⟨r, o1, o2, u1, u2, A, B, C, D, E⟩ := mixed_v S (i := 0) (kpt := kpt) (by decide) hm16 hm26 a'.1 a'.2.1 a'.2.2.1 q0 q1 q2 k0 k1 k2 k3 k4 a'.2.2.2.2.2.2.2.2.1 a'.2.2.2.2.2.2.2.2.2.1 a'.2.2.2.2.2.2.2.2.2.2 hx pts usd row
              rw [z0] at D
              refine ⟨_, _, (by rw [b3, b2, b1, b1', b2']; simp only [f_X3_mixed, v_isWithin, v_isDay, v_isImage, v_bad, v_no, v_full, f_X3_refuseBadAs, Option.bind_some, n10, ↓reduceIte, gd_t, v_hasAll g4, if_pos h1, if_pos h2, if_pos h3, if_pos h4, f_X3_isKept]; simp only [bz_1, v_isWithin, v_isDay, v_isImage, v_bad, v_no, v_full, f_X3_refuseBadAs, Option.bind_some, n10, ↓reduceIte, gd_t, v_empty, A, B, C]; rfl), (by simp only [f_X4_mixed, in_0_96, in_1_4, in_0_5, in_1_3, in_0_127, in_0_2, in_0_999, in_1_6, in_m1_96, in_0_7, in_0_1, in_0_10, in_0_990, in_0_999999, in_0_60, in_0_100, w_isWhat, w_bad, w_no, w_full, Option.bind_some, n10, ↓reduceIte, gd_t, i27_0, i27_1, i27_5, i27_6, i27_7, i27_8, cl_0, cl_1, cl_5, cl_6, cl_7, cl_8, w_areHolders g4 s8, if_pos h1, if_pos h2, if_pos h3, if_pos h4, show inb (0 : Int32) 2 = true by decide, hk0, D, E]; rfl), ?_, ?_⟩
              · rfl
              · exact ⟨hS.mono (by omega), ⟨hk0, Or.inr ⟨rfl, hI.mono (by omega)⟩⟩, hI1.mono (by omega), hT, ⟨hb, hn, hf⟩, ha, he⟩
          · have z0 : nI 1 = (1 : Int32) := rfl
            rw [z0] at h1 ⊢
            obtain ⟨hk0, hk⟩ := hI1
            rcases hk with z | ⟨z, hI⟩
            · subst z
              refine ⟨_, _, (by rw [b3]; simp only [f_X3_mixed, v_isWithin, v_isDay, v_isImage, v_bad, v_no, v_full, f_X3_refuseBadAs, Option.bind_some, n10, ↓reduceIte, gd_t, v_hasAll g4, if_pos h1, if_pos h2, if_pos h3, if_pos h4, f_X3_isKept]; simp only [bz_0, v_isWithin, v_isDay, v_isImage, v_bad, v_no, v_full, f_X3_refuseBadAs, Option.bind_some, n10, ↓reduceIte, gd_t]; rfl), (by simp only [f_X4_mixed, in_0_96, in_1_4, in_0_5, in_1_3, in_0_127, in_0_2, in_0_999, in_1_6, in_m1_96, in_0_7, in_0_1, in_0_10, in_0_990, in_0_999999, in_0_60, in_0_100, w_isWhat, w_bad, w_no, w_full, Option.bind_some, n10, ↓reduceIte, gd_t, i27_0, i27_1, i27_5, i27_6, i27_7, i27_8, cl_0, cl_1, cl_5, cl_6, cl_7, cl_8, w_areHolders g4 s8, if_pos h1, if_pos h2, if_pos h3, if_pos h4, show inb (1 : Int32) 2 = true by decide, hk0]; rfl), ?_, ?_⟩
              · rfl
              · exact ⟨hS.mono (by omega), hI0.mono (by omega), ⟨hk0, Or.inl rfl⟩, hT, no3 hb hn hf, ha, he⟩
            · subst z
              obtain ⟨n', e', _, _, _, _, _, d1, d2, d3, a', ⟨b1', b2', _⟩, ⟨q0, q1, q2⟩, ⟨k0, k1, k2, k3, k4, _⟩, _⟩ := hI.raw
              obtain ⟨r, o1, o2, u1, u2, A, B, C, D, E⟩ := mixed_v S (i := 1) (kpt := kpt) (by decide) hm16 hm26 a'.1 a'.2.1 a'.2.2.1 q0 q1 q2 k0 k1 k2 k3 k4 a'.2.2.2.2.2.2.2.2.1 a'.2.2.2.2.2.2.2.2.2.1 a'.2.2.2.2.2.2.2.2.2.2 hx pts usd row
              rw [z0] at D
              refine ⟨_, _, (by rw [b3, b2, b1, b1', b2']; simp only [f_X3_mixed, v_isWithin, v_isDay, v_isImage, v_bad, v_no, v_full, f_X3_refuseBadAs, Option.bind_some, n10, ↓reduceIte, gd_t, v_hasAll g4, if_pos h1, if_pos h2, if_pos h3, if_pos h4, f_X3_isKept]; simp only [bz_1, v_isWithin, v_isDay, v_isImage, v_bad, v_no, v_full, f_X3_refuseBadAs, Option.bind_some, n10, ↓reduceIte, gd_t, v_empty, A, B, C]; rfl), (by simp only [f_X4_mixed, in_0_96, in_1_4, in_0_5, in_1_3, in_0_127, in_0_2, in_0_999, in_1_6, in_m1_96, in_0_7, in_0_1, in_0_10, in_0_990, in_0_999999, in_0_60, in_0_100, w_isWhat, w_bad, w_no, w_full, Option.bind_some, n10, ↓reduceIte, gd_t, i27_0, i27_1, i27_5, i27_6, i27_7, i27_8, cl_0, cl_1, cl_5, cl_6, cl_7, cl_8, w_areHolders g4 s8, if_pos h1, if_pos h2, if_pos h3, if_pos h4, show inb (1 : Int32) 2 = true by decide, hk0, D, E]; rfl), ?_, ?_⟩
              · rfl
              · exact ⟨hS.mono (by omega), hI0.mono (by omega), ⟨hk0, Or.inr ⟨rfl, hI.mono (by omega)⟩⟩, hT, ⟨hb, hn, hf⟩, ha, he⟩
        · refine ⟨_, _, (by rw [b3]; simp only [f_X3_mixed, v_isWithin, v_isDay, v_isImage, v_bad, v_no, v_full, f_X3_refuseBadAs, Option.bind_some, n10, ↓reduceIte, gd_t, v_hasAll g4, if_pos h1, if_pos h2, if_pos h3, if_neg h4]; rfl), (by simp only [f_X4_mixed, in_0_96, in_1_4, in_0_5, in_1_3, in_0_127, in_0_2, in_0_999, in_1_6, in_m1_96, in_0_7, in_0_1, in_0_10, in_0_990, in_0_999999, in_0_60, in_0_100, w_isWhat, w_bad, w_no, w_full, Option.bind_some, n10, ↓reduceIte, gd_t, i27_0, i27_1, i27_5, i27_6, i27_7, i27_8, cl_0, cl_1, cl_5, cl_6, cl_7, cl_8, w_areHolders g4 s8, if_pos h1, if_pos h2, if_pos h3, if_neg h4]; rfl), ?_, ?_⟩
          · rfl
          · exact ⟨hS.mono (by omega), hI0.mono (by omega), hI1.mono (by omega), hT, bad3 hb hn hf, ha, he⟩
      · refine ⟨_, _, (by rw [b3]; simp only [f_X3_mixed, v_isWithin, v_isDay, v_isImage, v_bad, v_no, v_full, f_X3_refuseBadAs, Option.bind_some, n10, ↓reduceIte, gd_t, v_hasAll g4, if_pos h1, if_pos h2, if_neg h3]; rfl), (by simp only [f_X4_mixed, in_0_96, in_1_4, in_0_5, in_1_3, in_0_127, in_0_2, in_0_999, in_1_6, in_m1_96, in_0_7, in_0_1, in_0_10, in_0_990, in_0_999999, in_0_60, in_0_100, w_isWhat, w_bad, w_no, w_full, Option.bind_some, n10, ↓reduceIte, gd_t, i27_0, i27_1, i27_5, i27_6, i27_7, i27_8, cl_0, cl_1, cl_5, cl_6, cl_7, cl_8, w_areHolders g4 s8, if_pos h1, if_pos h2, if_neg h3]; rfl), ?_, ?_⟩
        · rfl
        · exact ⟨hS.mono (by omega), hI0.mono (by omega), hI1.mono (by omega), hT, bad3 hb hn hf, ha, he⟩
    · refine ⟨_, _, (by rw [b3]; simp only [f_X3_mixed, v_isWithin, v_isDay, v_isImage, v_bad, v_no, v_full, f_X3_refuseBadAs, Option.bind_some, n10, ↓reduceIte, gd_t, v_hasAll g4, if_pos h1, if_neg h2]; rfl), (by simp only [f_X4_mixed, in_0_96, in_1_4, in_0_5, in_1_3, in_0_127, in_0_2, in_0_999, in_1_6, in_m1_96, in_0_7, in_0_1, in_0_10, in_0_990, in_0_999999, in_0_60, in_0_100, w_isWhat, w_bad, w_no, w_full, Option.bind_some, n10, ↓reduceIte, gd_t, i27_0, i27_1, i27_5, i27_6, i27_7, i27_8, cl_0, cl_1, cl_5, cl_6, cl_7, cl_8, w_areHolders g4 s8, if_pos h1, if_neg h2]; rfl), ?_, ?_⟩
      · rfl
      · exact ⟨hS.mono (by omega), hI0.mono (by omega), hI1.mono (by omega), hT, bad3 hb hn hf, ha, he⟩
  · refine ⟨_, _, (by simp only [f_X3_mixed, v_isWithin, v_isDay, v_isImage, v_bad, v_no, v_full, f_X3_refuseBadAs, Option.bind_some, n10, ↓reduceIte, gd_t, if_neg h1]; rfl), (by simp only [f_X4_mixed, in_0_96, in_1_4, in_0_5, in_1_3, in_0_127, in_0_2, in_0_999, in_1_6, in_m1_96, in_0_7, in_0_1, in_0_10, in_0_990, in_0_999999, in_0_60, in_0_100, w_isWhat, w_bad, w_no, w_full, Option.bind_some, n10, ↓reduceIte, gd_t, i27_0, i27_1, i27_5, i27_6, i27_7, i27_8, cl_0, cl_1, cl_5, cl_6, cl_7, cl_8, if_neg h1]; rfl), ?_, ?_⟩
    · rfl
    · exact ⟨hS.mono (by omega), hI0.mono (by omega), hI1.mono (by omega), hT, bad3 hb hn hf, ha, he⟩
