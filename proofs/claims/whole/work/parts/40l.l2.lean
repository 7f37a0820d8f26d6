theorem sub64 {x y : Int64} {p q : Int} (hx : x.toInt = p) (hy : y.toInt = q) (h1 : -10000000 ≤ p) (h2 : p ≤ 10000000) (h3 : -10000000 ≤ q) (h4 : q ≤ 10000000) : (x - y).toInt = p - q := by
  rw [Int64.toInt_sub, hx, hy]
  apply Int.bmod_eq_of_le <;> omega
theorem add64 {x y : Int64} {p q : Int} (hx : x.toInt = p) (hy : y.toInt = q) (h1 : -10000000 ≤ p) (h2 : p ≤ 10000000) (h3 : -10000000 ≤ q) (h4 : q ≤ 10000000) : (x + y).toInt = p + q := by
  rw [Int64.toInt_add, hx, hy]
  apply Int.bmod_eq_of_le <;> omega
theorem cmp_both {a b c d : Nat} (ha : a ≤ 1000000) (hb : b ≤ 1000000) (hc : c ≤ 1000000) (hd : d ≤ 1000000) : lg_cmp (lN a - lN b) (lN c - lN d) < 0 ↔ lg_cmp (((lN a - lN b) - lN c) + lN d) 0 < 0 := by
  have e1 := sub64 (pk_lT (n := a) (by omega)) (pk_lT (n := b) (by omega)) (by omega) (by omega) (by omega) (by omega)
  have e2 := sub64 (pk_lT (n := c) (by omega)) (pk_lT (n := d) (by omega)) (by omega) (by omega) (by omega) (by omega)
  have e3 := sub64 e1 (pk_lT (n := c) (by omega)) (by omega) (by omega) (by omega) (by omega)
  have e4 := add64 e3 (pk_lT (n := d) (by omega)) (by omega) (by omega) (by omega) (by omega)
  rw [lg_lt, lg_lt, fa_lt64, fa_lt64, e1, e2, e4]
  have e0 : (0 : Int64).toInt = 0 := by decide
  rw [e0]
  omega
theorem best_both {st : Nat → Int32} {h p q : Nat} (s8 : st 8 = nI h) (hh : h ≤ 6) (hp : p ≤ 10) (hq : q ≤ 10) : ∃ r, lp (b_X3_best_33 (nI h) (nI p) (nI q)) 200 (1, 0, 1) = some r ∧ lp (b_X4_best_34 st (nI p) (nI q)) 200 (1, 2) = some r := by
  have bd : ∀ o, o ≤ 10 → ∀ e, e ≤ 4 → AL h o e (2 ^ h) ≤ 1000000 := fun o ho e he => Nat.le_trans (AL_le h (by omega) o (by omega) e (by omega)).1 (pow_le h (by omega)).2
  obtain ⟨r, r', q1, q2, q3⟩ := lp_rel (b1 := b_X3_best_33 (nI h) (nI p) (nI q)) (b2 := b_X4_best_34 st (nI p) (nI q)) (fun x y => ∃ b i : Nat, 1 ≤ b ∧ b ≤ 4 ∧ 2 ≤ i ∧ i ≤ 5 ∧ x.1 = nI b ∧ y.1 = nI b ∧ x.2.2 = nI i ∧ y.2 = nI i ∧ x.2.1 = lN (AL h p b (2 ^ h)) - lN (AL h q b (2 ^ h))) (fun r r' => r = r') (fun x => 6 - x.2.2.toNatClampNeg) (by
    rintro ⟨x1, x2, x3⟩ ⟨y1, y2⟩ ⟨b, i, hb1, hb4, hi2, hi5, hx1, hy1, hx3, hy2, hx2⟩
    dsimp only at hx1 hy1 hx3 hy2 hx2
    subst hx1 hy1 hx3 hy2 hx2
    by_cases z : i = 5
    · right
      subst z
      have k1 : (4 : Int32) < nI 5 := by decide
      exact ⟨nI b, nI b, by simp only [b_X3_best_33, if_pos k1], by simp only [b_X4_best_34, if_pos k1], rfl⟩
    · left
      have k1 : ¬ (4 : Int32) < nI i := nI_nlt (a := 4) (b := i) (by omega) (by decide)
      have k2 : ¬ nI i = 1 := nI_lit (b := 1) (by omega) (by decide) (by omega)
      have hμ : 6 - (nI (i + 1)).toNatClampNeg < 6 - (nI i).toNatClampNeg := by
        rw [nI_clamp (by omega), nI_clamp (by omega)]
        omega
      have cc := cmp_both (bd p hp i (by omega)) (bd q hq i (by omega)) (bd p hp b hb4) (bd q hq b hb4)
      by_cases c : lg_cmp (lN (AL h p i (2 ^ h)) - lN (AL h q i (2 ^ h))) (lN (AL h p b (2 ^ h)) - lN (AL h q b (2 ^ h))) < 0
      · have c' := cc.mp c
        refine ⟨(nI b, lN (AL h p b (2 ^ h)) - lN (AL h q b (2 ^ h)), nI (i + 1)), (nI b, nI (i + 1)), ?_, ?_, ⟨b, i + 1, hb1, hb4, by omega, by omega, rfl, rfl, rfl, rfl, rfl⟩, hμ⟩
        · simp only [b_X3_best_33, if_neg k1, v_parts hh hp (show i ≤ 4 by omega), v_parts hh hq (show i ≤ 4 by omega), Option.bind_some, if_neg k2, if_pos c, nI_1]
        · simp only [b_X4_best_34, if_neg k1, w_atLeast s8 hh hp (show i ≤ 4 by omega), w_atLeast s8 hh hq (show i ≤ 4 by omega), w_atLeast s8 hh hp hb4, w_atLeast s8 hh hq hb4, Option.bind_some, if_pos c', nI_1]
      · have c' := fun z => c (cc.mpr z)
        refine ⟨(nI i, lN (AL h p i (2 ^ h)) - lN (AL h q i (2 ^ h)), nI (i + 1)), (nI i, nI (i + 1)), ?_, ?_, ⟨i, i + 1, by omega, by omega, by omega, by omega, rfl, rfl, rfl, rfl, rfl⟩, hμ⟩
        · simp only [b_X3_best_33, if_neg k1, v_parts hh hp (show i ≤ 4 by omega), v_parts hh hq (show i ≤ 4 by omega), Option.bind_some, if_neg k2, if_neg c, nI_1]
        · simp only [b_X4_best_34, if_neg k1, w_atLeast s8 hh hp (show i ≤ 4 by omega), w_atLeast s8 hh hq (show i ≤ 4 by omega), w_atLeast s8 hh hp hb4, w_atLeast s8 hh hq hb4, Option.bind_some, if_neg c', nI_1]) 199 200 (nI 1, lN (AL h p 1 (2 ^ h)) - lN (AL h q 1 (2 ^ h)), nI 2) (nI 1, nI 2) ⟨1, 2, by omega, by omega, by omega, by omega, rfl, rfl, rfl, rfl, rfl⟩ (by show 6 - (nI 2).toNatClampNeg < 199; omega) (by show 6 - (nI 2).toNatClampNeg < 200; omega)
  have A1 : f_X3_partsWithAtLeast 1 (nI h) (nI p) = some (lN (AL h p 1 (2 ^ h))) := v_parts (e := 1) hh hp (by decide)
  have A2 : f_X3_partsWithAtLeast 1 (nI h) (nI q) = some (lN (AL h q 1 (2 ^ h))) := v_parts (e := 1) hh hq (by decide)
  have k1 : ¬ (4 : Int32) < 1 := by decide
  refine ⟨r, ?_, by rw [q3]; exact q2⟩
  rw [lp_i (s' := (nI 1, lN (AL h p 1 (2 ^ h)) - lN (AL h q 1 (2 ^ h)), nI 2)) 199 (by simp only [b_X3_best_33, if_neg k1, A1, A2, Option.bind_some, ↓reduceIte]; rfl)]
  exact q1
theorem L2_best (k : Nat) (hk : k ≤ 256) (x : CX) (y : MX) (hR : RR k x y) (p1 : Int32) (p2 : Int32) : ∃ (o : Int32 × Int32) (u : Int32 × (Nat → Int32)), f_X3_best x.2.2.2.2.2.2.2.2.1 x.1.2.2.1 p1 p2 = some o ∧ f_X4_best y.1 y.2.2.2.1 p1 p2 = some u ∧ o.1 = u.1 ∧ RR (k + 4) (x.1, x.2.1, x.2.2.1, x.2.2.2.1, x.2.2.2.2.1, x.2.2.2.2.2.1, (x.2.2.2.2.2.2.1, x.2.2.2.2.2.2.2.1, o.2, x.2.2.2.2.2.2.2.2.2.1, x.2.2.2.2.2.2.2.2.2.2.1, x.2.2.2.2.2.2.2.2.2.2.2.1, x.2.2.2.2.2.2.2.2.2.2.2.2)) (y.1, y.2.1, y.2.2.1, u.2, y.2.2.2.2.1, y.2.2.2.2.2.1, y.2.2.2.2.2.2.1, y.2.2.2.2.2.2.2.1, y.2.2.2.2.2.2.2.2.1, y.2.2.2.2.2.2.2.2.2.1, y.2.2.2.2.2.2.2.2.2.2.1, y.2.2.2.2.2.2.2.2.2.2.2.1, y.2.2.2.2.2.2.2.2.2.2.2.2.1, y.2.2.2.2.2.2.2.2.2.2.2.2.2.1, y.2.2.2.2.2.2.2.2.2.2.2.2.2.2.1, y.2.2.2.2.2.2.2.2.2.2.2.2.2.2.2.1, y.2.2.2.2.2.2.2.2.2.2.2.2.2.2.2.2.1, y.2.2.2.2.2.2.2.2.2.2.2.2.2.2.2.2.2.1, y.2.2.2.2.2.2.2.2.2.2.2.2.2.2.2.2.2.2.1, y.2.2.2.2.2.2.2.2.2.2.2.2.2.2.2.2.2.2.2.1, y.2.2.2.2.2.2.2.2.2.2.2.2.2.2.2.2.2.2.2.2) := by
  obtain ⟨nw, i0, i1, dr, row, tx, kp0, kp1, bc, nc, fc, ab, be⟩ := x
  obtain ⟨st, yab, ybe, rf, txt, byt, pl, tok, vlu, beg, yrow, th, pts, usd, ahd, um, drw, ik, kpt, kah, kmn⟩ := y
  obtain ⟨hS, hI0, hI1, hT, ⟨hb, hn, hf⟩, ha, he⟩ := hR
  dsimp only at hS hI0 hI1 hT hb hn hf ha he ⊢
  obtain ⟨n, e, h, d, t, s, u, c1, c2, c3, a, ⟨b1, b2, b3, b4, b5, b6, b7⟩, ⟨d5, d6, d7, dum⟩, S, ht, hp⟩ := hS.op
  obtain ⟨⟨g1, g2, g3, g4, g5, g6, g7⟩, ⟨f1, f2, f3⟩, ⟨s0, s1, s2, s3, s4, s8⟩, H⟩ := id S
  by_cases h1 : ¬ p1 < 0 ∧ ¬ (10 : Int32) < p1
  · by_cases h2 : ¬ p2 < 0 ∧ ¬ (10 : Int32) < p2
    · obtain ⟨o, ho, rfl⟩ := wi_n (N := 10) rfl (by decide) h1
      obtain ⟨o', ho', rfl⟩ := wi_n (N := 10) rfl (by decide) h2
      obtain ⟨r, A, B⟩ := best_both s8 g4 ho ho'
      refine ⟨_, _, (by rw [b3]; simp only [f_X3_best, v_isWithin, v_isDay, v_isImage, v_bad, v_no, v_full, f_X3_refuseBadAs, Option.bind_some, n10, ↓reduceIte, gd_t, if_pos h1, if_pos h2, A]; rfl), (by simp only [f_X4_best, in_0_96, in_1_4, in_0_5, in_1_3, in_0_127, in_0_2, in_0_999, in_1_6, in_m1_96, in_0_7, in_0_1, in_0_10, in_0_990, in_0_999999, in_0_60, in_0_100, w_isWhat, w_bad, w_no, w_full, Option.bind_some, n10, ↓reduceIte, gd_t, i27_0, i27_1, i27_5, i27_6, i27_7, i27_8, cl_0, cl_1, cl_5, cl_6, cl_7, cl_8, if_pos h1, if_pos h2, B]; rfl), ?_, ?_⟩
      · rfl
      · exact ⟨hS.mono (by omega), hI0.mono (by omega), hI1.mono (by omega), hT, ⟨hb, hn, hf⟩, ha, he⟩
    · refine ⟨_, _, (by simp only [f_X3_best, v_isWithin, v_isDay, v_isImage, v_bad, v_no, v_full, f_X3_refuseBadAs, Option.bind_some, n10, ↓reduceIte, gd_t, if_pos h1, if_neg h2]; rfl), (by simp only [f_X4_best, in_0_96, in_1_4, in_0_5, in_1_3, in_0_127, in_0_2, in_0_999, in_1_6, in_m1_96, in_0_7, in_0_1, in_0_10, in_0_990, in_0_999999, in_0_60, in_0_100, w_isWhat, w_bad, w_no, w_full, Option.bind_some, n10, ↓reduceIte, gd_t, i27_0, i27_1, i27_5, i27_6, i27_7, i27_8, cl_0, cl_1, cl_5, cl_6, cl_7, cl_8, if_pos h1, if_neg h2]; rfl), ?_, ?_⟩
      · rfl
      · exact ⟨hS.mono (by omega), hI0.mono (by omega), hI1.mono (by omega), hT, bad3 hb hn hf, ha, he⟩
  · refine ⟨_, _, (by simp only [f_X3_best, v_isWithin, v_isDay, v_isImage, v_bad, v_no, v_full, f_X3_refuseBadAs, Option.bind_some, n10, ↓reduceIte, gd_t, if_neg h1]; rfl), (by simp only [f_X4_best, in_0_96, in_1_4, in_0_5, in_1_3, in_0_127, in_0_2, in_0_999, in_1_6, in_m1_96, in_0_7, in_0_1, in_0_10, in_0_990, in_0_999999, in_0_60, in_0_100, w_isWhat, w_bad, w_no, w_full, Option.bind_some, n10, ↓reduceIte, gd_t, i27_0, i27_1, i27_5, i27_6, i27_7, i27_8, cl_0, cl_1, cl_5, cl_6, cl_7, cl_8, if_neg h1]; rfl), ?_, ?_⟩
    · rfl
    · exact ⟨hS.mono (by omega), hI0.mono (by omega), hI1.mono (by omega), hT, bad3 hb hn hf, ha, he⟩
