def PA (e h m : Nat) : Int32 := if nI (pop m) < nI e then 0 else if nI h - nI (pop m) < nI e then 0 else 1
theorem v_isSafeParting {e h m : Nat} (hm : m < 64) : f_X3_isSafeParting (nI e) (nI h) (nI m) = some (PA e h m) := by
  simp only [f_X3_isSafeParting, v_bitCount m hm, Option.bind_some, PA]
  split
  · rfl
  · split <;> rfl
theorem w_isParting {st : Nat → Int32} {e h m : Nat} (hm : m < 64) (s1 : st 1 = nI e) (s8 : st 8 = nI h) : f_X4_isParting st (nI m) = some (PA e h m) := by
  simp only [f_X4_isParting, w_ones m hm, Option.bind_some, PA, i27_1, i27_8, cl_1, cl_8, gd_t, s1, s8]
  split
  · rfl
  · split <;> rfl
theorem PA_01 (e h m : Nat) : PA e h m = 0 ∨ PA e h m = 1 := by
  unfold PA
  split
  · exact Or.inl rfl
  · split
    · exact Or.inl rfl
    · exact Or.inr rfl
theorem cars_both {st : Nat → Int32} {e h : Nat} (hh : h ≤ 6) (s1 : st 1 = nI e) (s8 : st 8 = nI h) : ∃ r, lp (b_X3_cars_48 (nI e) (nI h)) 200 (0, 0) = some r ∧ lp (b_X4_cars_43 st) 200 (0, 0) = some r := by
  have h64 : 2 ^ h ≤ 64 := (all_n h (by omega)).2
  have hpos : 0 < 2 ^ h := Nat.two_pow_pos h
  obtain ⟨r, r', q1, q2, q3⟩ := lp_rel (b1 := b_X3_cars_48 (nI e) (nI h)) (b2 := b_X4_cars_43 st) (fun x y => x = y ∧ ∃ m : Nat, m ≤ 2 ^ h ∧ x.2 = nI m) (fun x y => x = y) (fun x => 65 - x.2.toNatClampNeg) (by
    rintro ⟨x, p⟩ ⟨x', p'⟩ ⟨q, m, hm, rfl⟩
    obtain ⟨rfl, rfl⟩ := Prod.mk.inj q
    by_cases z : m = 2 ^ h
    · right
      have k1 : nI (2 ^ h - 1) < nI m := nI_lt (by omega) (by omega)
      exact ⟨x, x, by simp only [b_X3_cars_48, v_everyone h (by omega), Option.bind_some, if_pos k1], by simp only [b_X4_cars_43, w_everybody hh s8, Option.bind_some, if_pos k1], rfl⟩
    · left
      have k1 : ¬ nI (2 ^ h - 1) < nI m := nI_nlt (by omega) (by omega)
      have hm64 : m < 64 := by omega
      have hμ : 65 - (nI (m + 1)).toNatClampNeg < 65 - (nI m).toNatClampNeg := by
        rw [nI_clamp (by omega), nI_clamp (by omega)]
        omega
      rcases PA_01 e h m with z1 | z1
      · exact ⟨(x, nI (m + 1)), (x, nI (m + 1)), by simp only [b_X3_cars_48, v_everyone h (by omega), Option.bind_some, if_neg k1, v_isSafeParting hm64, z1, ↓reduceIte, nI_1], by simp only [b_X4_cars_43, w_everybody hh s8, Option.bind_some, if_neg k1, w_isParting hm64 s1 s8, z1, ↓reduceIte, nI_1, Int32.add_zero], ⟨rfl, m + 1, by omega, rfl⟩, hμ⟩
      · exact ⟨(x + 1, nI (m + 1)), (x + 1, nI (m + 1)), by simp only [b_X3_cars_48, v_everyone h (by omega), Option.bind_some, if_neg k1, v_isSafeParting hm64, z1, n10, ↓reduceIte, nI_1], by simp only [b_X4_cars_43, w_everybody hh s8, Option.bind_some, if_neg k1, w_isParting hm64 s1 s8, z1, n10, ↓reduceIte, nI_1], ⟨rfl, m + 1, by omega, rfl⟩, hμ⟩) 200 200 (0, 0) (0, 0) ⟨rfl, 0, by omega, rfl⟩ (by show 65 - (0 : Int32).toNatClampNeg < 200; omega) (by show 65 - (0 : Int32).toNatClampNeg < 200; omega)
  exact ⟨r, q1, q3 ▸ q2⟩
theorem L2_cars (k : Nat) (hk : k ≤ 256) (x : CX) (y : MX) (hR : RR k x y) (p1 : Int32) (p2 : Int32) : ∃ (o : Int32 × Int32) (u : Int32 × (Nat → Int32)), f_X3_cars x.2.2.2.2.2.2.2.2.1 x.1.2.1 x.1.2.2.1 p1 p2 = some o ∧ f_X4_cars y.1 y.2.2.2.1 p1 p2 = some u ∧ o.1 = u.1 ∧ RR (k + 4) (x.1, x.2.1, x.2.2.1, x.2.2.2.1, x.2.2.2.2.1, x.2.2.2.2.2.1, (x.2.2.2.2.2.2.1, x.2.2.2.2.2.2.2.1, o.2, x.2.2.2.2.2.2.2.2.2.1, x.2.2.2.2.2.2.2.2.2.2.1, x.2.2.2.2.2.2.2.2.2.2.2.1, x.2.2.2.2.2.2.2.2.2.2.2.2)) (y.1, y.2.1, y.2.2.1, u.2, y.2.2.2.2.1, y.2.2.2.2.2.1, y.2.2.2.2.2.2.1, y.2.2.2.2.2.2.2.1, y.2.2.2.2.2.2.2.2.1, y.2.2.2.2.2.2.2.2.2.1, y.2.2.2.2.2.2.2.2.2.2.1, y.2.2.2.2.2.2.2.2.2.2.2.1, y.2.2.2.2.2.2.2.2.2.2.2.2.1, y.2.2.2.2.2.2.2.2.2.2.2.2.2.1, y.2.2.2.2.2.2.2.2.2.2.2.2.2.2.1, y.2.2.2.2.2.2.2.2.2.2.2.2.2.2.2.1, y.2.2.2.2.2.2.2.2.2.2.2.2.2.2.2.2.1, y.2.2.2.2.2.2.2.2.2.2.2.2.2.2.2.2.2.1, y.2.2.2.2.2.2.2.2.2.2.2.2.2.2.2.2.2.2.1, y.2.2.2.2.2.2.2.2.2.2.2.2.2.2.2.2.2.2.2.1, y.2.2.2.2.2.2.2.2.2.2.2.2.2.2.2.2.2.2.2.2) := by
  obtain ⟨nw, i0, i1, dr, row, tx, kp0, kp1, bc, nc, fc, ab, be⟩ := x
  obtain ⟨st, yab, ybe, rf, txt, byt, pl, tok, vlu, beg, yrow, th, pts, usd, ahd, um, drw, ik, kpt, kah, kmn⟩ := y
  obtain ⟨hS, hI0, hI1, hT, ⟨hb, hn, hf⟩, ha, he⟩ := hR
  dsimp only at hS hI0 hI1 hT hb hn hf ha he ⊢
  obtain ⟨n, e, h, d, t, s, u, c1, c2, c3, a, ⟨b1, b2, b3, b4, b5, b6, b7⟩, ⟨d5, d6, d7, dum⟩, S, ht, hp⟩ := hS.op
  obtain ⟨⟨g1, g2, g3, g4, g5, g6, g7⟩, ⟨f1, f2, f3⟩, ⟨s0, s1, s2, s3, s4, s8⟩, H⟩ := id S
  by_cases h1 : ¬ p1 < 0 ∧ ¬ nI (2 ^ h - 1) < p1
  · by_cases h2 : ¬ p2 < 0 ∧ ¬ (1 : Int32) < p2
    · obtain ⟨m, hm, hm6, rfl⟩ := wi_who g4 h1
      by_cases h3 : p2 = 0
      · subst h3
        rcases PA_01 e h m with z1 | z1
        · refine ⟨_, _, (by rw [b3, b2]; simp only [f_X3_cars, v_isWithin, v_isDay, v_isImage, v_bad, v_no, v_full, f_X3_refuseBadAs, Option.bind_some, n10, ↓reduceIte, gd_t, v_hasAll g4, if_pos h1, if_pos h2, v_isSafeParting hm6, z1]; rfl), (by simp only [f_X4_cars, in_0_96, in_1_4, in_0_5, in_1_3, in_0_127, in_0_2, in_0_999, in_1_6, in_m1_96, in_0_7, in_0_1, in_0_10, in_0_990, in_0_999999, in_0_60, in_0_100, w_isWhat, w_bad, w_no, w_full, Option.bind_some, n10, ↓reduceIte, gd_t, i27_0, i27_1, i27_5, i27_6, i27_7, i27_8, cl_0, cl_1, cl_5, cl_6, cl_7, cl_8, w_areHolders g4 s8, if_pos h1, if_pos h2, w_isParting hm6 s1 s8, z1]; rfl), ?_, ?_⟩
          · rfl
          · exact ⟨hS.mono (by omega), hI0.mono (by omega), hI1.mono (by omega), hT, ⟨hb, hn, hf⟩, ha, he⟩
        · refine ⟨_, _, (by rw [b3, b2]; simp only [f_X3_cars, v_isWithin, v_isDay, v_isImage, v_bad, v_no, v_full, f_X3_refuseBadAs, Option.bind_some, n10, ↓reduceIte, gd_t, v_hasAll g4, if_pos h1, if_pos h2, v_isSafeParting hm6, z1]; rfl), (by simp only [f_X4_cars, in_0_96, in_1_4, in_0_5, in_1_3, in_0_127, in_0_2, in_0_999, in_1_6, in_m1_96, in_0_7, in_0_1, in_0_10, in_0_990, in_0_999999, in_0_60, in_0_100, w_isWhat, w_bad, w_no, w_full, Option.bind_some, n10, ↓reduceIte, gd_t, i27_0, i27_1, i27_5, i27_6, i27_7, i27_8, cl_0, cl_1, cl_5, cl_6, cl_7, cl_8, w_areHolders g4 s8, if_pos h1, if_pos h2, w_isParting hm6 s1 s8, z1]; rfl), ?_, ?_⟩
          · rfl
          · exact ⟨hS.mono (by omega), hI0.mono (by omega), hI1.mono (by omega), hT, ⟨hb, hn, hf⟩, ha, he⟩
      · obtain ⟨r, q1, q2⟩ := cars_both (st := st) g4 s1 s8
        refine ⟨_, _, (by rw [b3, b2]; simp only [f_X3_cars, v_isWithin, v_isDay, v_isImage, v_bad, v_no, v_full, f_X3_refuseBadAs, Option.bind_some, n10, ↓reduceIte, gd_t, v_hasAll g4, if_pos h1, if_pos h2, if_neg h3, q1]; rfl), (by simp only [f_X4_cars, in_0_96, in_1_4, in_0_5, in_1_3, in_0_127, in_0_2, in_0_999, in_1_6, in_m1_96, in_0_7, in_0_1, in_0_10, in_0_990, in_0_999999, in_0_60, in_0_100, w_isWhat, w_bad, w_no, w_full, Option.bind_some, n10, ↓reduceIte, gd_t, i27_0, i27_1, i27_5, i27_6, i27_7, i27_8, cl_0, cl_1, cl_5, cl_6, cl_7, cl_8, w_areHolders g4 s8, if_pos h1, if_pos h2, if_neg h3, q2]; rfl), ?_, ?_⟩
        · rfl
        · exact ⟨hS.mono (by omega), hI0.mono (by omega), hI1.mono (by omega), hT, ⟨hb, hn, hf⟩, ha, he⟩
    · refine ⟨_, _, (by rw [b3]; simp only [f_X3_cars, v_isWithin, v_isDay, v_isImage, v_bad, v_no, v_full, f_X3_refuseBadAs, Option.bind_some, n10, ↓reduceIte, gd_t, v_hasAll g4, if_pos h1, if_neg h2]; rfl), (by simp only [f_X4_cars, in_0_96, in_1_4, in_0_5, in_1_3, in_0_127, in_0_2, in_0_999, in_1_6, in_m1_96, in_0_7, in_0_1, in_0_10, in_0_990, in_0_999999, in_0_60, in_0_100, w_isWhat, w_bad, w_no, w_full, Option.bind_some, n10, ↓reduceIte, gd_t, i27_0, i27_1, i27_5, i27_6, i27_7, i27_8, cl_0, cl_1, cl_5, cl_6, cl_7, cl_8, w_areHolders g4 s8, if_pos h1, if_neg h2]; rfl), ?_, ?_⟩
      · rfl
      · exact ⟨hS.mono (by omega), hI0.mono (by omega), hI1.mono (by omega), hT, bad3 hb hn hf, ha, he⟩
  · refine ⟨_, _, (by rw [b3]; simp only [f_X3_cars, v_isWithin, v_isDay, v_isImage, v_bad, v_no, v_full, f_X3_refuseBadAs, Option.bind_some, n10, ↓reduceIte, gd_t, v_hasAll g4, if_neg h1]; rfl), (by simp only [f_X4_cars, in_0_96, in_1_4, in_0_5, in_1_3, in_0_127, in_0_2, in_0_999, in_1_6, in_m1_96, in_0_7, in_0_1, in_0_10, in_0_990, in_0_999999, in_0_60, in_0_100, w_isWhat, w_bad, w_no, w_full, Option.bind_some, n10, ↓reduceIte, gd_t, i27_0, i27_1, i27_5, i27_6, i27_7, i27_8, cl_0, cl_1, cl_5, cl_6, cl_7, cl_8, w_areHolders g4 s8, if_neg h1]; rfl), ?_, ?_⟩
    · rfl
    · exact ⟨hS.mono (by omega), hI0.mono (by omega), hI1.mono (by omega), hT, bad3 hb hn hf, ha, he⟩
theorem without_n : ∀ h, h < 7 → ∀ i, i < h → nI (2 ^ h - 1) &&& ((jshl 1 (nI i)) ^^^ -1) = nI (2 ^ h - 1 - 2 ^ i) ∧ 2 ^ h - 1 - 2 ^ i < 2 ^ h := by decide +kernel
def MB (w : Nat → Int32) : Nat → Int32
  | 0 => 0
  | i + 1 => if w i = 1 then MB w i else MB w i ||| jshl 1 (nI i)
theorem oc_012 (w : Nat → Int32) (e n : Nat) : oc w e n = 0 ∨ oc w e n = 1 ∨ oc w e n = 2 := by
  unfold oc
  split
  · exact Or.inl rfl
  · split
    · exact Or.inr (Or.inl rfl)
    · exact Or.inr (Or.inr rfl)
theorem v_must {n e h c1 c2 c3 : Nat} {kinds extras fac st : Nat → Int32} (S : SD n e h c1 c2 c3 kinds extras fac st) {d : Nat} (hd : d < 2000) (row : Nat → Int32) : ∃ r : Nat → Int32, lp (b_X3_must_44 (nI n) (nI e) (nI h) kinds extras fac (nI d) (nI (2 ^ h - 1))) 200 (0, 0, row) = some (MB (fun i => oc (WD n e c1 c2 c3 st d (2 ^ h - 1 - 2 ^ i)) e n) h, r) := by
  have g4 : h ≤ 6 := S.1.2.2.2.1
  obtain ⟨r, q1, q2⟩ := lp_ind (body := b_X3_must_44 (nI n) (nI e) (nI h) kinds extras fac (nI d) (nI (2 ^ h - 1))) (fun s => ∃ i, i ≤ 6 ∧ s.2.1 = nI i ∧ s.1 = MB (fun i => oc (WD n e c1 c2 c3 st d (2 ^ h - 1 - 2 ^ i)) e n) (min i h)) (fun r => r.1 = MB (fun i => oc (WD n e c1 c2 c3 st d (2 ^ h - 1 - 2 ^ i)) e n) h) (fun s => 6 - s.2.1.toNatClampNeg) (by
    rintro ⟨b, p, rw0⟩ ⟨i, hi, rfl, rfl⟩
    rcases Nat.lt_or_ge i 6 with h6 | h6
    · left
      have hμ : 6 - (nI (i + 1)).toNatClampNeg < 6 - (nI i).toNatClampNeg := by
        rw [nI_clamp (by omega), nI_clamp (by omega)]
        omega
      rcases Nat.lt_or_ge i h with hh | hh
      · have k1 : ¬ nI i < 0 ∧ ¬ nI h ≤ nI i := ⟨nI_pos (by omega), nI_ge hh (by omega)⟩
        obtain ⟨w1, w2⟩ := without_n h (by omega) i hh
        obtain ⟨r', hr'⟩ := v_outcome S (row := rw0) hd w2
        have e1 : min i h = i := by omega
        have e2 : min (i + 1) h = i + 1 := by omega
        by_cases z : oc (WD n e c1 c2 c3 st d (2 ^ h - 1 - 2 ^ i)) e n = 1
        · refine ⟨(MB (fun i => oc (WD n e c1 c2 c3 st d (2 ^ h - 1 - 2 ^ i)) e n) i, nI (i + 1), r'), ?_, ⟨i + 1, by omega, rfl, ?_⟩, hμ⟩
          · simp only [b_X3_must_44, if_neg (i6 h6), v_hasHolder, if_pos k1, Option.bind_some, n10, ↓reduceIte, w1, hr', if_pos z, nI_1, e1]
          · rw [e2]
            simp only [MB, if_pos z]
        · refine ⟨(MB (fun i => oc (WD n e c1 c2 c3 st d (2 ^ h - 1 - 2 ^ i)) e n) i ||| jshl 1 (nI i), nI (i + 1), r'), ?_, ⟨i + 1, by omega, rfl, ?_⟩, hμ⟩
          · simp only [b_X3_must_44, if_neg (i6 h6), v_hasHolder, if_pos k1, Option.bind_some, n10, ↓reduceIte, w1, hr', if_neg z, nI_1, e1]
          · rw [e2]
            simp only [MB, if_neg z]
      · have k1 : ¬ (¬ nI i < 0 ∧ ¬ nI h ≤ nI i) := fun q => q.2 (nI_le hh (by omega))
        refine ⟨(MB (fun i => oc (WD n e c1 c2 c3 st d (2 ^ h - 1 - 2 ^ i)) e n) (min i h), nI (i + 1), rw0), ?_, ⟨i + 1, by omega, rfl, ?_⟩, hμ⟩
        · simp only [b_X3_must_44, if_neg (i6 h6), v_hasHolder, if_neg k1, Option.bind_some, ↓reduceIte, nI_1]
        · rw [show min (i + 1) h = min i h by omega]
    · right
      have : i = 6 := by omega
      subst this
      exact ⟨(MB (fun i => oc (WD n e c1 c2 c3 st d (2 ^ h - 1 - 2 ^ i)) e n) (min 6 h), rw0), by simp only [b_X3_must_44, if_pos i6e], by rw [show min 6 h = h by omega]⟩) 200 (0, 0, row) ⟨0, by omega, rfl, by rw [show min 0 h = 0 by omega]; rfl⟩ (by show 6 - (0 : Int32).toNatClampNeg < 200; omega)
  exact ⟨r.2, by rw [q1, ← q2]⟩
theorem w_must {n e h c1 c2 c3 : Nat} {kinds extras fac st : Nat → Int32} (S : SD n e h c1 c2 c3 kinds extras fac st) {d : Nat} (hd : d < 2000) (pts used : Nat → Int32) : ∃ p u : Nat → Int32, lp (b_X4_must_36 st (nI d)) 200 (0, 0, pts, used) = some (MB (fun i => oc (WD n e c1 c2 c3 st d (2 ^ h - 1 - 2 ^ i)) e n) h, p, u) := by
  have g4 : h ≤ 6 := S.1.2.2.2.1
  have s8 : st 8 = nI h := S.2.2.1.2.2.2.2.2
  obtain ⟨r, q1, q2⟩ := lp_ind (body := b_X4_must_36 st (nI d)) (fun s => ∃ i, i ≤ h ∧ s.2.1 = nI i ∧ s.1 = MB (fun i => oc (WD n e c1 c2 c3 st d (2 ^ h - 1 - 2 ^ i)) e n) i) (fun r => r.1 = MB (fun i => oc (WD n e c1 c2 c3 st d (2 ^ h - 1 - 2 ^ i)) e n) h) (fun s => 6 - s.2.1.toNatClampNeg) (by
    rintro ⟨b, p, p0, u0⟩ ⟨i, hi, rfl, rfl⟩
    rcases Nat.lt_or_ge i h with hh | hh
    · left
      have hμ : 6 - (nI (i + 1)).toNatClampNeg < 6 - (nI i).toNatClampNeg := by
        rw [nI_clamp (by omega), nI_clamp (by omega)]
        omega
      have k1 : ¬ nI h ≤ nI i := nI_ge hh (by omega)
      obtain ⟨w1, w2⟩ := without_n h (by omega) i hh
      obtain ⟨r1, r2, hr'⟩ := w_triedBy S (pts := p0) (used := u0) hd w2
      by_cases z : oc (WD n e c1 c2 c3 st d (2 ^ h - 1 - 2 ^ i)) e n = 1
      · refine ⟨(MB (fun i => oc (WD n e c1 c2 c3 st d (2 ^ h - 1 - 2 ^ i)) e n) i, nI (i + 1), r1, r2), ?_, ⟨i + 1, by omega, rfl, ?_⟩, hμ⟩
        · simp only [b_X4_must_36, i27_8, cl_8, gd_t, s8, if_neg k1, w_everybody g4 s8, Option.bind_some, w1, hr', if_pos z, nI_1, Int32.or_zero]
        · simp only [MB, if_pos z]
      · refine ⟨(MB (fun i => oc (WD n e c1 c2 c3 st d (2 ^ h - 1 - 2 ^ i)) e n) i ||| jshl 1 (nI i), nI (i + 1), r1, r2), ?_, ⟨i + 1, by omega, rfl, ?_⟩, hμ⟩
        · simp only [b_X4_must_36, i27_8, cl_8, gd_t, s8, if_neg k1, w_everybody g4 s8, Option.bind_some, w1, hr', if_neg z, nI_1]
        · simp only [MB, if_neg z]
    · right
      have : i = h := by omega
      subst this
      have k1 : nI i ≤ nI i := nI_le (Nat.le_refl i) (by omega)
      exact ⟨(_, p0, u0), by simp only [b_X4_must_36, i27_8, cl_8, gd_t, s8, if_pos k1], rfl⟩) 200 (0, 0, pts, used) ⟨0, by omega, rfl, rfl⟩ (by show 6 - (0 : Int32).toNatClampNeg < 200; omega)
  exact ⟨r.2.1, r.2.2, by rw [q1, ← q2]⟩
theorem L2_must (k : Nat) (hk : k ≤ 256) (x : CX) (y : MX) (hR : RR k x y) (p1 : Int32) : ∃ (o : Int32 × Int32 × (Nat → Int32)) (u : Int32 × (Nat → Int32) × (Nat → Int32) × (Nat → Int32)), f_X3_must x.2.2.2.2.2.2.2.2.1 x.1.1 x.1.2.1 x.1.2.2.1 x.1.2.2.2.2.2.2.2.1 x.1.2.2.2.2.2.2.2.2.1 x.1.2.2.2.2.2.2.2.2.2.1 x.2.2.2.2.1 p1 = some o ∧ f_X4_must y.1 y.2.2.2.1 y.2.2.2.2.2.2.2.2.2.2.2.2.1 y.2.2.2.2.2.2.2.2.2.2.2.2.2.1 p1 = some u ∧ o.1 = u.1 ∧ RR (k + 4) (x.1, x.2.1, x.2.2.1, x.2.2.2.1, o.2.2, x.2.2.2.2.2.1, (x.2.2.2.2.2.2.1, x.2.2.2.2.2.2.2.1, o.2.1, x.2.2.2.2.2.2.2.2.2.1, x.2.2.2.2.2.2.2.2.2.2.1, x.2.2.2.2.2.2.2.2.2.2.2.1, x.2.2.2.2.2.2.2.2.2.2.2.2)) (y.1, y.2.1, y.2.2.1, u.2.1, y.2.2.2.2.1, y.2.2.2.2.2.1, y.2.2.2.2.2.2.1, y.2.2.2.2.2.2.2.1, y.2.2.2.2.2.2.2.2.1, y.2.2.2.2.2.2.2.2.2.1, y.2.2.2.2.2.2.2.2.2.2.1, y.2.2.2.2.2.2.2.2.2.2.2.1, u.2.2.1, u.2.2.2, y.2.2.2.2.2.2.2.2.2.2.2.2.2.2.1, y.2.2.2.2.2.2.2.2.2.2.2.2.2.2.2.1, y.2.2.2.2.2.2.2.2.2.2.2.2.2.2.2.2.1, y.2.2.2.2.2.2.2.2.2.2.2.2.2.2.2.2.2.1, y.2.2.2.2.2.2.2.2.2.2.2.2.2.2.2.2.2.2.1, y.2.2.2.2.2.2.2.2.2.2.2.2.2.2.2.2.2.2.2.1, y.2.2.2.2.2.2.2.2.2.2.2.2.2.2.2.2.2.2.2.2) := by
  obtain ⟨nw, i0, i1, dr, row, tx, kp0, kp1, bc, nc, fc, ab, be⟩ := x
  obtain ⟨st, yab, ybe, rf, txt, byt, pl, tok, vlu, beg, yrow, th, pts, usd, ahd, um, drw, ik, kpt, kah, kmn⟩ := y
  obtain ⟨hS, hI0, hI1, hT, ⟨hb, hn, hf⟩, ha, he⟩ := hR
  dsimp only at hS hI0 hI1 hT hb hn hf ha he ⊢
  obtain ⟨n, e, h, d, t, s, u, c1, c2, c3, a, ⟨b1, b2, b3, b4, b5, b6, b7⟩, ⟨d5, d6, d7, dum⟩, S, ht, hp⟩ := hS.op
  obtain ⟨⟨g1, g2, g3, g4, g5, g6, g7⟩, ⟨f1, f2, f3⟩, ⟨s0, s1, s2, s3, s4, s8⟩, H⟩ := id S
  by_cases h1 : ¬ p1 < 0 ∧ ¬ (999 : Int32) < p1
  · obtain ⟨m, hm, rfl⟩ := wi_n (N := 999) rfl (by decide) h1
    have hpos : 0 < 2 ^ h := Nat.two_pow_pos h
    obtain ⟨r, hr⟩ := v_outcome S (row := row) (who := 2 ^ h - 1) (show m < 2000 by omega) (by omega)
    obtain ⟨r1, r2, hr'⟩ := w_triedBy S (pts := pts) (used := usd) (who := 2 ^ h - 1) (show m < 2000 by omega) (by omega)
    by_cases z : oc (WD n e c1 c2 c3 st m (2 ^ h - 1)) e n = 1
    · obtain ⟨r3, q1⟩ := v_must S (show m < 2000 by omega) r
      obtain ⟨r4, r5, q2⟩ := w_must S (show m < 2000 by omega) r1 r2
      refine ⟨_, _, (by rw [b3, b2, b1]; simp only [f_X3_must, v_isWithin, v_isDay, v_isImage, v_bad, v_no, v_full, f_X3_refuseBadAs, Option.bind_some, n10, ↓reduceIte, gd_t, if_pos h1, v_everyone h (by omega), hr, if_pos z, q1]; rfl), (by simp only [f_X4_must, in_0_96, in_1_4, in_0_5, in_1_3, in_0_127, in_0_2, in_0_999, in_1_6, in_m1_96, in_0_7, in_0_1, in_0_10, in_0_990, in_0_999999, in_0_60, in_0_100, w_isWhat, w_bad, w_no, w_full, Option.bind_some, n10, ↓reduceIte, gd_t, i27_0, i27_1, i27_5, i27_6, i27_7, i27_8, cl_0, cl_1, cl_5, cl_6, cl_7, cl_8, if_pos h1, w_everybody g4 s8, hr', if_pos z, q2]; rfl), ?_, ?_⟩
      · rfl
      · exact ⟨hS.mono (by omega), hI0.mono (by omega), hI1.mono (by omega), hT, ⟨hb, hn, hf⟩, ha, he⟩
    · refine ⟨_, _, (by rw [b3, b2, b1]; simp only [f_X3_must, v_isWithin, v_isDay, v_isImage, v_bad, v_no, v_full, f_X3_refuseBadAs, Option.bind_some, n10, ↓reduceIte, gd_t, if_pos h1, v_everyone h (by omega), hr, if_neg z]; rfl), (by simp only [f_X4_must, in_0_96, in_1_4, in_0_5, in_1_3, in_0_127, in_0_2, in_0_999, in_1_6, in_m1_96, in_0_7, in_0_1, in_0_10, in_0_990, in_0_999999, in_0_60, in_0_100, w_isWhat, w_bad, w_no, w_full, Option.bind_some, n10, ↓reduceIte, gd_t, i27_0, i27_1, i27_5, i27_6, i27_7, i27_8, cl_0, cl_1, cl_5, cl_6, cl_7, cl_8, if_pos h1, w_everybody g4 s8, hr', if_neg z]; rfl), ?_, ?_⟩
      · rfl
      · exact ⟨hS.mono (by omega), hI0.mono (by omega), hI1.mono (by omega), hT, ⟨hb, hn, hf⟩, ha, he⟩
  · refine ⟨_, _, (by simp only [f_X3_must, v_isWithin, v_isDay, v_isImage, v_bad, v_no, v_full, f_X3_refuseBadAs, Option.bind_some, n10, ↓reduceIte, gd_t, if_neg h1]; rfl), (by simp only [f_X4_must, in_0_96, in_1_4, in_0_5, in_1_3, in_0_127, in_0_2, in_0_999, in_1_6, in_m1_96, in_0_7, in_0_1, in_0_10, in_0_990, in_0_999999, in_0_60, in_0_100, w_isWhat, w_bad, w_no, w_full, Option.bind_some, n10, ↓reduceIte, gd_t, i27_0, i27_1, i27_5, i27_6, i27_7, i27_8, cl_0, cl_1, cl_5, cl_6, cl_7, cl_8, if_neg h1]; rfl), ?_, ?_⟩
    · rfl
    · exact ⟨hS.mono (by omega), hI0.mono (by omega), hI1.mono (by omega), hT, bad3 hb hn hf, ha, he⟩
