theorem or_new : ∀ j, j < 6 → ∀ w, w < 64 → w < 2 ^ j → nI w ||| jshl 1 (nI j) = nI (w + 2 ^ j) ∧ w + 2 ^ j < 2 ^ (j + 1) ∧ w < 2 ^ (j + 1) := by decide +kernel
theorem pow_mono : ∀ h, h < 7 → ∀ j, j < 7 → j ≤ h → 2 ^ j ≤ 2 ^ h ∧ 2 ^ h ≤ 64 := by decide +kernel
theorem who_both {o6 : SafeT} {st pts used : Nat → Int32} {c1 c2 : Int32} {h p3 X : Nat} (X0 : Int64) (hh : h ≤ 6) (b3 : o6.2.2.1 = nI h) (s8 : st 8 = nI h) (hp : p3 ≤ 100) (hX : X < 2 ^ 31) :
    ∃ (Z w : Nat), Z < 2 ^ 31 ∧ w < 2 ^ h ∧ lp (b_X3_days_68 (nI p3) o6) 200 (lN X, 0, 0) = some (lN Z, nI w) ∧ lp (b_X4_days_91 (nI p3) (c1, c2, X0, st, pts, used)) 200 (0, 0, lN X) = some (nI w, lN Z) := by
  obtain ⟨r, r', q1, q2, Z, w, hZ, hw, q3, q4, q5, q6⟩ := lp_rel (b1 := b_X3_days_68 (nI p3) o6) (b2 := b_X4_days_91 (nI p3) (c1, c2, X0, st, pts, used)) (fun x y => ∃ Y w j : Nat, Y < 2 ^ 31 ∧ j ≤ h ∧ w < 2 ^ j ∧ x.1 = lN Y ∧ y.2.2 = lN Y ∧ x.2.1 = nI w ∧ y.1 = nI w ∧ x.2.2 = nI j ∧ y.2.1 = nI j) (fun r r' => ∃ Z w : Nat, Z < 2 ^ 31 ∧ w < 2 ^ h ∧ r.1 = lN Z ∧ r.2 = nI w ∧ r'.1 = nI w ∧ r'.2 = lN Z) (fun x => 7 - x.2.2.toNatClampNeg) (by
    rintro ⟨x1, x2, x3⟩ ⟨y1, y2, y3⟩ ⟨Y, w, j, hY, hj, hw, e1, e2, e3, e4, e5, e6⟩
    dsimp only at e1 e2 e3 e4 e5 e6
    subst e1 e2 e3 e4 e5 e6
    by_cases z : j = h
    · right
      subst z
      have k1 : nI j ≤ nI j := nI_le (Nat.le_refl j) (by omega)
      exact ⟨(lN Y, nI w), (nI w, lN Y), by simp only [b_X3_days_68, b3, if_pos k1], by simp only [b_X4_days_91, i27_8, cl_8, s8, gd_t, if_pos k1], Y, w, hY, hw, rfl, rfl, rfl, rfl⟩
    · left
      have k1 : ¬ nI h ≤ nI j := nI_ge (by omega) (by omega)
      obtain ⟨Z, hZ, eZ⟩ := next_n hY
      obtain ⟨b, hb, eb⟩ := draw_n hZ (d := 100) (by decide) (by decide)
      have n97 : decide (¬ (100 : Int32).toInt64 = 0) = true := by decide
      have eb : (jlrem (lN Z / 65536) (100 : Int32).toInt64).toInt32 = nI b := eb
      have k7 : (1 : Int32) ≤ 100 := by decide
      obtain ⟨m1, m2⟩ := pow_mono h (by omega) j (by omega) hj
      obtain ⟨o1, o2, o3⟩ := or_new j (by omega) w (by omega) hw
      have hμ : 7 - (nI (j + 1)).toNatClampNeg < 7 - (nI j).toNatClampNeg := by
        rw [nI_clamp (by omega), nI_clamp (by omega)]
        omega
      by_cases c : nI p3 ≤ nI b
      · refine ⟨(lN Z, nI w, nI (j + 1)), (nI w, nI (j + 1), lN Z), ?_, ?_, ⟨Z, w, j + 1, hZ, by omega, o3, rfl, rfl, rfl, rfl, rfl, rfl⟩, hμ⟩
        · simp only [b_X3_days_68, b3, if_neg k1, f_X3_nextX, eZ, Option.bind_some, f_X3_drawn, if_pos k7, n97, gd_t, eb, if_pos c, nI_1]
        · simp only [b_X4_days_91, i27_8, cl_8, s8, gd_t, if_neg k1, f_X4_draw, n97, eZ, eb, Option.bind_some, if_pos c, nI_1, Int32.or_zero]
      · refine ⟨(lN Z, nI (w + 2 ^ j), nI (j + 1)), (nI (w + 2 ^ j), nI (j + 1), lN Z), ?_, ?_, ⟨Z, w + 2 ^ j, j + 1, hZ, by omega, o2, rfl, rfl, rfl, rfl, rfl, rfl⟩, hμ⟩
        · simp only [b_X3_days_68, b3, if_neg k1, f_X3_nextX, eZ, Option.bind_some, f_X3_drawn, if_pos k7, n97, gd_t, eb, if_neg c, nI_1, o1]
        · simp only [b_X4_days_91, i27_8, cl_8, s8, gd_t, if_neg k1, f_X4_draw, n97, eZ, eb, Option.bind_some, if_neg c, nI_1, o1]) 200 200 (lN X, 0, 0) (0, 0, lN X) ⟨X, 0, 0, hX, by omega, by decide, rfl, rfl, rfl, rfl, rfl, rfl⟩ (by show 7 - (0 : Int32).toNatClampNeg < 200; omega) (by show 7 - (0 : Int32).toNatClampNeg < 200; omega)
  exact ⟨Z, w, hZ, hw, by rw [q1, ← q3, ← q4], by rw [q2, ← q5, ← q6]⟩
theorem days_both {o6 : SafeT} {st pts used row : Nat → Int32} {n e h c1 c2 c3 d t s p2 p3 X : Nat} (b1 : o6.1 = nI n) (b2 : o6.2.1 = nI e) (b3 : o6.2.2.1 = nI h) (S : SD n e h c1 c2 c3 o6.2.2.2.2.2.2.2.1 o6.2.2.2.2.2.2.2.2.1 o6.2.2.2.2.2.2.2.2.2.1 st) (hd : d ≤ 256) (ht : t ≤ 2) (hs : s ≤ 1) (s5 : st 5 = nI d) (s6 : st 6 = nI t) (s7 : st 7 = nI s) (hp2 : p2 ≤ 60) (hp3 : p3 ≤ 100) (hX : X < 2 ^ 31) :
    ∃ (r : Int32) (a1 a2 a3 : Int32) (row' : Nat → Int32) (dr : Int64) (st' pts' used' : Nat → Int32), lp (b_X3_days_56 (nI p2) (nI p3) o6) 200 (lN X, 0, 0, nI d, nI t, nI s, row) = some (r, a1, a2, a3, row') ∧ lp (b_X4_days_79 (nI p2) (nI p3)) 200 (0, 0, lN X, st, pts, used) = some (r, dr, st', pts', used') ∧ (∀ j, (j < 5 ∨ 8 ≤ j) → st' j = st j) := by
  have hh : h ≤ 6 := S.1.2.2.2.1
  obtain ⟨r, r', q1, q2, q3, q4⟩ := lp_rel (b1 := b_X3_days_56 (nI p2) (nI p3) o6) (b2 := b_X4_days_79 (nI p2) (nI p3)) (fun x y => ∃ Y i d t s : Nat, Y < 2 ^ 31 ∧ i ≤ p2 ∧ d ≤ 256 + i ∧ t ≤ 2 ∧ s ≤ 1 ∧ x.1 = lN Y ∧ y.2.2.1 = lN Y ∧ x.2.1 = y.1 ∧ x.2.2.1 = nI i ∧ y.2.1 = nI i ∧ x.2.2.2.1 = nI d ∧ x.2.2.2.2.1 = nI t ∧ x.2.2.2.2.2.1 = nI s ∧ y.2.2.2.1 5 = nI d ∧ y.2.2.2.1 6 = nI t ∧ y.2.2.2.1 7 = nI s ∧ (∀ j, (j < 5 ∨ 8 ≤ j) → y.2.2.2.1 j = st j)) (fun r r' => r.1 = r'.1 ∧ (∀ j, (j < 5 ∨ 8 ≤ j) → r'.2.2.1 j = st j)) (fun x => 61 - x.2.2.1.toNatClampNeg) (by
    rintro ⟨x1, x2, x3, x4, x5, x6, x7⟩ ⟨y1, y2, y3, y4, y5, y6⟩ ⟨Y, i, d, t, s, hY, hi, hd, ht, hs, e1, e2, e3, e4, e5, e6, e7, e8, e9, e10, e11, hO⟩
    dsimp only at e1 e2 e3 e4 e5 e6 e7 e8 e9 e10 e11 hO
    subst e1 e2 e3 e4 e5 e6 e7 e8
    by_cases z : i = p2
    · right
      subst z
      have k1 : nI i ≤ nI i := nI_le (Nat.le_refl i) (by omega)
      exact ⟨(x2, nI d, nI t, nI s, x7), (x2, lN Y, y4, y5, y6), by simp only [b_X3_days_56, if_pos k1], by simp only [b_X4_days_79, if_pos k1], rfl, hO⟩
    · left
      have k1 : ¬ nI p2 ≤ nI i := nI_ge (by omega) (by omega)
      have S' := S.to hO
      have s8' : y4 8 = nI h := S'.2.2.1.2.2.2.2.2
      obtain ⟨Z, w, hZ, hw, A, B⟩ := who_both (o6 := o6) (st := y4) (pts := y5) (used := y6) (c1 := x2) (c2 := nI i) (lN Y) hh b3 s8' hp3 hY
      obtain ⟨r, t', s', row', st', pts', used', ht', hs', C, D, z5, z6, z7, zs, _⟩ := day_both S' (row := x7) (pts := y5) (used := y6) (show d < 2000 by omega) ht hs e9 e10 e11 hw
      have hμ : 61 - (nI (i + 1)).toNatClampNeg < 61 - (nI i).toNatClampNeg := by
        rw [nI_clamp (by omega), nI_clamp (by omega)]
        omega
      by_cases c : r = 1
      · refine ⟨(lN Z, x2 + 1, nI (i + 1), nI (d + 1), nI t', nI s', row'), (x2 + 1, nI (i + 1), lN Z, st', pts', used'), ?_, ?_, ⟨Z, i + 1, d + 1, t', s', hZ, by omega, by omega, ht', hs', rfl, rfl, rfl, rfl, rfl, rfl, rfl, rfl, z5, z6, z7, fun j hj => (zs j hj).trans (hO j hj)⟩, hμ⟩
        · simp only [b_X3_days_56, if_neg k1, A, Option.bind_some, b1, b2, C, if_pos c, nI_1]
        · simp only [b_X4_days_79, if_neg k1, B, Option.bind_some, D, if_pos c, nI_1]
      · refine ⟨(lN Z, x2, nI (i + 1), nI (d + 1), nI t', nI s', row'), (x2, nI (i + 1), lN Z, st', pts', used'), ?_, ?_, ⟨Z, i + 1, d + 1, t', s', hZ, by omega, by omega, ht', hs', rfl, rfl, rfl, rfl, rfl, rfl, rfl, rfl, z5, z6, z7, fun j hj => (zs j hj).trans (hO j hj)⟩, hμ⟩
        · simp only [b_X3_days_56, if_neg k1, A, Option.bind_some, b1, b2, C, if_neg c, nI_1]
        · simp only [b_X4_days_79, if_neg k1, B, Option.bind_some, D, if_neg c, nI_1, Int32.add_zero]) 200 200 (lN X, 0, 0, nI d, nI t, nI s, row) (0, 0, lN X, st, pts, used) ⟨X, 0, d, t, s, hX, by omega, by omega, ht, hs, rfl, rfl, rfl, rfl, rfl, rfl, rfl, rfl, s5, s6, s7, fun _ _ => rfl⟩ (by show 61 - (0 : Int32).toNatClampNeg < 200; omega) (by show 61 - (0 : Int32).toNatClampNeg < 200; omega)
  exact ⟨r.1, r.2.1, r.2.2.1, r.2.2.2.1, r.2.2.2.2, r'.2.1, r'.2.2.1, r'.2.2.2.1, r'.2.2.2.2, q1, by rw [q2, q3], q4⟩
theorem L2_days (k : Nat) (hk : k ≤ 256) (x : CX) (y : MX) (hR : RR k x y) (p1 : Int32) (p2 : Int32) (p3 : Int32) : ∃ (o : Int32 × Int32 × Int32 × Int32 × Int32 × Int32 × Int32 × Int32 × Int32 × (Nat → Int32) × (Nat → Int32) × (Nat → Int32) × (Nat → Int32) × (Nat → Int32) × (Nat → Int32)) (u : Int32 × Int64 × (Nat → Int32) × (Nat → Int32) × (Nat → Int32) × (Nat → Int32)), f_X3_days x.2.2.2.2.2.2.2.2.1 x.1.1 x.1.2.1 x.1.2.2.1 x.1.2.2.2.1 x.1.2.2.2.2.1 x.1.2.2.2.2.2.1 x.1.2.2.2.2.2.2.1 x.1.2.2.2.2.2.2.2.1 x.1.2.2.2.2.2.2.2.2.1 x.1.2.2.2.2.2.2.2.2.2.1 x.1.2.2.2.2.2.2.2.2.2.2.1 x.1.2.2.2.2.2.2.2.2.2.2.2 x.2.2.2.1.1 x.2.2.2.1.2.1 x.2.2.2.1.2.2.1 x.2.2.2.1.2.2.2.1 x.2.2.2.1.2.2.2.2.1 x.2.2.2.1.2.2.2.2.2.1 x.2.2.2.1.2.2.2.2.2.2.1 x.2.2.2.1.2.2.2.2.2.2.2.1 x.2.2.2.1.2.2.2.2.2.2.2.2.1 x.2.2.2.1.2.2.2.2.2.2.2.2.2.1 x.2.2.2.1.2.2.2.2.2.2.2.2.2.2.1 x.2.2.2.1.2.2.2.2.2.2.2.2.2.2.2 x.2.2.2.2.1 p1 p2 p3 = some o ∧ f_X4_days y.2.2.2.2.2.2.2.2.2.2.2.2.2.2.2.2.1 y.1 y.2.2.2.1 y.2.2.2.2.2.2.2.2.2.2.2.2.1 y.2.2.2.2.2.2.2.2.2.2.2.2.2.1 p1 p2 p3 = some u ∧ o.1 = u.1 ∧ RR (k + 4) (x.1, x.2.1, x.2.2.1, (o.2.2.1, o.2.2.2.1, o.2.2.2.2.1, o.2.2.2.2.2.1, o.2.2.2.2.2.2.1, o.2.2.2.2.2.2.2.1, o.2.2.2.2.2.2.2.2.1, o.2.2.2.2.2.2.2.2.2.1, o.2.2.2.2.2.2.2.2.2.2.1, o.2.2.2.2.2.2.2.2.2.2.2.1, o.2.2.2.2.2.2.2.2.2.2.2.2.1, o.2.2.2.2.2.2.2.2.2.2.2.2.2.1), o.2.2.2.2.2.2.2.2.2.2.2.2.2.2, x.2.2.2.2.2.1, (x.2.2.2.2.2.2.1, x.2.2.2.2.2.2.2.1, o.2.1, x.2.2.2.2.2.2.2.2.2.1, x.2.2.2.2.2.2.2.2.2.2.1, x.2.2.2.2.2.2.2.2.2.2.2.1, x.2.2.2.2.2.2.2.2.2.2.2.2)) (u.2.2.1, y.2.1, y.2.2.1, u.2.2.2.1, y.2.2.2.2.1, y.2.2.2.2.2.1, y.2.2.2.2.2.2.1, y.2.2.2.2.2.2.2.1, y.2.2.2.2.2.2.2.2.1, y.2.2.2.2.2.2.2.2.2.1, y.2.2.2.2.2.2.2.2.2.2.1, y.2.2.2.2.2.2.2.2.2.2.2.1, u.2.2.2.2.1, u.2.2.2.2.2, y.2.2.2.2.2.2.2.2.2.2.2.2.2.2.1, y.2.2.2.2.2.2.2.2.2.2.2.2.2.2.2.1, u.2.1, y.2.2.2.2.2.2.2.2.2.2.2.2.2.2.2.2.2.1, y.2.2.2.2.2.2.2.2.2.2.2.2.2.2.2.2.2.2.1, y.2.2.2.2.2.2.2.2.2.2.2.2.2.2.2.2.2.2.2.1, y.2.2.2.2.2.2.2.2.2.2.2.2.2.2.2.2.2.2.2.2) := by
  obtain ⟨nw, i0, i1, dr, row, tx, kp0, kp1, bc, nc, fc, ab, be⟩ := x
  obtain ⟨st, yab, ybe, rf, txt, byt, pl, tok, vlu, beg, yrow, th, pts, usd, ahd, um, drw, ik, kpt, kah, kmn⟩ := y
  obtain ⟨hS, hI0, hI1, hT, ⟨hb, hn, hf⟩, ha, he⟩ := hR
  dsimp only at hS hI0 hI1 hT hb hn hf ha he ⊢
  by_cases h1 : ¬ p1 < 0 ∧ ¬ (999999 : Int32) < p1
  · by_cases h2 : ¬ p2 < 0 ∧ ¬ (60 : Int32) < p2
    · by_cases h3 : ¬ p3 < 0 ∧ ¬ (100 : Int32) < p3
      · obtain ⟨o6, A, E⟩ := v_copyFrom (w := dr) hS
        obtain ⟨n, e, h, d, t, s, u, c1, c2, c3, a, ⟨b1, b2, b3, b4, b5, b6, b7⟩, ⟨d5, d6, d7, dum⟩, S, ht, hp⟩ := (E st ahd um (fun _ _ => rfl) (fun _ _ => rfl) rfl).op
        obtain ⟨X, hX, rfl⟩ := wi_n (N := 999999) rfl (by decide) h1
        obtain ⟨m2, hm2, rfl⟩ := wi_n (N := 60) rfl (by decide) h2
        obtain ⟨m3, hm3, rfl⟩ := wi_n (N := 100) rfl (by decide) h3
        obtain ⟨r, x1, x2, x3, row', dr', st', pts', usd', B, C, D⟩ := days_both (row := row) (pts := pts) (used := usd) (X := X) b1 b2 b3 S (show d ≤ 256 from Nat.le_trans a.2.2.2.2.1 hk) a.2.2.2.2.2.1 a.2.2.2.2.2.2.1 d5 d6 d7 hm2 hm3 (by omega)
        have eX : (nI X).toInt64 = lN X := nI_l (by omega)
        rw [← eX, ← b4, ← b5, ← b6] at B
        rw [← eX] at C
        refine ⟨_, _, (by simp only [f_X3_days, v_isWithin, v_isDay, v_isImage, v_bad, v_no, v_full, f_X3_refuseBadAs, Option.bind_some, n10, ↓reduceIte, gd_t, if_pos h1, if_pos h2, if_pos h3, A, B]; rfl), (by simp only [f_X4_days, in_0_96, in_1_4, in_0_5, in_1_3, in_0_127, in_0_2, in_0_999, in_1_6, in_m1_96, in_0_7, in_0_1, in_0_10, in_0_990, in_0_999999, in_0_60, in_0_100, w_isWhat, w_bad, w_no, w_full, Option.bind_some, n10, ↓reduceIte, gd_t, i27_0, i27_1, i27_5, i27_6, i27_7, i27_8, cl_0, cl_1, cl_5, cl_6, cl_7, cl_8, if_pos h1, if_pos h2, if_pos h3, C]; rfl), ?_, ?_⟩
        · rfl
        · have JS : SR (k + 4) nw (upd (upd (upd st' 5 (st 5)) 6 (st 6)) 7 (st 7)) ahd um := by
            refine (hS.mono (by omega)).congr (fun j hj => ?_) (fun _ _ => rfl) rfl ⟨rfl, rfl, rfl, rfl, rfl, rfl, rfl⟩ (fun _ _ => rfl) (fun _ _ => rfl) (fun _ _ => rfl) (fun _ _ => rfl) (fun _ _ => rfl)
            by_cases z7 : j = 7
            · subst z7
              rw [pk_us]
            · rw [pk_un z7]
              by_cases z6 : j = 6
              · subst z6
                rw [pk_us]
              · rw [pk_un z6]
                by_cases z5 : j = 5
                · subst z5
                  rw [pk_us]
                · rw [pk_un z5]
                  exact D j (by omega)
          exact ⟨JS, hI0.mono (by omega), hI1.mono (by omega), hT, ⟨hb, hn, hf⟩, ha, he⟩
      · refine ⟨_, _, (by simp only [f_X3_days, v_isWithin, v_isDay, v_isImage, v_bad, v_no, v_full, f_X3_refuseBadAs, Option.bind_some, n10, ↓reduceIte, gd_t, if_pos h1, if_pos h2, if_neg h3]; rfl), (by simp only [f_X4_days, in_0_96, in_1_4, in_0_5, in_1_3, in_0_127, in_0_2, in_0_999, in_1_6, in_m1_96, in_0_7, in_0_1, in_0_10, in_0_990, in_0_999999, in_0_60, in_0_100, w_isWhat, w_bad, w_no, w_full, Option.bind_some, n10, ↓reduceIte, gd_t, i27_0, i27_1, i27_5, i27_6, i27_7, i27_8, cl_0, cl_1, cl_5, cl_6, cl_7, cl_8, if_pos h1, if_pos h2, if_neg h3]; rfl), ?_, ?_⟩
        · rfl
        · exact ⟨hS.mono (by omega), hI0.mono (by omega), hI1.mono (by omega), hT, bad3 hb hn hf, ha, he⟩
    · refine ⟨_, _, (by simp only [f_X3_days, v_isWithin, v_isDay, v_isImage, v_bad, v_no, v_full, f_X3_refuseBadAs, Option.bind_some, n10, ↓reduceIte, gd_t, if_pos h1, if_neg h2]; rfl), (by simp only [f_X4_days, in_0_96, in_1_4, in_0_5, in_1_3, in_0_127, in_0_2, in_0_999, in_1_6, in_m1_96, in_0_7, in_0_1, in_0_10, in_0_990, in_0_999999, in_0_60, in_0_100, w_isWhat, w_bad, w_no, w_full, Option.bind_some, n10, ↓reduceIte, gd_t, i27_0, i27_1, i27_5, i27_6, i27_7, i27_8, cl_0, cl_1, cl_5, cl_6, cl_7, cl_8, if_pos h1, if_neg h2]; rfl), ?_, ?_⟩
      · rfl
      · exact ⟨hS.mono (by omega), hI0.mono (by omega), hI1.mono (by omega), hT, bad3 hb hn hf, ha, he⟩
  · refine ⟨_, _, (by simp only [f_X3_days, v_isWithin, v_isDay, v_isImage, v_bad, v_no, v_full, f_X3_refuseBadAs, Option.bind_some, n10, ↓reduceIte, gd_t, if_neg h1]; rfl), (by simp only [f_X4_days, in_0_96, in_1_4, in_0_5, in_1_3, in_0_127, in_0_2, in_0_999, in_1_6, in_m1_96, in_0_7, in_0_1, in_0_10, in_0_990, in_0_999999, in_0_60, in_0_100, w_isWhat, w_bad, w_no, w_full, Option.bind_some, n10, ↓reduceIte, gd_t, i27_0, i27_1, i27_5, i27_6, i27_7, i27_8, cl_0, cl_1, cl_5, cl_6, cl_7, cl_8, if_neg h1]; rfl), ?_, ?_⟩
    · rfl
    · exact ⟨hS.mono (by omega), hI0.mono (by omega), hI1.mono (by omega), hT, bad3 hb hn hf, ha, he⟩
