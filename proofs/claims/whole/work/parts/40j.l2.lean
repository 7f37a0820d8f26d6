theorem sub_bits : ∀ s, s < 64 → ∀ T, T < 64 → ((∀ j, j < 6 → s.testBit j = true → T.testBit j = true) ↔ s &&& T = s) := by decide +kernel
theorem w_sub {st P : Nat → Int32} (hq : ∀ j, j < 6 → P j = st (21 + j)) (hP : ∀ j, j < 6 → tv (st (21 + j))) {s : Nat} (hs : s < 64) (x1 : Int32 × Int32 × (Nat → Int32) × (Nat → Int32)) (hx : x1.2.1 = nI s) : lp (b_X4_findLiars_20 st x1) 200 (1, 0) = some (if s &&& tm P = s then 1 else 0) := by
  obtain ⟨r, q1, q2⟩ := lp_ind (body := b_X4_findLiars_20 st x1) (fun y => ∃ i, i ≤ 6 ∧ y.2 = nI i ∧ ((y.1 = 1 ∧ ∀ j, j < i → s.testBit j = true → (tm P).testBit j = true) ∨ (y.1 = 0 ∧ ¬ s &&& tm P = s))) (fun r => r = if s &&& tm P = s then 1 else 0) (fun y => 6 - y.2.toNatClampNeg) (by
    rintro ⟨f, p⟩ ⟨i, hi, rfl, hf⟩
    dsimp only at hf
    rcases Nat.lt_or_ge i 6 with h6 | h6
    · left
      have hμ : 6 - (nI (i + 1)).toNatClampNeg < 6 - (nI i).toNatClampNeg := by
        rw [nI_clamp (by omega), nI_clamp (by omega)]
        omega
      rcases hf with ⟨rfl, hf⟩ | ⟨rfl, hf⟩
      · by_cases c : s.testBit i = true
        · by_cases c2 : st (21 + i) = -1
          · refine ⟨(0, nI (i + 1)), ?_, ⟨i + 1, by omega, rfl, Or.inr ⟨rfl, fun z => ?_⟩⟩, hμ⟩
            · simp only [b_X4_findLiars_20, if_neg (i6 h6), n10, ↓reduceIte, hx, w_has s hs i h6, if_pos c, Option.bind_some, a21, i21 h6, c21 h6, gd_t, if_pos ((tv_pos (hP i h6)).mpr c2), nI_1]
            · exact (tm_bit P i h6).mp ((sub_bits s hs _ (tm_lt P)).mpr z i h6 c) ((hq i h6).trans c2)
          · refine ⟨(1, nI (i + 1)), ?_, ⟨i + 1, by omega, rfl, Or.inl ⟨rfl, fun j hj z => ?_⟩⟩, hμ⟩
            · simp only [b_X4_findLiars_20, if_neg (i6 h6), n10, ↓reduceIte, hx, w_has s hs i h6, if_pos c, Option.bind_some, a21, i21 h6, c21 h6, gd_t, if_neg (fun z => c2 ((tv_pos (hP i h6)).mp z)), nI_1]
            · by_cases c3 : j = i
              · subst c3
                exact (tm_bit P j h6).mpr (fun y => c2 ((hq j h6).symm.trans y))
              · exact hf j (by omega) z
        · refine ⟨(1, nI (i + 1)), ?_, ⟨i + 1, by omega, rfl, Or.inl ⟨rfl, fun j hj z => ?_⟩⟩, hμ⟩
          · simp only [b_X4_findLiars_20, if_neg (i6 h6), n10, ↓reduceIte, hx, w_has s hs i h6, if_neg c, Option.bind_some, nI_1]
          · by_cases c3 : j = i
            · subst c3
              exact absurd z c
            · exact hf j (by omega) z
      · refine ⟨(0, nI (i + 1)), ?_, ⟨i + 1, by omega, rfl, Or.inr ⟨rfl, hf⟩⟩, hμ⟩
        simp only [b_X4_findLiars_20, if_neg (i6 h6), ↓reduceIte, nI_1]
    · right
      have : i = 6 := by omega
      subst this
      refine ⟨f, by simp only [b_X4_findLiars_20, if_pos i6e], ?_⟩
      rcases hf with ⟨rfl, hf⟩ | ⟨rfl, hf⟩
      · rw [if_pos ((sub_bits s hs _ (tm_lt P)).mp hf)]
      · rw [if_neg hf]) 200 (1, 0) ⟨0, by omega, rfl, Or.inl ⟨rfl, fun j hj => absurd hj (by omega)⟩⟩ (by show 6 - (0 : Int32).toNatClampNeg < 200; omega)
  rw [q1, q2]
theorem TW_CW {st P : Nat → Int32} (hq : ∀ j, j < 6 → P j = st (21 + j)) (s : Nat) : ∀ j, j < 6 → TW st s j = CW P s j := fun j hj => by
  unfold TW CW
  rw [hq j hj]
theorem w_liars {st P : Nat → Int32} (hq : ∀ j, j < 6 → P j = st (21 + j)) (hP : ∀ j, j < 6 → tv (st (21 + j))) {e : Nat} (s1 : st 1 = nI e) (he : 1 ≤ e) (he4 : e ≤ 4) (pts used : Nat → Int32) : ∃ p u : Nat → Int32, f_X4_findLiars st pts used = some (LB P e (tm P + 1), p, u) := by
  have hT := tm_lt P
  obtain ⟨r, q1, q2⟩ := lp_ind (body := b_X4_findLiars_4 st) (fun x => ∃ s, s ≤ 64 ∧ x.2.1 = nI s ∧ x.1 = LB P e s) (fun r => r.1 = LB P e 64) (fun x => 65 - x.2.1.toNatClampNeg) (by
    rintro ⟨b, p, p0, u0⟩ ⟨s, hs, rfl, rfl⟩
    by_cases z : s = 64
    · right
      subst z
      have k1 : (64 : Int32) ≤ nI 64 := by decide
      exact ⟨(LB P e 64, p0, u0), by simp only [b_X4_findLiars_4, if_pos k1], rfl⟩
    · left
      have hs64 : s < 64 := by omega
      have k1 : ¬ (64 : Int32) ≤ nI s := nI_ge (a := s) (b := 64) hs64 (by decide)
      have hμ : 65 - (nI (s + 1)).toNatClampNeg < 65 - (nI s).toNatClampNeg := by
        rw [nI_clamp (by omega), nI_clamp (by omega)]
        omega
      obtain ⟨d1, d2, d3, d4⟩ := df_n _ hT s hs64
      have hps := pop_le s hs64
      have hpd := pop_le _ d2
      have hw : ∀ j, j < 6 → tv (fa_fill (TW st s) p0 6 j) := fill_tv (TW_tv hP s)
      have hc : ∀ j, j < 6 → fa_fill (TW st s) p0 6 j = CW P s j := fun j hj => (fill6 _ _ j hj).trans (TW_CW hq s j hj)
      have hsub := w_sub hq hP hs64 (LB P e s, nI s, p0, u0) rfl
      have hpm := w_pointMany hw
      rw [tm_congr hc, tm_CW P hs64] at hpm
      by_cases c1 : s &&& tm P = s
      · rw [if_pos c1] at hsub
        by_cases c2 : e < pop (df (tm P) s)
        · have l1 : ¬ nI (pop (df (tm P) s)) ≤ nI e := nI_ge c2 (by omega)
          obtain ⟨us, hus⟩ := w_agrees (st := st) u0 hw s1 he he4 (by rw [tm_congr hc, tm_CW P hs64]; omega)
          rw [agb_congr hc he4] at hus
          by_cases c3 : agb (CW P s) e = true
          · rw [if_pos c3] at hus
            rcases LB_cases P e s with c | ⟨b, hb, c⟩
            · have l2 : LB P e s < 0 := by rw [c]; decide
              refine ⟨(nI s, nI (s + 1), fa_fill (TW st s) p0 6, us), ?_, ⟨s + 1, by omega, rfl, (LB_yes ⟨c1, c2, c3⟩ (Or.inl c)).symm⟩, hμ⟩
              simp only [b_X4_findLiars_4, if_neg k1, w_takeTold hs64, hsub, Option.bind_some, n10, ↓reduceIte, hpm, i27_1, cl_1, gd_t, s1, if_neg l1, hus, if_pos l2, nI_1]
            · have l2 : ¬ LB P e s < 0 := by rw [c]; exact nI_pos (by omega)
              have hb64 : b < 64 := by omega
              have cb : (LB P e s).toNatClampNeg = b := by rw [c, nI_clamp (by omega)]
              have B1 : f_X4_ones (LB P e s) = some (nI (pop b)) := by rw [c]; exact w_ones b hb64
              have hpb := pop_le b hb64
              have nb : ¬ LB P e s = -1 := fun z => l2 (by rw [z]; decide)
              by_cases c4 : pop b ≤ pop s
              · have l3 : nI (pop b) ≤ nI (pop s) := nI_le c4 (by omega)
                have c5 : ¬ (LB P e s = -1 ∨ pop s < pop (LB P e s).toNatClampNeg) := fun z => by
                  rcases z with z | z
                  · exact nb z
                  · rw [cb] at z
                    omega
                refine ⟨(LB P e s, nI (s + 1), fa_fill (TW st s) p0 6, us), ?_, ⟨s + 1, by omega, rfl, (LB_no2 c5).symm⟩, hμ⟩
                simp only [b_X4_findLiars_4, if_neg k1, w_takeTold hs64, hsub, Option.bind_some, n10, ↓reduceIte, hpm, i27_1, cl_1, gd_t, s1, if_neg l1, hus, if_neg l2, w_ones s hs64, B1, if_pos l3, nI_1]
              · have l3 : ¬ nI (pop b) ≤ nI (pop s) := nI_ge (by omega) (by omega)
                refine ⟨(nI s, nI (s + 1), fa_fill (TW st s) p0 6, us), ?_, ⟨s + 1, by omega, rfl, (LB_yes ⟨c1, c2, c3⟩ (Or.inr (by rw [cb]; omega))).symm⟩, hμ⟩
                simp only [b_X4_findLiars_4, if_neg k1, w_takeTold hs64, hsub, Option.bind_some, n10, ↓reduceIte, hpm, i27_1, cl_1, gd_t, s1, if_neg l1, hus, if_neg l2, w_ones s hs64, B1, if_neg l3, nI_1]
          · rw [if_neg c3] at hus
            refine ⟨(LB P e s, nI (s + 1), fa_fill (TW st s) p0 6, us), ?_, ⟨s + 1, by omega, rfl, (LB_no (fun z => c3 z.2.2)).symm⟩, hμ⟩
            simp only [b_X4_findLiars_4, if_neg k1, w_takeTold hs64, hsub, Option.bind_some, n10, ↓reduceIte, hpm, i27_1, cl_1, gd_t, s1, if_neg l1, hus, nI_1]
        · have l1 : nI (pop (df (tm P) s)) ≤ nI e := nI_le (by omega) (by omega)
          refine ⟨(LB P e s, nI (s + 1), fa_fill (TW st s) p0 6, u0), ?_, ⟨s + 1, by omega, rfl, (LB_no (fun z => c2 z.2.1)).symm⟩, hμ⟩
          simp only [b_X4_findLiars_4, if_neg k1, w_takeTold hs64, hsub, Option.bind_some, n10, ↓reduceIte, hpm, i27_1, cl_1, gd_t, s1, if_pos l1, nI_1]
      · rw [if_neg c1] at hsub
        refine ⟨(LB P e s, nI (s + 1), fa_fill (TW st s) p0 6, u0), ?_, ⟨s + 1, by omega, rfl, (LB_no (fun z => c1 z.1)).symm⟩, hμ⟩
        simp only [b_X4_findLiars_4, if_neg k1, w_takeTold hs64, hsub, Option.bind_some, ↓reduceIte, nI_1]) 200 (-1, 0, pts, used) ⟨0, by omega, rfl, rfl⟩ (by show 65 - (0 : Int32).toNatClampNeg < 200; omega)
  refine ⟨r.2.1, r.2.2, ?_⟩
  have e1 : LB P e 64 = LB P e (tm P + 1) := by
    have := LB_end P e (64 - (tm P + 1)) (by omega)
    rw [show tm P + 1 + (64 - (tm P + 1)) = 64 by omega] at this
    exact this
  simp only [f_X4_findLiars, q1, Option.bind_some]
  rw [q2, e1]
theorem L2_liars (k : Nat) (hk : k ≤ 256) (x : CX) (y : MX) (hR : RR k x y) : ∃ (o : Int32 × (Nat → Int32)) (u : Int32 × (Nat → Int32) × (Nat → Int32)), f_X3_liars x.1.2.1 x.1.2.2.2.2.2.2.2.2.2.2.1 x.2.2.2.2.1 = some o ∧ f_X4_liars y.1 y.2.2.2.2.2.2.2.2.2.2.2.2.1 y.2.2.2.2.2.2.2.2.2.2.2.2.2.1 = some u ∧ o.1 = u.1 ∧ RR (k + 4) (x.1, x.2.1, x.2.2.1, x.2.2.2.1, o.2, x.2.2.2.2.2.1, x.2.2.2.2.2.2) (y.1, y.2.1, y.2.2.1, y.2.2.2.1, y.2.2.2.2.1, y.2.2.2.2.2.1, y.2.2.2.2.2.2.1, y.2.2.2.2.2.2.2.1, y.2.2.2.2.2.2.2.2.1, y.2.2.2.2.2.2.2.2.2.1, y.2.2.2.2.2.2.2.2.2.2.1, y.2.2.2.2.2.2.2.2.2.2.2.1, u.2.1, u.2.2, y.2.2.2.2.2.2.2.2.2.2.2.2.2.2.1, y.2.2.2.2.2.2.2.2.2.2.2.2.2.2.2.1, y.2.2.2.2.2.2.2.2.2.2.2.2.2.2.2.2.1, y.2.2.2.2.2.2.2.2.2.2.2.2.2.2.2.2.2.1, y.2.2.2.2.2.2.2.2.2.2.2.2.2.2.2.2.2.2.1, y.2.2.2.2.2.2.2.2.2.2.2.2.2.2.2.2.2.2.2.1, y.2.2.2.2.2.2.2.2.2.2.2.2.2.2.2.2.2.2.2.2) := by
  obtain ⟨nw, i0, i1, dr, row, tx, kp0, kp1, bc, nc, fc, ab, be⟩ := x
  obtain ⟨st, yab, ybe, rf, txt, byt, pl, tok, vlu, beg, yrow, th, pts, usd, ahd, um, drw, ik, kpt, kah, kmn⟩ := y
  obtain ⟨hS, hI0, hI1, hT, ⟨hb, hn, hf⟩, ha, he⟩ := hR
  dsimp only at hS hI0 hI1 hT hb hn hf ha he ⊢
  obtain ⟨n, e, h, d, t, s, u, c1, c2, c3, a, ⟨b1, b2, b3, b4, b5, b6, b7⟩, ⟨d5, d6, d7, dum⟩, S, ht, hp⟩ := hS.op
  obtain ⟨⟨g1, g2, g3, g4, g5, g6, g7⟩, ⟨f1, f2, f3⟩, ⟨s0, s1, s2, s3, s4, s8⟩, H⟩ := id S
  have ht1 : ∀ j, j < 6 → tv (nw.2.2.2.2.2.2.2.2.2.2.1 j) := fun j hj => by rw [(ht j hj).1]; exact (ht j hj).2
  obtain ⟨r, A⟩ := v_liars ht1 g2 g3 row
  obtain ⟨p, u', B⟩ := w_liars (fun j hj => (ht j hj).1) (fun j hj => (ht j hj).2) s1 g2 g3 pts usd
  refine ⟨_, _, (by rw [b2]; simp only [f_X3_liars, A, Option.bind_some]; rfl), (by simp only [f_X4_liars, B, Option.bind_some]; rfl), ?_, ?_⟩
  · rfl
  · exact ⟨hS.mono (by omega), hI0.mono (by omega), hI1.mono (by omega), hT, ⟨hb, hn, hf⟩, ha, he⟩
theorem L2_guess (k : Nat) (hk : k ≤ 256) (x : CX) (y : MX) (hR : RR k x y) : ∃ (o : Int32 × (Nat → Int32)) (u : Int32 × (Nat → Int32) × (Nat → Int32)), f_X3_guess x.1.2.1 x.1.2.2.2.2.2.2.2.2.2.2.1 x.2.2.2.2.1 = some o ∧ f_X4_guess y.1 y.2.2.2.2.2.2.2.2.2.2.2.2.1 y.2.2.2.2.2.2.2.2.2.2.2.2.2.1 = some u ∧ o.1 = u.1 ∧ RR (k + 4) (x.1, x.2.1, x.2.2.1, x.2.2.2.1, o.2, x.2.2.2.2.2.1, x.2.2.2.2.2.2) (y.1, y.2.1, y.2.2.1, y.2.2.2.1, y.2.2.2.2.1, y.2.2.2.2.2.1, y.2.2.2.2.2.2.1, y.2.2.2.2.2.2.2.1, y.2.2.2.2.2.2.2.2.1, y.2.2.2.2.2.2.2.2.2.1, y.2.2.2.2.2.2.2.2.2.2.1, y.2.2.2.2.2.2.2.2.2.2.2.1, u.2.1, u.2.2, y.2.2.2.2.2.2.2.2.2.2.2.2.2.2.1, y.2.2.2.2.2.2.2.2.2.2.2.2.2.2.2.1, y.2.2.2.2.2.2.2.2.2.2.2.2.2.2.2.2.1, y.2.2.2.2.2.2.2.2.2.2.2.2.2.2.2.2.2.1, y.2.2.2.2.2.2.2.2.2.2.2.2.2.2.2.2.2.2.1, y.2.2.2.2.2.2.2.2.2.2.2.2.2.2.2.2.2.2.2.1, y.2.2.2.2.2.2.2.2.2.2.2.2.2.2.2.2.2.2.2.2) := by
  obtain ⟨nw, i0, i1, dr, row, tx, kp0, kp1, bc, nc, fc, ab, be⟩ := x
  obtain ⟨st, yab, ybe, rf, txt, byt, pl, tok, vlu, beg, yrow, th, pts, usd, ahd, um, drw, ik, kpt, kah, kmn⟩ := y
  obtain ⟨hS, hI0, hI1, hT, ⟨hb, hn, hf⟩, ha, he⟩ := hR
  dsimp only at hS hI0 hI1 hT hb hn hf ha he ⊢
  obtain ⟨n, e, h, d, t, s, u, c1, c2, c3, a, ⟨b1, b2, b3, b4, b5, b6, b7⟩, ⟨d5, d6, d7, dum⟩, S, ht, hp⟩ := hS.op
  obtain ⟨⟨g1, g2, g3, g4, g5, g6, g7⟩, ⟨f1, f2, f3⟩, ⟨s0, s1, s2, s3, s4, s8⟩, H⟩ := id S
  have ht1 : ∀ j, j < 6 → tv (nw.2.2.2.2.2.2.2.2.2.2.1 j) := fun j hj => by rw [(ht j hj).1]; exact (ht j hj).2
  obtain ⟨r, A⟩ := v_liars ht1 g2 g3 row
  obtain ⟨p, u', B⟩ := w_liars (fun j hj => (ht j hj).1) (fun j hj => (ht j hj).2) s1 g2 g3 pts usd
  have hTm := tm_lt nw.2.2.2.2.2.2.2.2.2.2.1
  rcases LB_cases nw.2.2.2.2.2.2.2.2.2.2.1 e (tm nw.2.2.2.2.2.2.2.2.2.2.1 + 1) with c | ⟨b, hb', c⟩
  · rw [c] at A B
    have k1 : ¬ (0 : Int32) ≤ -1 := by decide
    refine ⟨_, _, (by rw [b2]; simp only [f_X3_guess, A, Option.bind_some, ↓reduceIte]; rfl), (by simp only [f_X4_guess, B, Option.bind_some, if_neg k1]; rfl), ?_, ?_⟩
    · rfl
    · exact ⟨hS.mono (by omega), hI0.mono (by omega), hI1.mono (by omega), hT, ⟨hb, hn, hf⟩, ha, he⟩
  · rw [c] at A B
    have hb64 : b < 64 := by omega
    have k1 : (0 : Int32) ≤ nI b := nI_pos' (by omega)
    have k2 : ¬ nI b = -1 := nI_nm1 (by omega)
    have hw1 := fill_tv (g := r) (CW_tv ht1 b)
    have hw2 := fill_tv (g := p) (TW_tv (fun j hj => (ht j hj).2) b)
    obtain ⟨us, hus⟩ := w_found (st := st) u' hw2 s1 g2 g3
    have hc : ∀ j, j < 6 → fa_fill (CW nw.2.2.2.2.2.2.2.2.2.2.1 b) r 6 j = fa_fill (TW st b) p 6 j := fun j hj => by
      rw [fill6 _ _ j hj, fill6 _ _ j hj, TW_CW (fun j hj => (ht j hj).1) b j hj]
    refine ⟨_, _, (by rw [b2]; simp only [f_X3_guess, A, Option.bind_some, if_neg k2, v_copyWithout hb64, v_foundBy hw1 g2 g3]; rfl), (by simp only [f_X4_guess, B, Option.bind_some, if_pos k1, w_takeTold hb64, hus]; rfl), ?_, ?_⟩
    · exact fnd_congr hc g3
    · exact ⟨hS.mono (by omega), hI0.mono (by omega), hI1.mono (by omega), hT, ⟨hb, hn, hf⟩, ha, he⟩
