theorem amt_both {k : Nat} {nw : SafeT} {st ahd : Nat → Int32} {um : Int32} {tx : TextT} {txt : Nat → Int32} {byt : Int32} (hS : SR k nw st ahd um) (hT : TR tx txt byt) {m : Nat} (hm : m ≤ 7) : ∃ r, f_X3_amount nw.2.1 nw.2.2.1 nw.2.2.2.1 nw.2.2.2.2.1 nw.2.2.2.2.2.1 nw.2.2.2.2.2.2.1 nw.2.2.2.2.2.2.2.2.2.2.1 tx.1 (nI m) = some r ∧ f_X4_countOf byt um st (nI m) = some r := by
  obtain ⟨n, e, h, d, t, s, u, c1, c2, c3, a, ⟨b1, b2, b3, b4, b5, b6, b7⟩, ⟨d5, d6, d7, dum⟩, S, ht, hp⟩ := hS.op
  obtain ⟨⟨g1, g2, g3, g4, g5, g6, g7⟩, ⟨f1, f2, f3⟩, ⟨s0, s1, s2, s3, s4, s8⟩, H⟩ := id S
  have hsz := w_toldMany (fun j hj => (ht j hj).1) (fun j hj => (ht j hj).2)
  have hs01 : s = 0 ∨ s = 1 := by have := a.2.2.2.2.2.2.1; omega
  have hl : tx.1 = byt := by obtain ⟨_, _, q1, q2, _⟩ := hT; exact q1.trans q2.symm
  have : m = 0 ∨ m = 1 ∨ m = 2 ∨ m = 3 ∨ m = 4 ∨ m = 5 ∨ m = 6 ∨ m = 7 := by omega
  rcases this with rfl | rfl | rfl | rfl | rfl | rfl | rfl | rfl
  · exact ⟨nI h, by rw [b3]; rfl, by rw [← s8]; rfl⟩
  · exact ⟨nI e, by rw [b2]; rfl, by rw [← s1]; rfl⟩
  · exact ⟨nI d, by rw [b4]; rfl, by rw [← d5]; rfl⟩
  · exact ⟨nI t, by rw [b5]; rfl, by rw [← d6]; rfl⟩
  · refine ⟨nI s, ?_, by rw [← d7]; rfl⟩
    rw [b6]
    rcases hs01 with rfl | rfl
    · rfl
    · rfl
  · refine ⟨nI (pop (tm nw.2.2.2.2.2.2.2.2.2.2.1)), ?_, ?_⟩
    · show (f_X2_size nw.2.2.2.2.2.2.2.2.2.2.1).bind (fun o1 => some o1) = some _
      rw [v_size]
      rfl
    · show (f_X4_toldMany st).bind (fun o1 => some o1) = some _
      rw [hsz]
      rfl
  · exact ⟨nI u, by rw [b7]; rfl, by rw [dum]; rfl⟩
  · exact ⟨byt, by rw [hl]; rfl, rfl⟩
theorem dig1 {k : Nat} {nw : SafeT} {st ahd : Nat → Int32} {um : Int32} {tx : TextT} {txt : Nat → Int32} {byt : Int32} (hS : SR k nw st ahd um) (hT : TR tx txt byt) (x0 : Int64) : ∃ r, lp (b_X3_digest_6 nw.2.1 nw.2.2.1 nw.2.2.2.1 nw.2.2.2.2.1 nw.2.2.2.2.2.1 nw.2.2.2.2.2.2.1 nw.2.2.2.2.2.2.2.2.2.2.1 tx.1) 200 (x0, 0) = some r ∧ lp (b_X4_digest_6 byt um st) 200 (x0, 0) = some r := by
  obtain ⟨r, r', q1, q2, q3⟩ := lp_rel (b1 := b_X3_digest_6 nw.2.1 nw.2.2.1 nw.2.2.2.1 nw.2.2.2.2.1 nw.2.2.2.2.2.1 nw.2.2.2.2.2.2.1 nw.2.2.2.2.2.2.2.2.2.2.1 tx.1) (b2 := b_X4_digest_6 byt um st) (fun x y => x = y ∧ ∃ m : Nat, m ≤ 8 ∧ x.2 = nI m) (fun x y => x = y) (fun x => 9 - x.2.toNatClampNeg) (by
    rintro ⟨x, p⟩ ⟨x', p'⟩ ⟨q, m, hm, rfl⟩
    obtain ⟨rfl, rfl⟩ := Prod.mk.inj q
    by_cases z : m = 8
    · right
      subst z
      have k1 : (8 : Int32) ≤ nI 8 := by decide
      exact ⟨x, x, by simp only [b_X3_digest_6, if_pos k1], by simp only [b_X4_digest_6, if_pos k1], rfl⟩
    · left
      have k1 : ¬ (8 : Int32) ≤ nI m := nI_ge (a := m) (b := 8) (by omega) (by decide)
      obtain ⟨r, e1, e2⟩ := amt_both hS hT (show m ≤ 7 by omega)
      refine ⟨(31 * x + r.toInt64, nI (m + 1)), (31 * x + r.toInt64, nI (m + 1)), by simp only [b_X3_digest_6, if_neg k1, e1, Option.bind_some, nI_1], by simp only [b_X4_digest_6, if_neg k1, e2, Option.bind_some, nI_1], ⟨rfl, m + 1, by omega, rfl⟩, ?_⟩
      show 9 - (nI (m + 1)).toNatClampNeg < 9 - (nI m).toNatClampNeg
      rw [nI_clamp (by omega), nI_clamp (by omega)]
      omega) 200 200 (x0, 0) (x0, 0) ⟨rfl, 0, by omega, rfl⟩ (by show 9 - (0 : Int32).toNatClampNeg < 200; omega) (by show 9 - (0 : Int32).toNatClampNeg < 200; omega)
  exact ⟨r, q1, by rw [q3]; exact q2⟩
theorem dig2 {fac st : Nat → Int32} (F : ∀ j, j < 3 → fac j = st (2 + j)) (x0 : Int64) : ∃ r, lp (b_X0_mixInto_15 fac) 200 (x0, 1) = some r ∧ lp (b_X4_digest_47 st) 200 (x0, 0) = some r := by
  obtain ⟨r, r', q1, q2, q3⟩ := lp_rel (b1 := b_X0_mixInto_15 fac) (b2 := b_X4_digest_47 st) (fun x y => x.1 = y.1 ∧ ∃ m : Nat, m ≤ 3 ∧ x.2 = nI (m + 1) ∧ y.2 = nI m) (fun x y => x = y) (fun x => 5 - x.2.toNatClampNeg) (by
    rintro ⟨x, p⟩ ⟨x', p'⟩ ⟨q, m, hm, hp1, hp2⟩
    dsimp only at q hp1 hp2
    subst q hp1 hp2
    by_cases z : m = 3
    · right
      subst z
      exact ⟨x, x, by simp only [b_X0_mixInto_15, if_pos (show (3 : Int32) < nI (3 + 1) by decide)], by simp only [b_X4_digest_47, if_pos (show (3 : Int32) ≤ nI 3 by decide)], rfl⟩
    · left
      have hm3 : m < 3 := by omega
      have k0 : ¬ (3 : Int32) < nI (m + 1) := nI_nlt (a := 3) (b := m + 1) (by omega) (by decide)
      have k1 : ¬ (3 : Int32) ≤ nI m := nI_ge (a := m) (b := 3) (by omega) (by decide)
      have k2 : ¬ nI (m + 1) < 1 := nI_nlt (a := m + 1) (b := 1) (by omega) (by omega)
      have k4 : (2 : Int32) + nI m = nI (2 + m) := nI_add 2 m
      refine ⟨(31 * x + (st (2 + m)).toInt64, nI (m + 1 + 1)), (31 * x + (st (2 + m)).toInt64, nI (m + 1)), ?_, ?_, ⟨rfl, m + 1, by omega, rfl, rfl⟩, ?_⟩
      · simp only [b_X0_mixInto_15, if_neg k0, f_X0_factor, if_neg k2, nI_pred, inb_nI hm3 (by decide), nI_clamp (show m < 2 ^ 31 by omega), gd_t, Option.bind_some, F m hm3]
        rw [nI_1]
      · simp only [b_X4_digest_47, if_neg k1, k4, inb_nI (show 2 + m < 27 by omega) (by decide), nI_clamp (show 2 + m < 2 ^ 31 by omega), gd_t, nm, nI_1]
      · show 5 - (nI (m + 1 + 1)).toNatClampNeg < 5 - (nI (m + 1)).toNatClampNeg
        rw [nI_clamp (by omega), nI_clamp (by omega)]
        omega) 200 200 (x0, 1) (x0, 0) ⟨rfl, 0, by omega, rfl, rfl⟩ (by show 5 - (1 : Int32).toNatClampNeg < 200; omega) (by show 5 - (1 : Int32).toNatClampNeg < 200; omega)
  exact ⟨r, q1, by rw [q3]; exact q2⟩
theorem dig3 {kinds extras st : Nat → Int32} {h : Nat} (hh : h ≤ 6) (s8 : st 8 = nI h) (F : ∀ j, j < h → kinds j = st (9 + j) ∧ extras j = st (15 + j)) (x0 : Int64) : ∃ r, lp (b_X0_mixInto_44 (nI h) kinds extras) 200 (x0, 0) = some r ∧ lp (b_X4_digest_76 st) 200 (x0, 0) = some r := by
  obtain ⟨r, r', q1, q2, q3⟩ := lp_rel (b1 := b_X0_mixInto_44 (nI h) kinds extras) (b2 := b_X4_digest_76 st) (fun x y => x = y ∧ ∃ m : Nat, m ≤ h ∧ x.2 = nI m) (fun x y => x = y) (fun x => 7 - x.2.toNatClampNeg) (by
    rintro ⟨x, p⟩ ⟨x', p'⟩ ⟨q, m, hm, rfl⟩
    obtain ⟨rfl, rfl⟩ := Prod.mk.inj q
    by_cases z : m = h
    · right
      have k1 : nI h ≤ nI m := nI_le (by omega) (by omega)
      exact ⟨x, x, by simp only [b_X0_mixInto_44, if_pos k1], by simp only [b_X4_digest_76, i27_8, cl_8, s8, gd_t, if_pos k1], rfl⟩
    · left
      have hm6 : m < 6 := by omega
      have k1 : ¬ nI h ≤ nI m := nI_ge (by omega) (by omega)
      obtain ⟨e1, e2⟩ := F m (by omega)
      refine ⟨(31 * (31 * x + (st (9 + m)).toInt64) + (st (15 + m)).toInt64, nI (m + 1)), (31 * (31 * x + (st (9 + m)).toInt64) + (st (15 + m)).toInt64, nI (m + 1)), ?_, ?_, ⟨rfl, m + 1, by omega, rfl⟩, ?_⟩
      · simp only [b_X0_mixInto_44, if_neg k1, v_at6 hm6, v_at6x hm6, Option.bind_some, e1, e2, nI_1]
      · simp only [b_X4_digest_76, i27_8, cl_8, s8, gd_t, if_neg k1, a9, i9 hm6, c9 hm6, a15, i15 hm6, c15 hm6, nm, nI_1]
      · show 7 - (nI (m + 1)).toNatClampNeg < 7 - (nI m).toNatClampNeg
        rw [nI_clamp (by omega), nI_clamp (by omega)]
        omega) 200 200 (x0, 0) (x0, 0) ⟨rfl, 0, by omega, rfl⟩ (by show 7 - (0 : Int32).toNatClampNeg < 200; omega) (by show 7 - (0 : Int32).toNatClampNeg < 200; omega)
  exact ⟨r, q1, by rw [q3]; exact q2⟩
theorem dig4 {told st : Nat → Int32} (F : ∀ j, j < 6 → told j = st (21 + j)) (x0 : Int64) : ∃ r, lp (b_X0_mixInto_90 told) 200 (x0, 0) = some r ∧ lp (b_X4_digest_129 st) 200 (x0, 0) = some r := by
  obtain ⟨r, r', q1, q2, q3⟩ := lp_rel (b1 := b_X0_mixInto_90 told) (b2 := b_X4_digest_129 st) (fun x y => x = y ∧ ∃ m : Nat, m ≤ 6 ∧ x.2 = nI m) (fun x y => x = y) (fun x => 7 - x.2.toNatClampNeg) (by
    rintro ⟨x, p⟩ ⟨x', p'⟩ ⟨q, m, hm, rfl⟩
    obtain ⟨rfl, rfl⟩ := Prod.mk.inj q
    by_cases z : m = 6
    · right
      subst z
      exact ⟨x, x, by simp only [b_X0_mixInto_90, if_pos i6e], by simp only [b_X4_digest_129, if_pos i6e], rfl⟩
    · left
      have hm6 : m < 6 := by omega
      refine ⟨(31 * x + (st (21 + m)).toInt64, nI (m + 1)), (31 * x + (st (21 + m)).toInt64, nI (m + 1)), ?_, ?_, ⟨rfl, m + 1, by omega, rfl⟩, ?_⟩
      · simp only [b_X0_mixInto_90, if_neg (i6 hm6), v_at6t hm6, Option.bind_some, F m hm6, nI_1]
      · simp only [b_X4_digest_129, if_neg (i6 hm6), a21, i21 hm6, c21 hm6, gd_t, nm, nI_1]
      · show 7 - (nI (m + 1)).toNatClampNeg < 7 - (nI m).toNatClampNeg
        rw [nI_clamp (by omega), nI_clamp (by omega)]
        omega) 200 200 (x0, 0) (x0, 0) ⟨rfl, 0, by omega, rfl⟩ (by show 7 - (0 : Int32).toNatClampNeg < 200; omega) (by show 7 - (0 : Int32).toNatClampNeg < 200; omega)
  exact ⟨r, q1, by rw [q3]; exact q2⟩
theorem L2_digest (k : Nat) (hk : k ≤ 256) (x : CX) (y : MX) (hR : RR k x y) : ∃ (o : Int64) (u : Int64), f_X3_digest x.2.2.2.2.2.2.2.2.2.2.2.1 x.2.2.2.2.2.2.2.2.2.2.2.2 x.1.1 x.1.2.1 x.1.2.2.1 x.1.2.2.2.1 x.1.2.2.2.2.1 x.1.2.2.2.2.2.1 x.1.2.2.2.2.2.2.1 x.1.2.2.2.2.2.2.2.1 x.1.2.2.2.2.2.2.2.2.1 x.1.2.2.2.2.2.2.2.2.2.1 x.1.2.2.2.2.2.2.2.2.2.2.1 x.2.2.2.2.2.1.1 = some o ∧ f_X4_digest y.2.1 y.2.2.1 y.2.2.2.2.2.1 y.2.2.2.2.2.2.2.2.2.2.2.2.2.2.2.1 y.1 = some u ∧ o = u ∧ RR (k + 4) x y := by
  have hR' := hR
  obtain ⟨nw, i0, i1, dr, row, tx, kp0, kp1, bc, nc, fc, ab, be⟩ := x
  obtain ⟨st, yab, ybe, rf, txt, byt, pl, tok, vlu, beg, yrow, th, pts, usd, ahd, um, drw, ik, kpt, kah, kmn⟩ := y
  obtain ⟨hS, hI0, hI1, hT, ⟨hb, hn, hf⟩, ha, he⟩ := hR
  dsimp only at hS hI0 hI1 hT hb hn hf ha he ⊢
  obtain ⟨n, e, h, d, t, s, u, c1, c2, c3, a, ⟨b1, b2, b3, b4, b5, b6, b7⟩, ⟨d5, d6, d7, dum⟩, S, ht, hp⟩ := hS.op
  obtain ⟨⟨g1, g2, g3, g4, g5, g6, g7⟩, ⟨f1, f2, f3⟩, ⟨s0, s1, s2, s3, s4, s8⟩, H⟩ := id S
  obtain ⟨r1, A1, B1⟩ := dig1 hS hT 1063
  obtain ⟨r2, A2, B2⟩ := dig2 (fac := nw.2.2.2.2.2.2.2.2.2.1) (st := st) (fun j hj => by
    have : j = 0 ∨ j = 1 ∨ j = 2 := by omega
    rcases this with rfl | rfl | rfl
    · exact f1.trans s2.symm
    · exact f2.trans s3.symm
    · exact f3.trans s4.symm) (31 * r1 + (nI n).toInt64)
  obtain ⟨r3, A3, B3⟩ := dig3 (kinds := nw.2.2.2.2.2.2.2.1) (extras := nw.2.2.2.2.2.2.2.2.1) g4 s8 (fun j hj => ⟨(H j hj).2.2.1.trans (H j hj).2.2.2.1.symm, (H j hj).2.2.2.2.1.trans (H j hj).2.2.2.2.2.symm⟩) r2
  obtain ⟨r4, A4, B4⟩ := dig4 (fun j hj => (ht j hj).1) r3
  rw [b3] at A1
  refine ⟨_, _, (by rw [b1, b3]; simp only [f_X3_digest, A1, f_X0_mixInto, A2, A3, A4, Option.bind_some]; rfl), (by simp only [f_X4_digest, B1, i27_0, cl_0, s0, gd_t, B2, B3, B4, Option.bind_some]; rfl), ?_, ?_⟩
  · rw [ha, he]
  · exact hR'.mono (by omega)
