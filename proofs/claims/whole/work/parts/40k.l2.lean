def TR1 (h o m : Nat) : Nat := o ^ pop m * (10 - o) ^ (h - pop m)
def AL (h o e : Nat) : Nat → Nat
  | 0 => 0
  | m + 1 => AL h o e m + (if pop m < e then 0 else TR1 h o m)
theorem v_power : ∀ p, p < 11 → ∀ q, q < 7 → f_X3_power (nI p) (nI q) = some (lN (p ^ q)) := by decide +kernel
theorem pop_h : ∀ h, h < 7 → ∀ m, m < 2 ^ h → pop m ≤ h ∧ m < 64 := by decide +kernel
theorem w_prod : ∀ h, h < 7 → ∀ o, o < 11 → ∀ m, m < 2 ^ h → lp (b_X4_atLeast_20 (fun _ => nI h) (nI o) (0, nI m)) 200 (1, 0) = some (lN (TR1 h o m)) := by decide +kernel
theorem ar_h : ∀ h, h < 7 → ∀ q, q < 7 → (q ≤ h → nI h - nI q = nI (h - q)) ∧ jshl 1 (nI h) = nI (2 ^ h) := by decide +kernel
theorem ar_o : ∀ o, o < 11 → (10 : Int32) - nI o = nI (10 - o) := by decide +kernel
theorem v_parts {h o e : Nat} (hh : h ≤ 6) (ho : o ≤ 10) (he : e ≤ 4) : f_X3_partsWithAtLeast (nI e) (nI h) (nI o) = some (lN (AL h o e (2 ^ h))) := by
  have h64 : 2 ^ h ≤ 64 := (all_n h (by omega)).2
  have key : lp (b_X3_partsWithAtLeast_5 (nI e) (nI h) (nI o)) 200 (lN (AL h o e 0), nI 0) = some (lN (AL h o e (2 ^ h))) := by
    refine lp_run (fun i => (lN (AL h o e i), nI i)) (2 ^ h) (fun m hm => ?_) ?_ 200 (by omega)
    · obtain ⟨q1, q2⟩ := pop_h h (by omega) m hm
      have hpl := pop_le m q2
      have k1 : ¬ nI (2 ^ h) ≤ nI m := nI_ge hm (by omega)
      by_cases c : pop m < e
      · have k2 : nI (pop m) < nI e := nI_lt c (by omega)
        simp only [b_X3_partsWithAtLeast_5, (ar_h h (by omega) 0 (by decide)).2, if_neg k1, v_bitCount m q2, Option.bind_some, if_pos k2, nI_1, AL, if_pos c, Nat.add_zero]
      · have k2 : ¬ nI (pop m) < nI e := nI_nlt (by omega) (by omega)
        simp only [b_X3_partsWithAtLeast_5, (ar_h h (by omega) 0 (by decide)).2, if_neg k1, v_bitCount m q2, Option.bind_some, if_neg k2, nI_1, AL, if_neg c, v_power o (by omega) (pop m) (by omega), ar_o o (by omega), (ar_h h (by omega) (pop m) (by omega)).1 q1, v_power (10 - o) (by omega) (h - pop m) (by omega), lN_mul, lN_add]
        rfl
    · have k1 : nI (2 ^ h) ≤ nI (2 ^ h) := nI_le (Nat.le_refl _) (by omega)
      simp only [b_X3_partsWithAtLeast_5, (ar_h h (by omega) 0 (by decide)).2, if_pos k1]
  have key : lp (b_X3_partsWithAtLeast_5 (nI e) (nI h) (nI o)) 200 (0, 0) = some (lN (AL h o e (2 ^ h))) := key
  simp only [f_X3_partsWithAtLeast, key, Option.bind_some]
theorem w_atLeast {st : Nat → Int32} {h o e : Nat} (s8 : st 8 = nI h) (hh : h ≤ 6) (ho : o ≤ 10) (he : e ≤ 4) : f_X4_atLeast st (nI o) (nI e) = some (lN (AL h o e (2 ^ h))) := by
  have h64 : 2 ^ h ≤ 64 := (all_n h (by omega)).2
  have hpos : 0 < 2 ^ h := Nat.two_pow_pos h
  have hb : ∀ a m, b_X4_atLeast_20 st (nI o) (a, nI m) = b_X4_atLeast_20 (fun _ => nI h) (nI o) (0, nI m) := fun a m => by
    funext x
    simp only [b_X4_atLeast_20, cl_8, s8]
  have key : lp (b_X4_atLeast_5 st (nI o) (nI e)) 200 (lN (AL h o e 0), nI 0) = some (lN (AL h o e (2 ^ h))) := by
    refine lp_run (fun i => (lN (AL h o e i), nI i)) (2 ^ h) (fun m hm => ?_) ?_ 200 (by omega)
    · obtain ⟨q1, q2⟩ := pop_h h (by omega) m hm
      have hpl := pop_le m q2
      have k1 : ¬ nI (2 ^ h - 1) < nI m := nI_nlt (by omega) (by omega)
      by_cases c : pop m < e
      · have k2 : nI (pop m) < nI e := nI_lt c (by omega)
        simp only [b_X4_atLeast_5, w_everybody hh s8, if_neg k1, hb, w_prod h (by omega) o (by omega) m hm, w_ones m q2, Option.bind_some, if_pos k2, nI_1, AL, if_pos c, Nat.add_zero, Int64.add_zero]
      · have k2 : ¬ nI (pop m) < nI e := nI_nlt (by omega) (by omega)
        simp only [b_X4_atLeast_5, w_everybody hh s8, if_neg k1, hb, w_prod h (by omega) o (by omega) m hm, w_ones m q2, Option.bind_some, if_neg k2, nI_1, AL, if_neg c, lN_add]
    · have k1 : nI (2 ^ h - 1) < nI (2 ^ h) := nI_lt (by omega) (by omega)
      simp only [b_X4_atLeast_5, w_everybody hh s8, Option.bind_some, if_pos k1]
  have key : lp (b_X4_atLeast_5 st (nI o) (nI e)) 200 (0, 0) = some (lN (AL h o e (2 ^ h))) := key
  simp only [f_X4_atLeast, key, Option.bind_some]
theorem AL_le : ∀ h, h < 7 → ∀ o, o < 11 → ∀ e, e < 5 → AL h o e (2 ^ h) ≤ 10 ^ h ∧ AL h o 0 (2 ^ h) = 10 ^ h := by decide +kernel
theorem pow_le : ∀ h, h < 7 → 0 < 10 ^ h ∧ 10 ^ h ≤ 1000000 := by decide +kernel
/-- the common divisor, on both sides -/
theorem gcd_both {A B : Nat} (hB0 : 0 < B) (hB : B ≤ 1000000) (hA : A ≤ B) : ∃ g : Nat, 0 < g ∧ g ≤ 1000000 ∧ f_X3_commonDivisor (lN A) (lN B) = some (lN g) ∧ lp b_X4_setFraction_6 200 (lN A, lN B) = some (lN g) := by
  have n0 : ∀ b : Nat, b < 2 ^ 63 → (lN b = 0 ↔ b = 0) := fun b hb => pk_lEQ (b := 0) hb (by decide)
  obtain ⟨r, r', q1, q2, g, q3, q4, q5, q6⟩ := lp_rel (b1 := b_X3_commonDivisor_9) (b2 := b_X4_setFraction_6) (fun x y => ∃ a b c : Nat, x.1 = lN a ∧ y.1 = lN a ∧ x.2.1 = lN b ∧ y.2 = lN b ∧ x.2.2 = nI c ∧ 1 ≤ c ∧ c ≤ 60 ∧ 0 < a ∧ a ≤ 1000000 ∧ b ≤ a ∧ a * b < 2 ^ (60 - c)) (fun r r' => ∃ g : Nat, 0 < g ∧ g ≤ 1000000 ∧ r = lN g ∧ r' = lN g) (fun x => 61 - x.2.2.toNatClampNeg) (by
    rintro ⟨x1, x2, x3⟩ ⟨y1, y2⟩ ⟨a, b, c, hx1, hy1, hx2, hy2, hx3, c1, c2, ha0, ha, hba, hab⟩
    dsimp only at hx1 hy1 hx2 hy2 hx3
    subst hx1 hy1 hx2 hy2 hx3
    have k1 : ¬ (100 : Int32) ≤ nI c := nI_ge (a := c) (b := 100) (by omega) (by decide)
    by_cases z : b = 0
    · right
      subst z
      have l0 : lg_cmp (lN 0) 0 = 0 := (lg_eq _ _).mpr rfl
      exact ⟨lN a, lN a, by simp only [b_X3_commonDivisor_9, if_neg k1, l0, ↓reduceIte], by simp only [b_X4_setFraction_6, l0, ↓reduceIte], a, ha0, ha, rfl, rfl⟩
    · left
      have nz : ¬ lN b = 0 := fun q => z ((n0 b (by omega)).mp q)
      have l0 : ¬ lg_cmp (lN b) 0 = 0 := fun q => nz ((lg_eq _ _).mp q)
      have l1 : decide (¬ lN b = 0) = true := decide_eq_true nz
      have l2 : jlrem (lN a) (lN b) = lN (a % b) := pk_lRem (by omega) (by omega) (by omega)
      have hlt : a % b < b := Nat.mod_lt _ (by omega)
      have hdm := Nat.div_add_mod a b
      have hdq : 0 < a / b := Nat.div_pos hba (by omega)
      have hmul : b * 1 ≤ b * (a / b) := Nat.mul_le_mul_left b hdq
      have h2 : 2 * (a % b) ≤ a := by omega
      have h3 : 2 * (b * (a % b)) ≤ a * b := by
        have : b * (2 * (a % b)) ≤ b * a := Nat.mul_le_mul_left b h2
        have e1 : b * (2 * (a % b)) = 2 * (b * (a % b)) := by rw [← Nat.mul_assoc, Nat.mul_comm b 2, Nat.mul_assoc]
        rw [e1, Nat.mul_comm b a] at this
        exact this
      have hc60 : c < 60 := by
        rcases Nat.lt_or_ge c 60 with w | w
        · exact w
        · have e1 : 60 - c = 0 := by omega
          rw [e1] at hab
          have : 1 * 1 ≤ a * b := Nat.mul_le_mul (by omega) (by omega)
          omega
      have e2 : 2 ^ (60 - c) = 2 * 2 ^ (60 - (c + 1)) := by
        rw [show 60 - c = (60 - (c + 1)) + 1 by omega, Nat.pow_succ, Nat.mul_comm]
      refine ⟨(lN b, lN (a % b), nI (c + 1)), (lN b, lN (a % b)), by simp only [b_X3_commonDivisor_9, if_neg k1, if_neg l0, l1, gd_t, l2, nI_1], by simp only [b_X4_setFraction_6, if_neg l0, l1, gd_t, l2], ⟨b, a % b, c + 1, rfl, rfl, rfl, rfl, rfl, by omega, by omega, by omega, by omega, by omega, by omega⟩, ?_⟩
      show 61 - (nI (c + 1)).toNatClampNeg < 61 - (nI c).toNatClampNeg
      rw [nI_clamp (by omega), nI_clamp (by omega)]
      omega) 199 199 (lN B, lN (A % B), nI 1) (lN B, lN (A % B)) ⟨B, A % B, 1, rfl, rfl, rfl, rfl, rfl, by omega, by omega, hB0, hB, Nat.le_of_lt (Nat.mod_lt _ hB0), by
        have e1 : B * (A % B) ≤ 1000000 * 1000000 := Nat.mul_le_mul hB (by have := Nat.mod_lt A hB0; omega)
        omega⟩ (by show 61 - (nI 1).toNatClampNeg < 199; omega) (by show 61 - (nI 1).toNatClampNeg < 199; omega)
  have nz : ¬ lN B = 0 := fun q => by have := (n0 B (by omega)).mp q; omega
  have l0 : ¬ lg_cmp (lN B) 0 = 0 := fun q => nz ((lg_eq _ _).mp q)
  have l1 : decide (¬ lN B = 0) = true := decide_eq_true nz
  have l2 : jlrem (lN A) (lN B) = lN (A % B) := pk_lRem (by omega) hB0 (by omega)
  have k1 : ¬ (100 : Int32) ≤ 0 := by decide
  have S1 : lp b_X3_commonDivisor_9 200 (lN A, lN B, 0) = some r := by
    rw [lp_i (s' := (lN B, lN (A % B), nI 1)) 199 (by simp only [b_X3_commonDivisor_9, if_neg k1, if_neg l0, l1, gd_t, l2]; rfl)]
    exact q1
  have S2 : lp b_X4_setFraction_6 200 (lN A, lN B) = some r' := by
    rw [lp_i (s' := (lN B, lN (A % B))) 199 (by simp only [b_X4_setFraction_6, if_neg l0, l1, gd_t, l2])]
    exact q2
  refine ⟨g, q3, q4, ?_, by rw [S2, q6]⟩
  simp only [f_X3_commonDivisor, S1, Option.bind_some, q5]
theorem L2_odds (k : Nat) (hk : k ≤ 256) (x : CX) (y : MX) (hR : RR k x y) (p1 : Int32) : ∃ (o : Int32 × Int32 × Int64 × Int64) (u : Int32 × Int64 × Int64 × (Nat → Int32)), f_X3_odds x.2.2.2.2.2.2.2.2.1 x.2.2.2.2.2.2.2.2.2.2.2.1 x.2.2.2.2.2.2.2.2.2.2.2.2 x.1.2.1 x.1.2.2.1 p1 = some o ∧ f_X4_odds y.2.1 y.2.2.1 y.1 y.2.2.2.1 p1 = some u ∧ o.1 = u.1 ∧ RR (k + 4) (x.1, x.2.1, x.2.2.1, x.2.2.2.1, x.2.2.2.2.1, x.2.2.2.2.2.1, (x.2.2.2.2.2.2.1, x.2.2.2.2.2.2.2.1, o.2.1, x.2.2.2.2.2.2.2.2.2.1, x.2.2.2.2.2.2.2.2.2.2.1, o.2.2.1, o.2.2.2)) (y.1, u.2.1, u.2.2.1, u.2.2.2, y.2.2.2.2.1, y.2.2.2.2.2.1, y.2.2.2.2.2.2.1, y.2.2.2.2.2.2.2.1, y.2.2.2.2.2.2.2.2.1, y.2.2.2.2.2.2.2.2.2.1, y.2.2.2.2.2.2.2.2.2.2.1, y.2.2.2.2.2.2.2.2.2.2.2.1, y.2.2.2.2.2.2.2.2.2.2.2.2.1, y.2.2.2.2.2.2.2.2.2.2.2.2.2.1, y.2.2.2.2.2.2.2.2.2.2.2.2.2.2.1, y.2.2.2.2.2.2.2.2.2.2.2.2.2.2.2.1, y.2.2.2.2.2.2.2.2.2.2.2.2.2.2.2.2.1, y.2.2.2.2.2.2.2.2.2.2.2.2.2.2.2.2.2.1, y.2.2.2.2.2.2.2.2.2.2.2.2.2.2.2.2.2.2.1, y.2.2.2.2.2.2.2.2.2.2.2.2.2.2.2.2.2.2.2.1, y.2.2.2.2.2.2.2.2.2.2.2.2.2.2.2.2.2.2.2.2) := by
  obtain ⟨nw, i0, i1, dr, row, tx, kp0, kp1, bc, nc, fc, ab, be⟩ := x
  obtain ⟨st, yab, ybe, rf, txt, byt, pl, tok, vlu, beg, yrow, th, pts, usd, ahd, um, drw, ik, kpt, kah, kmn⟩ := y
  obtain ⟨hS, hI0, hI1, hT, ⟨hb, hn, hf⟩, ha, he⟩ := hR
  dsimp only at hS hI0 hI1 hT hb hn hf ha he ⊢
  obtain ⟨n, e, h, d, t, s, u, c1, c2, c3, a, ⟨b1, b2, b3, b4, b5, b6, b7⟩, ⟨d5, d6, d7, dum⟩, S, ht, hp⟩ := hS.op
  obtain ⟨⟨g1, g2, g3, g4, g5, g6, g7⟩, ⟨f1, f2, f3⟩, ⟨s0, s1, s2, s3, s4, s8⟩, H⟩ := id S
  by_cases h1 : ¬ p1 < 0 ∧ ¬ (10 : Int32) < p1
  · obtain ⟨o, ho, rfl⟩ := wi_n (N := 10) rfl (by decide) h1
    obtain ⟨y1, y2⟩ := AL_le h (by omega) o (by omega) e (by omega)
    obtain ⟨z1, z2⟩ := pow_le h (by omega)
    obtain ⟨g, w1, w2, w3, w4⟩ := gcd_both z1 z2 y1
    have A := v_parts (e := e) g4 ho g3
    have B := w_atLeast (e := e) s8 g4 ho g3
    have C := w_atLeast (e := 0) s8 g4 ho (by decide)
    rw [y2] at C
    have C : f_X4_atLeast st (nI o) 0 = some (lN (10 ^ h)) := C
    have D : f_X3_power 10 (nI h) = some (lN (10 ^ h)) := v_power 10 (by decide) h (by omega)
    have ng : ¬ lN g = 0 := fun q => by have := (pk_lEQ (b := 0) (show g < 2 ^ 63 by omega) (by decide)).mp q; omega
    have l1 : decide (¬ lN g = 0) = true := decide_eq_true ng
    have l2 : 0 < lg_cmp (lN g) 0 := (lg_gt _ _).mpr ((pk_lLT (a := 0) (b := g) (by decide) (by omega)).mpr w1)
    refine ⟨_, _, (by rw [b2, b3]; simp only [f_X3_odds, v_isWithin, v_isDay, v_isImage, v_bad, v_no, v_full, f_X3_refuseBadAs, Option.bind_some, n10, ↓reduceIte, gd_t, if_pos h1, A, D, w3, if_pos l2, l1]; rfl), (by simp only [f_X4_odds, in_0_96, in_1_4, in_0_5, in_1_3, in_0_127, in_0_2, in_0_999, in_1_6, in_m1_96, in_0_7, in_0_1, in_0_10, in_0_990, in_0_999999, in_0_60, in_0_100, w_isWhat, w_bad, w_no, w_full, Option.bind_some, n10, ↓reduceIte, gd_t, i27_0, i27_1, i27_5, i27_6, i27_7, i27_8, cl_0, cl_1, cl_5, cl_6, cl_7, cl_8, if_pos h1, s1, B, C, f_X4_setFraction, w4, l1]; rfl), ?_, ?_⟩
    · rfl
    · exact ⟨hS.mono (by omega), hI0.mono (by omega), hI1.mono (by omega), hT, ⟨hb, hn, hf⟩, rfl, rfl⟩
  · refine ⟨_, _, (by simp only [f_X3_odds, v_isWithin, v_isDay, v_isImage, v_bad, v_no, v_full, f_X3_refuseBadAs, Option.bind_some, n10, ↓reduceIte, gd_t, if_neg h1]; rfl), (by simp only [f_X4_odds, in_0_96, in_1_4, in_0_5, in_1_3, in_0_127, in_0_2, in_0_999, in_1_6, in_m1_96, in_0_7, in_0_1, in_0_10, in_0_990, in_0_999999, in_0_60, in_0_100, w_isWhat, w_bad, w_no, w_full, Option.bind_some, n10, ↓reduceIte, gd_t, i27_0, i27_1, i27_5, i27_6, i27_7, i27_8, cl_0, cl_1, cl_5, cl_6, cl_7, cl_8, if_neg h1]; rfl), ?_, ?_⟩
    · rfl
    · exact ⟨hS.mono (by omega), hI0.mono (by omega), hI1.mono (by omega), hT, bad3 hb hn hf, ha, he⟩
