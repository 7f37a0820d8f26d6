theorem a9 (i : Nat) : (9 : Int32) + nI i = nI (9 + i) := nI_add 9 i
theorem a15 (i : Nat) : (15 : Int32) + nI i = nI (15 + i) := nI_add 15 i
theorem a21 (i : Nat) : (21 : Int32) + nI i = nI (21 + i) := nI_add 21 i
theorem i21 {i : Nat} (h : i < 6) : inb (nI (21 + i)) 27 = true := inb_nI (by omega) (by decide)
theorem i15 {i : Nat} (h : i < 6) : inb (nI (15 + i)) 27 = true := inb_nI (by omega) (by decide)
theorem i9 {i : Nat} (h : i < 6) : inb (nI (9 + i)) 27 = true := inb_nI (by omega) (by decide)
theorem c21 {i : Nat} (h : i < 6) : (nI (21 + i)).toNatClampNeg = 21 + i := nI_clamp (by omega)
theorem c15 {i : Nat} (h : i < 6) : (nI (15 + i)).toNatClampNeg = 15 + i := nI_clamp (by omega)
theorem c9 {i : Nat} (h : i < 6) : (nI (9 + i)).toNatClampNeg = 9 + i := nI_clamp (by omega)
theorem w_toldMany {st : Nat → Int32} {w : Nat → Int32} (hq : ∀ j, j < 6 → w j = st (21 + j)) (hw : ∀ j, j < 6 → tv (st (21 + j))) : f_X4_toldMany st = some (nI (pop (tm w))) := by
  have hm := tm_lt w
  have key : lp (b_X4_toldMany_4 st) 200 (nI (cn (tm w) 7 0), nI 0) = some (nI (cn (tm w) 7 6)) := by
    refine lp_run (fun i => (nI (cn (tm w) 7 i), nI i)) 6 (fun i hi => ?_) ?_ 200 (by decide)
    · simp only [b_X4_toldMany_4, if_neg (i6 hi), a21, i21 hi, gd_t, c21 hi, nI_1]
      by_cases q : w i = -1
      · have hn : ¬ ((tm w).testBit i = true ∧ cn (tm w) 7 i < 7) := fun h => (tm_bit w i hi).mp h.1 q
        rw [if_pos ((tv_pos (hw i hi)).mpr ((hq i hi).symm.trans q)), cn_succ_f hn, show nI (cn (tm w) 7 i) + 0 = nI (cn (tm w) 7 i) from nI_add _ 0]
      · rw [if_neg (fun h => q ((hq i hi).trans ((tv_pos (hw i hi)).mp h))), cn_succ_t ((tm_bit w i hi).mpr q) ((pop_cn _ hm).2 i hi)]
    · simp only [b_X4_toldMany_4, if_pos i6e]
  have key : lp (b_X4_toldMany_4 st) 200 (0, 0) = some (nI (cn (tm w) 7 6)) := key
  simp only [f_X4_toldMany, key, Option.bind_some, (pop_cn _ hm).1]
/-- what is told, without those of a set -/
def TW (st : Nat → Int32) (m j : Nat) : Int32 := if m.testBit j = true then -1 else st (21 + j)
theorem w_takeTold {st pts : Nat → Int32} {m : Nat} (hm : m < 64) : f_X4_takeTold st pts (nI m) = some (fa_fill (TW st m) pts 6) := by
  have key : lp (b_X4_takeTold_2 st (nI m)) 200 (nI 0, fa_fill (TW st m) pts 0) = some (fa_fill (TW st m) pts 6) := by
    refine lp_run (fun i => (nI i, fa_fill (TW st m) pts i)) 6 (fun i hi => ?_) ?_ 200 (by decide)
    · simp only [b_X4_takeTold_2, if_neg (i6 hi), w_has m hm i hi, Option.bind_some, a21, i21 hi, c21 hi, inb_nI hi (by decide), gd_t, c6 (show i ≤ 6 by omega), nI_1]
      rw [← fa_fill_succ]
      by_cases q : m.testBit i = true
      · simp only [TW, if_pos q, n10, ↓reduceIte, Option.bind_some]
      · simp only [TW, if_neg q, ↓reduceIte, Option.bind_some]
    · simp only [b_X4_takeTold_2, if_pos i6e]
  rw [fa_fill_0] at key
  have key : lp (b_X4_takeTold_2 st (nI m)) 200 (0, pts) = _ := key
  simp only [f_X4_takeTold, key, Option.bind_some]
theorem TW_tv {st : Nat → Int32} (ht : ∀ j, j < 6 → tv (st (21 + j))) (m : Nat) : ∀ j, j < 6 → tv (TW st m j) := by
  intro j hj
  unfold TW
  split
  · exact Or.inl rfl
  · exact ht j hj
theorem TW0 (st : Nat → Int32) (j : Nat) : TW st 0 j = st (21 + j) := by simp [TW]
theorem SR.st {k : Nat} {v v' : SafeT} {st st' ahead : Nat → Int32} {um : Int32} (h : SR k v st ahead um) (hv : v'.1 = v.1 ∧ v'.2.1 = v.2.1 ∧ v'.2.2.1 = v.2.2.1 ∧ v'.2.2.2.1 = v.2.2.2.1 ∧ v'.2.2.2.2.1 = v.2.2.2.2.1 ∧ v'.2.2.2.2.2.1 = v.2.2.2.2.2.1 ∧ v'.2.2.2.2.2.2.1 = v.2.2.2.2.2.2.1 ∧ v'.2.2.2.2.2.2.2.1 = v.2.2.2.2.2.2.2.1 ∧ v'.2.2.2.2.2.2.2.2.1 = v.2.2.2.2.2.2.2.2.1 ∧ v'.2.2.2.2.2.2.2.2.2.1 = v.2.2.2.2.2.2.2.2.2.1 ∧ v'.2.2.2.2.2.2.2.2.2.2.2 = v.2.2.2.2.2.2.2.2.2.2.2) (hs : ∀ j, j < 21 → st' j = st j) (hd : ∀ j, j < 6 → v'.2.2.2.2.2.2.2.2.2.2.1 j = st' (21 + j) ∧ tv (st' (21 + j))) : SR k v' st' ahead um := by
  obtain ⟨q1, q2, q3, q4, q5, q6, q7, q8, q9, q10, q11⟩ := hv
  obtain ⟨n, e, h, d, t, s, u, c1, c2, c3, a, b, f, ⟨s0, s1, s2, s3, s4, s5, s6, s7, s8, s9⟩, hk, ht, hp⟩ := h
  have a6 : h ≤ 6 := a.2.2.2.1
  refine ⟨n, e, h, d, t, s, u, c1, c2, c3, a, by rw [q1, q2, q3, q4, q5, q6, q7]; exact b, by rw [q10]; exact f, ⟨by rw [hs 0 (by decide)]; exact s0, by rw [hs 1 (by decide)]; exact s1, by rw [hs 2 (by decide)]; exact s2, by rw [hs 3 (by decide)]; exact s3, by rw [hs 4 (by decide)]; exact s4, by rw [hs 5 (by decide)]; exact s5, by rw [hs 6 (by decide)]; exact s6, by rw [hs 7 (by decide)]; exact s7, by rw [hs 8 (by decide)]; exact s8, s9⟩, fun j hj => ?_, hd, by rw [q11]; exact hp⟩
  rw [hs (9 + j) (by omega), hs (15 + j) (by omega), q8, q9]
  exact hk j hj
theorem L2_status (k : Nat) (hk : k ≤ 256) (x : CX) (y : MX) (hR : RR k x y) (p1 : Int32) : ∃ (o : Int32 × Int32) (u : Int32 × (Nat → Int32)), f_X3_status x.2.2.2.2.2.2.2.2.1 x.2.2.2.2.2.2.2.2.2.1 x.2.2.2.2.2.2.2.2.2.2.1 p1 = some o ∧ f_X4_status y.2.2.2.1 p1 = some u ∧ o.1 = u.1 ∧ RR (k + 4) (x.1, x.2.1, x.2.2.1, x.2.2.2.1, x.2.2.2.2.1, x.2.2.2.2.2.1, (x.2.2.2.2.2.2.1, x.2.2.2.2.2.2.2.1, o.2, x.2.2.2.2.2.2.2.2.2.1, x.2.2.2.2.2.2.2.2.2.2.1, x.2.2.2.2.2.2.2.2.2.2.2.1, x.2.2.2.2.2.2.2.2.2.2.2.2)) (y.1, y.2.1, y.2.2.1, u.2, y.2.2.2.2.1, y.2.2.2.2.2.1, y.2.2.2.2.2.2.1, y.2.2.2.2.2.2.2.1, y.2.2.2.2.2.2.2.2.1, y.2.2.2.2.2.2.2.2.2.1, y.2.2.2.2.2.2.2.2.2.2.1, y.2.2.2.2.2.2.2.2.2.2.2.1, y.2.2.2.2.2.2.2.2.2.2.2.2.1, y.2.2.2.2.2.2.2.2.2.2.2.2.2.1, y.2.2.2.2.2.2.2.2.2.2.2.2.2.2.1, y.2.2.2.2.2.2.2.2.2.2.2.2.2.2.2.1, y.2.2.2.2.2.2.2.2.2.2.2.2.2.2.2.2.1, y.2.2.2.2.2.2.2.2.2.2.2.2.2.2.2.2.2.1, y.2.2.2.2.2.2.2.2.2.2.2.2.2.2.2.2.2.2.1, y.2.2.2.2.2.2.2.2.2.2.2.2.2.2.2.2.2.2.2.1, y.2.2.2.2.2.2.2.2.2.2.2.2.2.2.2.2.2.2.2.2) := by
  obtain ⟨nw, i0, i1, dr, row, tx, kp0, kp1, bc, nc, fc, ab, be⟩ := x
  obtain ⟨st, yab, ybe, rf, txt, byt, pl, tok, vlu, beg, yrow, th, pts, usd, ahd, um, drw, ik, kpt, kah, kmn⟩ := y
  obtain ⟨hS, hI0, hI1, hT, ⟨hb, hn, hf⟩, ha, he⟩ := hR
  dsimp only at hS hI0 hI1 hT hb hn hf ha he ⊢
  by_cases h1 : ¬ p1 < 0 ∧ ¬ (2 : Int32) < p1
  · obtain ⟨m, hm, rfl⟩ := wi_n (N := 2) rfl (by decide) h1
    have : m = 0 ∨ m = 1 ∨ m = 2 := by omega
    rcases this with rfl | rfl | rfl
    · refine ⟨_, _, (by simp only [f_X3_status]; rw [if_pos (show nI 0 = 0 from rfl)]), (by simp only [f_X4_status, in_0_96, in_1_4, in_0_5, in_1_3, in_0_127, in_0_2, in_0_999, in_1_6, in_m1_96, in_0_7, in_0_1, in_0_10, in_0_990, in_0_999999, in_0_60, in_0_100, w_isWhat, w_bad, w_no, w_full, Option.bind_some, n10, ↓reduceIte, gd_t, i27_0, i27_1, i27_5, i27_6, i27_7, i27_8, cl_0, cl_1, cl_5, cl_6, cl_7, cl_8, if_pos h1, show inb (nI 0) 3 = true by decide]; rfl), ?_, ?_⟩
      · exact hb.symm
      · exact ⟨hS.mono (by omega), hI0.mono (by omega), hI1.mono (by omega), hT, ⟨hb, hn, hf⟩, ha, he⟩
    · refine ⟨_, _, (by simp only [f_X3_status]; rw [if_neg (show ¬ nI 1 = 0 by decide), if_pos (show nI 1 = 1 from rfl)]), (by simp only [f_X4_status, in_0_96, in_1_4, in_0_5, in_1_3, in_0_127, in_0_2, in_0_999, in_1_6, in_m1_96, in_0_7, in_0_1, in_0_10, in_0_990, in_0_999999, in_0_60, in_0_100, w_isWhat, w_bad, w_no, w_full, Option.bind_some, n10, ↓reduceIte, gd_t, i27_0, i27_1, i27_5, i27_6, i27_7, i27_8, cl_0, cl_1, cl_5, cl_6, cl_7, cl_8, if_pos h1, show inb (nI 1) 3 = true by decide]; rfl), ?_, ?_⟩
      · exact hn.symm
      · exact ⟨hS.mono (by omega), hI0.mono (by omega), hI1.mono (by omega), hT, ⟨hb, hn, hf⟩, ha, he⟩
    · refine ⟨_, _, (by simp only [f_X3_status]; rw [if_neg (show ¬ nI 2 = 0 by decide), if_neg (show ¬ nI 2 = 1 by decide), if_pos (show nI 2 = 2 from rfl)]), (by simp only [f_X4_status, in_0_96, in_1_4, in_0_5, in_1_3, in_0_127, in_0_2, in_0_999, in_1_6, in_m1_96, in_0_7, in_0_1, in_0_10, in_0_990, in_0_999999, in_0_60, in_0_100, w_isWhat, w_bad, w_no, w_full, Option.bind_some, n10, ↓reduceIte, gd_t, i27_0, i27_1, i27_5, i27_6, i27_7, i27_8, cl_0, cl_1, cl_5, cl_6, cl_7, cl_8, if_pos h1, show inb (nI 2) 3 = true by decide]; rfl), ?_, ?_⟩
      · exact hf.symm
      · exact ⟨hS.mono (by omega), hI0.mono (by omega), hI1.mono (by omega), hT, ⟨hb, hn, hf⟩, ha, he⟩
  · have k0 : ¬ p1 = 0 := fun q => h1 (by rw [q]; decide)
    have k1 : ¬ p1 = 1 := fun q => h1 (by rw [q]; decide)
    have k2 : ¬ p1 = 2 := fun q => h1 (by rw [q]; decide)
    refine ⟨_, _, (by simp only [f_X3_status, k0, k1, k2, v_isWithin, v_isDay, v_isImage, v_bad, v_no, v_full, f_X3_refuseBadAs, Option.bind_some, n10, ↓reduceIte, gd_t]; rfl), (by simp only [f_X4_status, in_0_96, in_1_4, in_0_5, in_1_3, in_0_127, in_0_2, in_0_999, in_1_6, in_m1_96, in_0_7, in_0_1, in_0_10, in_0_990, in_0_999999, in_0_60, in_0_100, w_isWhat, w_bad, w_no, w_full, Option.bind_some, n10, ↓reduceIte, gd_t, i27_0, i27_1, i27_5, i27_6, i27_7, i27_8, cl_0, cl_1, cl_5, cl_6, cl_7, cl_8, if_neg h1]; rfl), ?_, ?_⟩
    · rfl
    · exact ⟨hS.mono (by omega), hI0.mono (by omega), hI1.mono (by omega), hT, bad3 hb hn hf, ha, he⟩
theorem L2_part (k : Nat) (hk : k ≤ 256) (x : CX) (y : MX) (hR : RR k x y) (p1 : Int32) : ∃ (o : Int64 × Int32) (u : Int64 × (Nat → Int32)), f_X3_part x.2.2.2.2.2.2.2.2.1 x.2.2.2.2.2.2.2.2.2.2.2.1 x.2.2.2.2.2.2.2.2.2.2.2.2 p1 = some o ∧ f_X4_part y.2.1 y.2.2.1 y.2.2.2.1 p1 = some u ∧ o.1 = u.1 ∧ RR (k + 4) (x.1, x.2.1, x.2.2.1, x.2.2.2.1, x.2.2.2.2.1, x.2.2.2.2.2.1, (x.2.2.2.2.2.2.1, x.2.2.2.2.2.2.2.1, o.2, x.2.2.2.2.2.2.2.2.2.1, x.2.2.2.2.2.2.2.2.2.2.1, x.2.2.2.2.2.2.2.2.2.2.2.1, x.2.2.2.2.2.2.2.2.2.2.2.2)) (y.1, y.2.1, y.2.2.1, u.2, y.2.2.2.2.1, y.2.2.2.2.2.1, y.2.2.2.2.2.2.1, y.2.2.2.2.2.2.2.1, y.2.2.2.2.2.2.2.2.1, y.2.2.2.2.2.2.2.2.2.1, y.2.2.2.2.2.2.2.2.2.2.1, y.2.2.2.2.2.2.2.2.2.2.2.1, y.2.2.2.2.2.2.2.2.2.2.2.2.1, y.2.2.2.2.2.2.2.2.2.2.2.2.2.1, y.2.2.2.2.2.2.2.2.2.2.2.2.2.2.1, y.2.2.2.2.2.2.2.2.2.2.2.2.2.2.2.1, y.2.2.2.2.2.2.2.2.2.2.2.2.2.2.2.2.1, y.2.2.2.2.2.2.2.2.2.2.2.2.2.2.2.2.2.1, y.2.2.2.2.2.2.2.2.2.2.2.2.2.2.2.2.2.2.1, y.2.2.2.2.2.2.2.2.2.2.2.2.2.2.2.2.2.2.2.1, y.2.2.2.2.2.2.2.2.2.2.2.2.2.2.2.2.2.2.2.2) := by
  obtain ⟨nw, i0, i1, dr, row, tx, kp0, kp1, bc, nc, fc, ab, be⟩ := x
  obtain ⟨st, yab, ybe, rf, txt, byt, pl, tok, vlu, beg, yrow, th, pts, usd, ahd, um, drw, ik, kpt, kah, kmn⟩ := y
  obtain ⟨hS, hI0, hI1, hT, ⟨hb, hn, hf⟩, ha, he⟩ := hR
  dsimp only at hS hI0 hI1 hT hb hn hf ha he ⊢
  by_cases h0 : p1 = 0
  · subst h0
    refine ⟨_, _, (by simp only [f_X3_part, v_isWithin, v_isDay, v_isImage, v_bad, v_no, v_full, f_X3_refuseBadAs, Option.bind_some, n10, ↓reduceIte, gd_t]; rw [if_pos (show ¬ (0 : Int32) < 0 ∧ ¬ (1 : Int32) < 0 by decide), if_neg n10]), (by simp only [f_X4_part, in_0_96, in_1_4, in_0_5, in_1_3, in_0_127, in_0_2, in_0_999, in_1_6, in_m1_96, in_0_7, in_0_1, in_0_10, in_0_990, in_0_999999, in_0_60, in_0_100, w_isWhat, w_bad, w_no, w_full, Option.bind_some, n10, ↓reduceIte, gd_t, i27_0, i27_1, i27_5, i27_6, i27_7, i27_8, cl_0, cl_1, cl_5, cl_6, cl_7, cl_8]; rfl), ?_, ?_⟩
    · exact ha.symm
    · exact ⟨hS.mono (by omega), hI0.mono (by omega), hI1.mono (by omega), hT, ⟨hb, hn, hf⟩, ha, he⟩
  · by_cases h1 : p1 = 1
    · subst h1
      refine ⟨_, _, (by simp only [f_X3_part, v_isWithin, v_isDay, v_isImage, v_bad, v_no, v_full, f_X3_refuseBadAs, Option.bind_some, n10, ↓reduceIte, gd_t]; rw [if_pos (show ¬ (1 : Int32) < 0 ∧ ¬ (1 : Int32) < 1 by decide), if_neg n10]), (by simp only [f_X4_part, in_0_96, in_1_4, in_0_5, in_1_3, in_0_127, in_0_2, in_0_999, in_1_6, in_m1_96, in_0_7, in_0_1, in_0_10, in_0_990, in_0_999999, in_0_60, in_0_100, w_isWhat, w_bad, w_no, w_full, Option.bind_some, n10, ↓reduceIte, gd_t, i27_0, i27_1, i27_5, i27_6, i27_7, i27_8, cl_0, cl_1, cl_5, cl_6, cl_7, cl_8]; rfl), ?_, ?_⟩
      · exact he.symm
      · exact ⟨hS.mono (by omega), hI0.mono (by omega), hI1.mono (by omega), hT, ⟨hb, hn, hf⟩, ha, he⟩
    · have k1 : ¬ (¬ p1 < 0 ∧ ¬ (1 : Int32) < p1) := fun q => by
        obtain ⟨m, hm, rfl⟩ := wi_n (N := 1) rfl (by decide) q
        have : m = 0 ∨ m = 1 := by omega
        rcases this with rfl | rfl
        · exact h0 rfl
        · exact h1 rfl
      refine ⟨_, _, (by simp only [f_X3_part, v_isWithin, v_isDay, v_isImage, v_bad, v_no, v_full, f_X3_refuseBadAs, Option.bind_some, n10, ↓reduceIte, gd_t, if_neg k1]; rfl), (by simp only [f_X4_part, h0, h1, in_0_96, in_1_4, in_0_5, in_1_3, in_0_127, in_0_2, in_0_999, in_1_6, in_m1_96, in_0_7, in_0_1, in_0_10, in_0_990, in_0_999999, in_0_60, in_0_100, w_isWhat, w_bad, w_no, w_full, Option.bind_some, n10, ↓reduceIte, gd_t, i27_0, i27_1, i27_5, i27_6, i27_7, i27_8, cl_0, cl_1, cl_5, cl_6, cl_7, cl_8]; rfl), ?_, ?_⟩
      · rfl
      · exact ⟨hS.mono (by omega), hI0.mono (by omega), hI1.mono (by omega), hT, bad3 hb hn hf, ha, he⟩
theorem L2_of (k : Nat) (hk : k ≤ 256) (x : CX) (y : MX) (hR : RR k x y) (p1 : Int32) (p2 : Int32) : ∃ (o : Int32 × Int32) (u : Int32 × (Nat → Int32)), f_X3_of x.2.2.2.2.2.2.2.2.1 x.1.1 x.1.2.1 x.1.2.2.1 x.1.2.2.2.2.2.2.2.1 x.1.2.2.2.2.2.2.2.2.1 x.1.2.2.2.2.2.2.2.2.2.1 p1 p2 = some o ∧ f_X4_of y.1 y.2.2.2.1 p1 p2 = some u ∧ o.1 = u.1 ∧ RR (k + 4) (x.1, x.2.1, x.2.2.1, x.2.2.2.1, x.2.2.2.2.1, x.2.2.2.2.2.1, (x.2.2.2.2.2.2.1, x.2.2.2.2.2.2.2.1, o.2, x.2.2.2.2.2.2.2.2.2.1, x.2.2.2.2.2.2.2.2.2.2.1, x.2.2.2.2.2.2.2.2.2.2.2.1, x.2.2.2.2.2.2.2.2.2.2.2.2)) (y.1, y.2.1, y.2.2.1, u.2, y.2.2.2.2.1, y.2.2.2.2.2.1, y.2.2.2.2.2.2.1, y.2.2.2.2.2.2.2.1, y.2.2.2.2.2.2.2.2.1, y.2.2.2.2.2.2.2.2.2.1, y.2.2.2.2.2.2.2.2.2.2.1, y.2.2.2.2.2.2.2.2.2.2.2.1, y.2.2.2.2.2.2.2.2.2.2.2.2.1, y.2.2.2.2.2.2.2.2.2.2.2.2.2.1, y.2.2.2.2.2.2.2.2.2.2.2.2.2.2.1, y.2.2.2.2.2.2.2.2.2.2.2.2.2.2.2.1, y.2.2.2.2.2.2.2.2.2.2.2.2.2.2.2.2.1, y.2.2.2.2.2.2.2.2.2.2.2.2.2.2.2.2.2.1, y.2.2.2.2.2.2.2.2.2.2.2.2.2.2.2.2.2.2.1, y.2.2.2.2.2.2.2.2.2.2.2.2.2.2.2.2.2.2.2.1, y.2.2.2.2.2.2.2.2.2.2.2.2.2.2.2.2.2.2.2.2) := by
  obtain ⟨nw, i0, i1, dr, row, tx, kp0, kp1, bc, nc, fc, ab, be⟩ := x
  obtain ⟨st, yab, ybe, rf, txt, byt, pl, tok, vlu, beg, yrow, th, pts, usd, ahd, um, drw, ik, kpt, kah, kmn⟩ := y
  obtain ⟨hS, hI0, hI1, hT, ⟨hb, hn, hf⟩, ha, he⟩ := hR
  dsimp only at hS hI0 hI1 hT hb hn hf ha he ⊢
  obtain ⟨n, e, h, d, t, s, u, c1, c2, c3, a, ⟨b1, b2, b3, b4, b5, b6, b7⟩, ⟨d5, d6, d7, dum⟩, S, ht, hp⟩ := hS.op
  obtain ⟨⟨g1, g2, g3, g4, g5, g6, g7⟩, ⟨f1, f2, f3⟩, ⟨s0, s1, s2, s3, s4, s8⟩, H⟩ := id S
  by_cases h1 : ¬ p1 < 0 ∧ ¬ nI h ≤ p1
  · by_cases h2 : ¬ p2 < 0 ∧ ¬ (2 : Int32) < p2
    · obtain ⟨j, hj, rfl⟩ := wi_h g4 h1
      obtain ⟨m, hm, rfl⟩ := wi_n (N := 2) rfl (by decide) h2
      have hj6 : j < 6 := by omega
      have : m = 0 ∨ m = 1 ∨ m = 2 := by omega
      rcases this with rfl | rfl | rfl
      · refine ⟨_, _, (by rw [b3]; simp only [f_X3_of, v_isWithin, v_isDay, v_isImage, v_bad, v_no, v_full, f_X3_refuseBadAs, Option.bind_some, n10, ↓reduceIte, gd_t, v_hasHolder, if_pos h1, if_pos h2]; rw [if_pos (show nI 0 = 0 from rfl), v_at6 hj6]; rfl), (by simp only [f_X4_of, in_0_96, in_1_4, in_0_5, in_1_3, in_0_127, in_0_2, in_0_999, in_1_6, in_m1_96, in_0_7, in_0_1, in_0_10, in_0_990, in_0_999999, in_0_60, in_0_100, w_isWhat, w_bad, w_no, w_full, Option.bind_some, n10, ↓reduceIte, gd_t, i27_0, i27_1, i27_5, i27_6, i27_7, i27_8, cl_0, cl_1, cl_5, cl_6, cl_7, cl_8, w_isHolder g4 s8, if_pos h1, if_pos h2]; rw [if_pos (show nI 0 = 0 from rfl)]; simp only [a9, i9 hj6, c9 hj6, gd_t]; rfl), ?_, ?_⟩
        · exact (H j hj).2.2.1.trans (H j hj).2.2.2.1.symm
        · exact ⟨hS.mono (by omega), hI0.mono (by omega), hI1.mono (by omega), hT, ⟨hb, hn, hf⟩, ha, he⟩
      · refine ⟨_, _, (by rw [b3]; simp only [f_X3_of, v_isWithin, v_isDay, v_isImage, v_bad, v_no, v_full, f_X3_refuseBadAs, Option.bind_some, n10, ↓reduceIte, gd_t, v_hasHolder, if_pos h1, if_pos h2]; rw [if_neg (show ¬ nI 1 = 0 by decide), if_pos (show nI 1 = 1 from rfl), v_at6x hj6]; rfl), (by simp only [f_X4_of, in_0_96, in_1_4, in_0_5, in_1_3, in_0_127, in_0_2, in_0_999, in_1_6, in_m1_96, in_0_7, in_0_1, in_0_10, in_0_990, in_0_999999, in_0_60, in_0_100, w_isWhat, w_bad, w_no, w_full, Option.bind_some, n10, ↓reduceIte, gd_t, i27_0, i27_1, i27_5, i27_6, i27_7, i27_8, cl_0, cl_1, cl_5, cl_6, cl_7, cl_8, w_isHolder g4 s8, if_pos h1, if_pos h2]; rw [if_neg (show ¬ nI 1 = 0 by decide), if_pos (show nI 1 = 1 from rfl)]; simp only [a15, i15 hj6, c15 hj6, gd_t]; rfl), ?_, ?_⟩
        · exact (H j hj).2.2.2.2.1.trans (H j hj).2.2.2.2.2.symm
        · exact ⟨hS.mono (by omega), hI0.mono (by omega), hI1.mono (by omega), hT, ⟨hb, hn, hf⟩, ha, he⟩
      · refine ⟨_, _, (by rw [b3, b1, b2]; simp only [f_X3_of, v_isWithin, v_isDay, v_isImage, v_bad, v_no, v_full, f_X3_refuseBadAs, Option.bind_some, n10, ↓reduceIte, gd_t, v_hasHolder, if_pos h1, if_pos h2]; rw [if_neg (show ¬ nI 2 = 0 by decide), if_neg (show ¬ nI 2 = 1 by decide), (S.share hj6).1]; rfl), (by simp only [f_X4_of, in_0_96, in_1_4, in_0_5, in_1_3, in_0_127, in_0_2, in_0_999, in_1_6, in_m1_96, in_0_7, in_0_1, in_0_10, in_0_990, in_0_999999, in_0_60, in_0_100, w_isWhat, w_bad, w_no, w_full, Option.bind_some, n10, ↓reduceIte, gd_t, i27_0, i27_1, i27_5, i27_6, i27_7, i27_8, cl_0, cl_1, cl_5, cl_6, cl_7, cl_8, w_isHolder g4 s8, if_pos h1, if_pos h2]; rw [if_neg (show ¬ nI 2 = 0 by decide), if_neg (show ¬ nI 2 = 1 by decide), (S.share hj6).2]; rfl), ?_, ?_⟩
        · rfl
        · exact ⟨hS.mono (by omega), hI0.mono (by omega), hI1.mono (by omega), hT, ⟨hb, hn, hf⟩, ha, he⟩
    · refine ⟨_, _, (by rw [b3]; simp only [f_X3_of, v_isWithin, v_isDay, v_isImage, v_bad, v_no, v_full, f_X3_refuseBadAs, Option.bind_some, n10, ↓reduceIte, gd_t, v_hasHolder, if_pos h1, if_neg h2]; rfl), (by simp only [f_X4_of, in_0_96, in_1_4, in_0_5, in_1_3, in_0_127, in_0_2, in_0_999, in_1_6, in_m1_96, in_0_7, in_0_1, in_0_10, in_0_990, in_0_999999, in_0_60, in_0_100, w_isWhat, w_bad, w_no, w_full, Option.bind_some, n10, ↓reduceIte, gd_t, i27_0, i27_1, i27_5, i27_6, i27_7, i27_8, cl_0, cl_1, cl_5, cl_6, cl_7, cl_8, w_isHolder g4 s8, if_pos h1, if_neg h2]; rfl), ?_, ?_⟩
      · rfl
      · exact ⟨hS.mono (by omega), hI0.mono (by omega), hI1.mono (by omega), hT, bad3 hb hn hf, ha, he⟩
  · refine ⟨_, _, (by rw [b3]; simp only [f_X3_of, v_isWithin, v_isDay, v_isImage, v_bad, v_no, v_full, f_X3_refuseBadAs, Option.bind_some, n10, ↓reduceIte, gd_t, v_hasHolder, if_neg h1]; rfl), (by simp only [f_X4_of, in_0_96, in_1_4, in_0_5, in_1_3, in_0_127, in_0_2, in_0_999, in_1_6, in_m1_96, in_0_7, in_0_1, in_0_10, in_0_990, in_0_999999, in_0_60, in_0_100, w_isWhat, w_bad, w_no, w_full, Option.bind_some, n10, ↓reduceIte, gd_t, i27_0, i27_1, i27_5, i27_6, i27_7, i27_8, cl_0, cl_1, cl_5, cl_6, cl_7, cl_8, w_isHolder g4 s8, if_neg h1]; rfl), ?_, ?_⟩
    · rfl
    · exact ⟨hS.mono (by omega), hI0.mono (by omega), hI1.mono (by omega), hT, bad3 hb hn hf, ha, he⟩
theorem L2_tells (k : Nat) (hk : k ≤ 256) (x : CX) (y : MX) (hR : RR k x y) (p1 : Int32) (p2 : Int32) (p3 : Int32) : ∃ (o : Int32 × Int32) (u : Int32 × (Nat → Int32)), f_X3_tells x.2.2.2.2.2.2.2.2.1 x.1.1 x.1.2.1 x.1.2.2.1 x.1.2.2.2.2.2.2.2.1 x.1.2.2.2.2.2.2.2.2.1 x.1.2.2.2.2.2.2.2.2.2.1 p1 p2 p3 = some o ∧ f_X4_tells y.1 y.2.2.2.1 p1 p2 p3 = some u ∧ o.1 = u.1 ∧ RR (k + 4) (x.1, x.2.1, x.2.2.1, x.2.2.2.1, x.2.2.2.2.1, x.2.2.2.2.2.1, (x.2.2.2.2.2.2.1, x.2.2.2.2.2.2.2.1, o.2, x.2.2.2.2.2.2.2.2.2.1, x.2.2.2.2.2.2.2.2.2.2.1, x.2.2.2.2.2.2.2.2.2.2.2.1, x.2.2.2.2.2.2.2.2.2.2.2.2)) (y.1, y.2.1, y.2.2.1, u.2, y.2.2.2.2.1, y.2.2.2.2.2.1, y.2.2.2.2.2.2.1, y.2.2.2.2.2.2.2.1, y.2.2.2.2.2.2.2.2.1, y.2.2.2.2.2.2.2.2.2.1, y.2.2.2.2.2.2.2.2.2.2.1, y.2.2.2.2.2.2.2.2.2.2.2.1, y.2.2.2.2.2.2.2.2.2.2.2.2.1, y.2.2.2.2.2.2.2.2.2.2.2.2.2.1, y.2.2.2.2.2.2.2.2.2.2.2.2.2.2.1, y.2.2.2.2.2.2.2.2.2.2.2.2.2.2.2.1, y.2.2.2.2.2.2.2.2.2.2.2.2.2.2.2.2.1, y.2.2.2.2.2.2.2.2.2.2.2.2.2.2.2.2.2.1, y.2.2.2.2.2.2.2.2.2.2.2.2.2.2.2.2.2.2.1, y.2.2.2.2.2.2.2.2.2.2.2.2.2.2.2.2.2.2.2.1, y.2.2.2.2.2.2.2.2.2.2.2.2.2.2.2.2.2.2.2.2) := by
  obtain ⟨nw, i0, i1, dr, row, tx, kp0, kp1, bc, nc, fc, ab, be⟩ := x
  obtain ⟨st, yab, ybe, rf, txt, byt, pl, tok, vlu, beg, yrow, th, pts, usd, ahd, um, drw, ik, kpt, kah, kmn⟩ := y
  obtain ⟨hS, hI0, hI1, hT, ⟨hb, hn, hf⟩, ha, he⟩ := hR
  dsimp only at hS hI0 hI1 hT hb hn hf ha he ⊢
  obtain ⟨n, e, h, d, t, s, u, c1, c2, c3, a, ⟨b1, b2, b3, b4, b5, b6, b7⟩, ⟨d5, d6, d7, dum⟩, S, ht, hp⟩ := hS.op
  obtain ⟨⟨g1, g2, g3, g4, g5, g6, g7⟩, ⟨f1, f2, f3⟩, ⟨s0, s1, s2, s3, s4, s8⟩, H⟩ := id S
  by_cases h1 : ¬ p1 < 0 ∧ ¬ nI h ≤ p1
  · by_cases h2 : ¬ p2 < 0 ∧ ¬ (999 : Int32) < p2
    · by_cases h3 : ¬ p3 < 1 ∧ ¬ (6 : Int32) < p3
      · obtain ⟨j, hj, rfl⟩ := wi_h g4 h1
        obtain ⟨m, hm, rfl⟩ := wi_n (N := 999) rfl (by decide) h2
        obtain ⟨q, hq1, hq, rfl⟩ := wi_n1 (N := 6) rfl (by decide) h3
        have hj6 : j < 6 := by omega
        refine ⟨_, _, (by rw [b3, b1, b2]; simp only [f_X3_tells, v_isWithin, v_isDay, v_isImage, v_bad, v_no, v_full, f_X3_refuseBadAs, Option.bind_some, n10, ↓reduceIte, gd_t, v_hasHolder, if_pos h1, if_pos h2, if_pos h3, (S.word hj (show m < 2000 by omega) hq).1]; rfl), (by simp only [f_X4_tells, in_0_96, in_1_4, in_0_5, in_1_3, in_0_127, in_0_2, in_0_999, in_1_6, in_m1_96, in_0_7, in_0_1, in_0_10, in_0_990, in_0_999999, in_0_60, in_0_100, w_isWhat, w_bad, w_no, w_full, Option.bind_some, n10, ↓reduceIte, gd_t, i27_0, i27_1, i27_5, i27_6, i27_7, i27_8, cl_0, cl_1, cl_5, cl_6, cl_7, cl_8, w_isHolder g4 s8, if_pos h1, if_pos h2, if_pos h3, (S.share hj6).2, (S.word hj (show m < 2000 by omega) hq).2]; rfl), ?_, ?_⟩
        · rfl
        · exact ⟨hS.mono (by omega), hI0.mono (by omega), hI1.mono (by omega), hT, ⟨hb, hn, hf⟩, ha, he⟩
      · refine ⟨_, _, (by rw [b3]; simp only [f_X3_tells, v_isWithin, v_isDay, v_isImage, v_bad, v_no, v_full, f_X3_refuseBadAs, Option.bind_some, n10, ↓reduceIte, gd_t, v_hasHolder, if_pos h1, if_pos h2, if_neg h3]; rfl), (by simp only [f_X4_tells, in_0_96, in_1_4, in_0_5, in_1_3, in_0_127, in_0_2, in_0_999, in_1_6, in_m1_96, in_0_7, in_0_1, in_0_10, in_0_990, in_0_999999, in_0_60, in_0_100, w_isWhat, w_bad, w_no, w_full, Option.bind_some, n10, ↓reduceIte, gd_t, i27_0, i27_1, i27_5, i27_6, i27_7, i27_8, cl_0, cl_1, cl_5, cl_6, cl_7, cl_8, w_isHolder g4 s8, if_pos h1, if_pos h2, if_neg h3]; rfl), ?_, ?_⟩
        · rfl
        · exact ⟨hS.mono (by omega), hI0.mono (by omega), hI1.mono (by omega), hT, bad3 hb hn hf, ha, he⟩
    · refine ⟨_, _, (by rw [b3]; simp only [f_X3_tells, v_isWithin, v_isDay, v_isImage, v_bad, v_no, v_full, f_X3_refuseBadAs, Option.bind_some, n10, ↓reduceIte, gd_t, v_hasHolder, if_pos h1, if_neg h2]; rfl), (by simp only [f_X4_tells, in_0_96, in_1_4, in_0_5, in_1_3, in_0_127, in_0_2, in_0_999, in_1_6, in_m1_96, in_0_7, in_0_1, in_0_10, in_0_990, in_0_999999, in_0_60, in_0_100, w_isWhat, w_bad, w_no, w_full, Option.bind_some, n10, ↓reduceIte, gd_t, i27_0, i27_1, i27_5, i27_6, i27_7, i27_8, cl_0, cl_1, cl_5, cl_6, cl_7, cl_8, w_isHolder g4 s8, if_pos h1, if_neg h2]; rfl), ?_, ?_⟩
      · rfl
      · exact ⟨hS.mono (by omega), hI0.mono (by omega), hI1.mono (by omega), hT, bad3 hb hn hf, ha, he⟩
  · refine ⟨_, _, (by rw [b3]; simp only [f_X3_tells, v_isWithin, v_isDay, v_isImage, v_bad, v_no, v_full, f_X3_refuseBadAs, Option.bind_some, n10, ↓reduceIte, gd_t, v_hasHolder, if_neg h1]; rfl), (by simp only [f_X4_tells, in_0_96, in_1_4, in_0_5, in_1_3, in_0_127, in_0_2, in_0_999, in_1_6, in_m1_96, in_0_7, in_0_1, in_0_10, in_0_990, in_0_999999, in_0_60, in_0_100, w_isWhat, w_bad, w_no, w_full, Option.bind_some, n10, ↓reduceIte, gd_t, i27_0, i27_1, i27_5, i27_6, i27_7, i27_8, cl_0, cl_1, cl_5, cl_6, cl_7, cl_8, w_isHolder g4 s8, if_neg h1]; rfl), ?_, ?_⟩
    · rfl
    · exact ⟨hS.mono (by omega), hI0.mono (by omega), hI1.mono (by omega), hT, bad3 hb hn hf, ha, he⟩
theorem wi_who {v : Int32} {h : Nat} (hh : h ≤ 6) (q : ¬ v < 0 ∧ ¬ nI (2 ^ h - 1) < v) : ∃ j : Nat, j < 2 ^ h ∧ j < 64 ∧ v = nI j := by
  have h64 : 2 ^ h ≤ 64 := (all_n h (by omega)).2
  have hpos : 0 < 2 ^ h := Nat.two_pow_pos h
  obtain ⟨j, hj, rfl⟩ := wi_n (N := 2 ^ h - 1) rfl (by omega) q
  exact ⟨j, by omega, by omega, rfl⟩
theorem L2_knows (k : Nat) (hk : k ≤ 256) (x : CX) (y : MX) (hR : RR k x y) (p1 : Int32) : ∃ (o : Int32 × Int32) (u : Int32 × (Nat → Int32)), f_X3_knows x.2.2.2.2.2.2.2.2.1 x.1.2.1 x.1.2.2.1 p1 = some o ∧ f_X4_knows y.1 y.2.2.2.1 p1 = some u ∧ o.1 = u.1 ∧ RR (k + 4) (x.1, x.2.1, x.2.2.1, x.2.2.2.1, x.2.2.2.2.1, x.2.2.2.2.2.1, (x.2.2.2.2.2.2.1, x.2.2.2.2.2.2.2.1, o.2, x.2.2.2.2.2.2.2.2.2.1, x.2.2.2.2.2.2.2.2.2.2.1, x.2.2.2.2.2.2.2.2.2.2.2.1, x.2.2.2.2.2.2.2.2.2.2.2.2)) (y.1, y.2.1, y.2.2.1, u.2, y.2.2.2.2.1, y.2.2.2.2.2.1, y.2.2.2.2.2.2.1, y.2.2.2.2.2.2.2.1, y.2.2.2.2.2.2.2.2.1, y.2.2.2.2.2.2.2.2.2.1, y.2.2.2.2.2.2.2.2.2.2.1, y.2.2.2.2.2.2.2.2.2.2.2.1, y.2.2.2.2.2.2.2.2.2.2.2.2.1, y.2.2.2.2.2.2.2.2.2.2.2.2.2.1, y.2.2.2.2.2.2.2.2.2.2.2.2.2.2.1, y.2.2.2.2.2.2.2.2.2.2.2.2.2.2.2.1, y.2.2.2.2.2.2.2.2.2.2.2.2.2.2.2.2.1, y.2.2.2.2.2.2.2.2.2.2.2.2.2.2.2.2.2.1, y.2.2.2.2.2.2.2.2.2.2.2.2.2.2.2.2.2.2.1, y.2.2.2.2.2.2.2.2.2.2.2.2.2.2.2.2.2.2.2.1, y.2.2.2.2.2.2.2.2.2.2.2.2.2.2.2.2.2.2.2.2) := by
  obtain ⟨nw, i0, i1, dr, row, tx, kp0, kp1, bc, nc, fc, ab, be⟩ := x
  obtain ⟨st, yab, ybe, rf, txt, byt, pl, tok, vlu, beg, yrow, th, pts, usd, ahd, um, drw, ik, kpt, kah, kmn⟩ := y
  obtain ⟨hS, hI0, hI1, hT, ⟨hb, hn, hf⟩, ha, he⟩ := hR
  dsimp only at hS hI0 hI1 hT hb hn hf ha he ⊢
  obtain ⟨n, e, h, d, t, s, u, c1, c2, c3, a, ⟨b1, b2, b3, b4, b5, b6, b7⟩, ⟨d5, d6, d7, dum⟩, S, ht, hp⟩ := hS.op
  obtain ⟨⟨g1, g2, g3, g4, g5, g6, g7⟩, ⟨f1, f2, f3⟩, ⟨s0, s1, s2, s3, s4, s8⟩, H⟩ := id S
  by_cases h1 : ¬ p1 < 0 ∧ ¬ nI (2 ^ h - 1) < p1
  · obtain ⟨m, hm, hm6, rfl⟩ := wi_who g4 h1
    have hpl := pop_le m hm6
    by_cases h2 : nI e ≤ nI (pop m)
    · refine ⟨_, _, (by rw [b3, b2]; simp only [f_X3_knows, v_isWithin, v_isDay, v_isImage, v_bad, v_no, v_full, f_X3_refuseBadAs, Option.bind_some, n10, ↓reduceIte, gd_t, v_hasAll g4, if_pos h1, v_bitCount m hm6, if_pos h2]; rfl), (by simp only [f_X4_knows, in_0_96, in_1_4, in_0_5, in_1_3, in_0_127, in_0_2, in_0_999, in_1_6, in_m1_96, in_0_7, in_0_1, in_0_10, in_0_990, in_0_999999, in_0_60, in_0_100, w_isWhat, w_bad, w_no, w_full, Option.bind_some, n10, ↓reduceIte, gd_t, i27_0, i27_1, i27_5, i27_6, i27_7, i27_8, cl_0, cl_1, cl_5, cl_6, cl_7, cl_8, w_areHolders g4 s8, if_pos h1, w_ones m hm6, s1, if_pos h2]; rfl), ?_, ?_⟩
      · rfl
      · exact ⟨hS.mono (by omega), hI0.mono (by omega), hI1.mono (by omega), hT, ⟨hb, hn, hf⟩, ha, he⟩
    · refine ⟨_, _, (by rw [b3, b2]; simp only [f_X3_knows, v_isWithin, v_isDay, v_isImage, v_bad, v_no, v_full, f_X3_refuseBadAs, Option.bind_some, n10, ↓reduceIte, gd_t, v_hasAll g4, if_pos h1, v_bitCount m hm6, if_neg h2]; rfl), (by simp only [f_X4_knows, in_0_96, in_1_4, in_0_5, in_1_3, in_0_127, in_0_2, in_0_999, in_1_6, in_m1_96, in_0_7, in_0_1, in_0_10, in_0_990, in_0_999999, in_0_60, in_0_100, w_isWhat, w_bad, w_no, w_full, Option.bind_some, n10, ↓reduceIte, gd_t, i27_0, i27_1, i27_5, i27_6, i27_7, i27_8, cl_0, cl_1, cl_5, cl_6, cl_7, cl_8, w_areHolders g4 s8, if_pos h1, w_ones m hm6, s1, if_neg h2]; rfl), ?_, ?_⟩
      · rfl
      · exact ⟨hS.mono (by omega), hI0.mono (by omega), hI1.mono (by omega), hT, ⟨hb, hn, hf⟩, ha, he⟩
  · refine ⟨_, _, (by rw [b3]; simp only [f_X3_knows, v_isWithin, v_isDay, v_isImage, v_bad, v_no, v_full, f_X3_refuseBadAs, Option.bind_some, n10, ↓reduceIte, gd_t, v_hasAll g4, if_neg h1]; rfl), (by simp only [f_X4_knows, in_0_96, in_1_4, in_0_5, in_1_3, in_0_127, in_0_2, in_0_999, in_1_6, in_m1_96, in_0_7, in_0_1, in_0_10, in_0_990, in_0_999999, in_0_60, in_0_100, w_isWhat, w_bad, w_no, w_full, Option.bind_some, n10, ↓reduceIte, gd_t, i27_0, i27_1, i27_5, i27_6, i27_7, i27_8, cl_0, cl_1, cl_5, cl_6, cl_7, cl_8, w_areHolders g4 s8, if_neg h1]; rfl), ?_, ?_⟩
    · rfl
    · exact ⟨hS.mono (by omega), hI0.mono (by omega), hI1.mono (by omega), hT, bad3 hb hn hf, ha, he⟩
theorem L2_comes (k : Nat) (hk : k ≤ 256) (x : CX) (y : MX) (hR : RR k x y) (p1 : Int32) (p2 : Int32) : ∃ (o : Int32 × Int32 × (Nat → Int32)) (u : Int32 × (Nat → Int32) × (Nat → Int32) × (Nat → Int32)), f_X3_comes x.2.2.2.2.2.2.2.2.1 x.1.1 x.1.2.1 x.1.2.2.1 x.1.2.2.2.2.2.2.2.1 x.1.2.2.2.2.2.2.2.2.1 x.1.2.2.2.2.2.2.2.2.2.1 x.2.2.2.2.1 p1 p2 = some o ∧ f_X4_comes y.1 y.2.2.2.1 y.2.2.2.2.2.2.2.2.2.2.2.2.1 y.2.2.2.2.2.2.2.2.2.2.2.2.2.1 p1 p2 = some u ∧ o.1 = u.1 ∧ RR (k + 4) (x.1, x.2.1, x.2.2.1, x.2.2.2.1, o.2.2, x.2.2.2.2.2.1, (x.2.2.2.2.2.2.1, x.2.2.2.2.2.2.2.1, o.2.1, x.2.2.2.2.2.2.2.2.2.1, x.2.2.2.2.2.2.2.2.2.2.1, x.2.2.2.2.2.2.2.2.2.2.2.1, x.2.2.2.2.2.2.2.2.2.2.2.2)) (y.1, y.2.1, y.2.2.1, u.2.1, y.2.2.2.2.1, y.2.2.2.2.2.1, y.2.2.2.2.2.2.1, y.2.2.2.2.2.2.2.1, y.2.2.2.2.2.2.2.2.1, y.2.2.2.2.2.2.2.2.2.1, y.2.2.2.2.2.2.2.2.2.2.1, y.2.2.2.2.2.2.2.2.2.2.2.1, u.2.2.1, u.2.2.2, y.2.2.2.2.2.2.2.2.2.2.2.2.2.2.1, y.2.2.2.2.2.2.2.2.2.2.2.2.2.2.2.1, y.2.2.2.2.2.2.2.2.2.2.2.2.2.2.2.2.1, y.2.2.2.2.2.2.2.2.2.2.2.2.2.2.2.2.2.1, y.2.2.2.2.2.2.2.2.2.2.2.2.2.2.2.2.2.2.1, y.2.2.2.2.2.2.2.2.2.2.2.2.2.2.2.2.2.2.2.1, y.2.2.2.2.2.2.2.2.2.2.2.2.2.2.2.2.2.2.2.2) := by
  obtain ⟨nw, i0, i1, dr, row, tx, kp0, kp1, bc, nc, fc, ab, be⟩ := x
  obtain ⟨st, yab, ybe, rf, txt, byt, pl, tok, vlu, beg, yrow, th, pts, usd, ahd, um, drw, ik, kpt, kah, kmn⟩ := y
  obtain ⟨hS, hI0, hI1, hT, ⟨hb, hn, hf⟩, ha, he⟩ := hR
  dsimp only at hS hI0 hI1 hT hb hn hf ha he ⊢
  obtain ⟨n, e, h, d, t, s, u, c1, c2, c3, a, ⟨b1, b2, b3, b4, b5, b6, b7⟩, ⟨d5, d6, d7, dum⟩, S, ht, hp⟩ := hS.op
  obtain ⟨⟨g1, g2, g3, g4, g5, g6, g7⟩, ⟨f1, f2, f3⟩, ⟨s0, s1, s2, s3, s4, s8⟩, H⟩ := id S
  by_cases h1 : ¬ p1 < 0 ∧ ¬ nI (2 ^ h - 1) < p1
  · by_cases h2 : ¬ p2 < 0 ∧ ¬ (999 : Int32) < p2
    · obtain ⟨m, hm, hm6, rfl⟩ := wi_who g4 h1
      obtain ⟨q, hq, rfl⟩ := wi_n (N := 999) rfl (by decide) h2
      obtain ⟨r, hr⟩ := v_outcome S (row := row) (show q < 2000 by omega) hm
      obtain ⟨r1, r2, hr'⟩ := w_triedBy S (pts := pts) (used := usd) (show q < 2000 by omega) hm
      refine ⟨_, _, (by rw [b3, b2, b1]; simp only [f_X3_comes, v_isWithin, v_isDay, v_isImage, v_bad, v_no, v_full, f_X3_refuseBadAs, Option.bind_some, n10, ↓reduceIte, gd_t, v_hasAll g4, if_pos h1, if_pos h2, hr]; rfl), (by simp only [f_X4_comes, in_0_96, in_1_4, in_0_5, in_1_3, in_0_127, in_0_2, in_0_999, in_1_6, in_m1_96, in_0_7, in_0_1, in_0_10, in_0_990, in_0_999999, in_0_60, in_0_100, w_isWhat, w_bad, w_no, w_full, Option.bind_some, n10, ↓reduceIte, gd_t, i27_0, i27_1, i27_5, i27_6, i27_7, i27_8, cl_0, cl_1, cl_5, cl_6, cl_7, cl_8, w_areHolders g4 s8, if_pos h1, if_pos h2, hr']; rfl), ?_, ?_⟩
      · rfl
      · exact ⟨hS.mono (by omega), hI0.mono (by omega), hI1.mono (by omega), hT, ⟨hb, hn, hf⟩, ha, he⟩
    · refine ⟨_, _, (by rw [b3]; simp only [f_X3_comes, v_isWithin, v_isDay, v_isImage, v_bad, v_no, v_full, f_X3_refuseBadAs, Option.bind_some, n10, ↓reduceIte, gd_t, v_hasAll g4, if_pos h1, if_neg h2]; rfl), (by simp only [f_X4_comes, in_0_96, in_1_4, in_0_5, in_1_3, in_0_127, in_0_2, in_0_999, in_1_6, in_m1_96, in_0_7, in_0_1, in_0_10, in_0_990, in_0_999999, in_0_60, in_0_100, w_isWhat, w_bad, w_no, w_full, Option.bind_some, n10, ↓reduceIte, gd_t, i27_0, i27_1, i27_5, i27_6, i27_7, i27_8, cl_0, cl_1, cl_5, cl_6, cl_7, cl_8, w_areHolders g4 s8, if_pos h1, if_neg h2]; rfl), ?_, ?_⟩
      · rfl
      · exact ⟨hS.mono (by omega), hI0.mono (by omega), hI1.mono (by omega), hT, bad3 hb hn hf, ha, he⟩
  · refine ⟨_, _, (by rw [b3]; simp only [f_X3_comes, v_isWithin, v_isDay, v_isImage, v_bad, v_no, v_full, f_X3_refuseBadAs, Option.bind_some, n10, ↓reduceIte, gd_t, v_hasAll g4, if_neg h1]; rfl), (by simp only [f_X4_comes, in_0_96, in_1_4, in_0_5, in_1_3, in_0_127, in_0_2, in_0_999, in_1_6, in_m1_96, in_0_7, in_0_1, in_0_10, in_0_990, in_0_999999, in_0_60, in_0_100, w_isWhat, w_bad, w_no, w_full, Option.bind_some, n10, ↓reduceIte, gd_t, i27_0, i27_1, i27_5, i27_6, i27_7, i27_8, cl_0, cl_1, cl_5, cl_6, cl_7, cl_8, w_areHolders g4 s8, if_neg h1]; rfl), ?_, ?_⟩
    · rfl
    · exact ⟨hS.mono (by omega), hI0.mono (by omega), hI1.mono (by omega), hT, bad3 hb hn hf, ha, he⟩
