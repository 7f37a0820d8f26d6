theorem cw_end {B : Nat → Int32} (q : Int32) : b_X1_isWord_28 q B 0 (nI 4) = some (.inr (.inl ())) ∧ b_X1_isWord_28 q B 1 (nI 3) = some (.inr (.inl ())) ∧ b_X1_isWord_28 q B 2 (nI 6) = some (.inr (.inl ())) := by
  refine ⟨?_, ?_, ?_⟩
  · simp only [b_X1_isWord_28, show decide (0 < 3) = true by decide, gd_t, if_pos (show jshr (strN 0) 0 ≤ nI 4 by decide)]
  · simp only [b_X1_isWord_28, show decide (1 < 3) = true by decide, gd_t, if_pos (show jshr (strN 1) 0 ≤ nI 3 by decide)]
  · simp only [b_X1_isWord_28, show decide (2 < 3) = true by decide, gd_t, if_pos (show jshr (strN 2) 0 ≤ nI 6 by decide)]
theorem str_ar : ∀ w, w < 3 → ∀ i, i < strL.getD w 0 → ¬ jshr (strN w) 0 ≤ nI i ∧ inb (nI i) (strL.getD w 0) = true ∧ decide (nI i < strN w) = true ∧ (nI i).toNatClampNeg = i := by decide +kernel
theorem cw_step {n : Nat} {C : Nat → Nat} {B T : Nat → Int32} (X : TX n C B T) {q w i : Nat} (hw : w < 3) (hi : i < strL.getD w 0) (hq : q + i < n) : b_X1_isWord_28 (nI q) B w (nI i) = if nI (C (q + i)) = strC w i then some (.inl (nI (i + 1))) else some (.inr (.inr 0)) := by
  obtain ⟨k1, k2, k3, k4⟩ := str_ar w hw i hi
  simp only [b_X1_isWord_28, decide_eq_true hw, gd_t, if_neg k1, nI_add, v_byteAt X hq, Option.bind_some, k2, k3, k4, nI_1]
theorem kr_1 {k q r : Nat} (h : k ≤ 4) (h1 : k ≠ 1) : ¬ nI (kr k q r) = 1 := by
  have : k = 0 ∨ k = 2 ∨ k = 3 ∨ k = 4 := by omega
  rcases this with rfl | rfl | rfl | rfl
  · show ¬ nI 3 = 1; decide
  · by_cases c : r - q ≤ 2
    · simp only [kr, if_pos c]; decide
    · simp only [kr, if_neg c]; decide
  · show ¬ nI 4 = 1; decide
  · show ¬ nI 0 = 1; decide
theorem word_safe {n : Nat} {C : Nat → Nat} {B T : Nat → Int32} (X : TX n C B T) {q r k : Nat} (hk : k ≤ 4) (hr : r ≤ n) (hqr : q ≤ r) : ∃ b : Int32, (b = 0 ∨ b = 1) ∧ f_X1_isWord (nI q) (nI r) (nI k) B 0 = some b ∧ f_X4_isWord (nI r) (nI (kr k q r)) (nI q) T 115 97 102 101 0 0 = some b := by
  have hn := X.1
  have e1 : nI r - nI q = nI (r - q) := pk_sub hqr
  by_cases c : k = 1
  · subst c
    have ek : nI (kr 1 q r) = 1 := rfl
    have ek' : nI 1 = 1 := rfl
    by_cases c2 : r - q = 4
    · have l1 : nI (r - q) = jshr (strN 0) 0 := by rw [c2]; decide
      have l2 : nI (r - q) = 4 := by rw [c2]; rfl
      have hr' : q + 4 ≤ n := by omega
      have t0 : T (q + 0) = nI (C (q + 0)) := (X.2 (q + 0) (by omega)).2.2
      have p0 := cw_step X (q := q) (w := 0) (i := 0) (by decide) (by decide) (by omega)
      have j0 : inb (nI (q + 0)) 150 = true := inb_nI (by omega) (by decide)
      have m0 : (nI (q + 0)).toNatClampNeg = q + 0 := nI_clamp (by omega)
      have t1 : T (q + 1) = nI (C (q + 1)) := (X.2 (q + 1) (by omega)).2.2
      have p1 := cw_step X (q := q) (w := 0) (i := 1) (by decide) (by decide) (by omega)
      have i1 : nI q + 1 = nI (q + 1) := nI_add q 1
      have j1 : inb (nI (q + 1)) 150 = true := inb_nI (by omega) (by decide)
      have m1 : (nI (q + 1)).toNatClampNeg = q + 1 := nI_clamp (by omega)
      have t2 : T (q + 2) = nI (C (q + 2)) := (X.2 (q + 2) (by omega)).2.2
      have p2 := cw_step X (q := q) (w := 0) (i := 2) (by decide) (by decide) (by omega)
      have i2 : nI q + 2 = nI (q + 2) := nI_add q 2
      have j2 : inb (nI (q + 2)) 150 = true := inb_nI (by omega) (by decide)
      have m2 : (nI (q + 2)).toNatClampNeg = q + 2 := nI_clamp (by omega)
      have t3 : T (q + 3) = nI (C (q + 3)) := (X.2 (q + 3) (by omega)).2.2
      have p3 := cw_step X (q := q) (w := 0) (i := 3) (by decide) (by decide) (by omega)
      have i3 : nI q + 3 = nI (q + 3) := nI_add q 3
      have j3 : inb (nI (q + 3)) 150 = true := inb_nI (by omega) (by decide)
      have m3 : (nI (q + 3)).toNatClampNeg = q + 3 := nI_clamp (by omega)
      have j0' : inb (nI q) 150 = true := j0
      have m0' : (nI q).toNatClampNeg = q := m0
      have t0' : T q = nI (C (q + 0)) := t0
      by_cases h0 : nI (C (q + 0)) = 115
      · have s0 : b_X1_isWord_28 (nI q) B 0 (nI 0) = some (.inl (nI 1)) := by rw [p0, if_pos (h0.trans (by decide))]
        by_cases h1 : nI (C (q + 1)) = 97
        · have s1 : b_X1_isWord_28 (nI q) B 0 (nI 1) = some (.inl (nI 2)) := by rw [p1, if_pos (h1.trans (by decide))]
          by_cases h2 : nI (C (q + 2)) = 102
          · have s2 : b_X1_isWord_28 (nI q) B 0 (nI 2) = some (.inl (nI 3)) := by rw [p2, if_pos (h2.trans (by decide))]
            by_cases h3 : nI (C (q + 3)) = 101
            · have s3 : b_X1_isWord_28 (nI q) B 0 (nI 3) = some (.inl (nI 4)) := by rw [p3, if_pos (h3.trans (by decide))]
              have Z : lp (b_X1_isWord_28 (nI q) B 0) 200 0 = some (.inl ()) := (lp_i 199 s0).trans <| (lp_i 198 s1).trans <| (lp_i 197 s2).trans <| (lp_i 196 s3).trans <| lp_o 195 (cw_end (nI q)).1
              exact ⟨1, Or.inr rfl, by simp only [f_X1_isWord, ek', ↓reduceIte, show decide (0 < 3) = true by decide, gd_t, e1, if_pos l1, Z, Option.bind_some, Sum.elim_inl], by simp only [f_X4_isWord, ek, ↓reduceIte, e1, l2, Option.bind_some, j0', m0', t0', gd_t, i1, j1, m1, t1, i2, j2, m2, t2, i3, j3, m3, t3, show ¬ (101 : Int32) = 0 by decide, show ¬ (4 : Int32) < 4 by decide, show (4 : Int32) < 6 by decide, n10, h0, h1, h2, h3]⟩
            · have f3 : b_X1_isWord_28 (nI q) B 0 (nI 3) = some (.inr (.inr 0)) := by rw [p3, if_neg (fun z => h3 (z.trans (by decide)))]
              have Z : lp (b_X1_isWord_28 (nI q) B 0) 200 0 = some (.inr 0) := (lp_i 199 s0).trans <| (lp_i 198 s1).trans <| (lp_i 197 s2).trans <| lp_o 196 f3
              exact ⟨0, Or.inl rfl, by simp only [f_X1_isWord, ek', ↓reduceIte, show decide (0 < 3) = true by decide, gd_t, e1, if_pos l1, Z, Option.bind_some, Sum.elim_inr], by simp only [f_X4_isWord, ek, ↓reduceIte, e1, l2, Option.bind_some, j0', m0', t0', gd_t, i1, j1, m1, t1, i2, j2, m2, t2, i3, j3, m3, t3, show ¬ (101 : Int32) = 0 by decide, show ¬ (4 : Int32) < 4 by decide, show (4 : Int32) < 6 by decide, n10, h0, h1, h2, h3]⟩
          · have f2 : b_X1_isWord_28 (nI q) B 0 (nI 2) = some (.inr (.inr 0)) := by rw [p2, if_neg (fun z => h2 (z.trans (by decide)))]
            have Z : lp (b_X1_isWord_28 (nI q) B 0) 200 0 = some (.inr 0) := (lp_i 199 s0).trans <| (lp_i 198 s1).trans <| lp_o 197 f2
            exact ⟨0, Or.inl rfl, by simp only [f_X1_isWord, ek', ↓reduceIte, show decide (0 < 3) = true by decide, gd_t, e1, if_pos l1, Z, Option.bind_some, Sum.elim_inr], by simp only [f_X4_isWord, ek, ↓reduceIte, e1, l2, Option.bind_some, j0', m0', t0', gd_t, i1, j1, m1, t1, i2, j2, m2, t2, i3, j3, m3, t3, show ¬ (101 : Int32) = 0 by decide, show ¬ (4 : Int32) < 4 by decide, show (4 : Int32) < 6 by decide, n10, h0, h1, h2]⟩
        · have f1 : b_X1_isWord_28 (nI q) B 0 (nI 1) = some (.inr (.inr 0)) := by rw [p1, if_neg (fun z => h1 (z.trans (by decide)))]
          have Z : lp (b_X1_isWord_28 (nI q) B 0) 200 0 = some (.inr 0) := (lp_i 199 s0).trans <| lp_o 198 f1
          exact ⟨0, Or.inl rfl, by simp only [f_X1_isWord, ek', ↓reduceIte, show decide (0 < 3) = true by decide, gd_t, e1, if_pos l1, Z, Option.bind_some, Sum.elim_inr], by simp only [f_X4_isWord, ek, ↓reduceIte, e1, l2, Option.bind_some, j0', m0', t0', gd_t, i1, j1, m1, t1, i2, j2, m2, t2, i3, j3, m3, t3, show ¬ (101 : Int32) = 0 by decide, show ¬ (4 : Int32) < 4 by decide, show (4 : Int32) < 6 by decide, n10, h0, h1]⟩
      · have f0 : b_X1_isWord_28 (nI q) B 0 (nI 0) = some (.inr (.inr 0)) := by rw [p0, if_neg (fun z => h0 (z.trans (by decide)))]
        have Z : lp (b_X1_isWord_28 (nI q) B 0) 200 0 = some (.inr 0) := lp_o 199 f0
        exact ⟨0, Or.inl rfl, by simp only [f_X1_isWord, ek', ↓reduceIte, show decide (0 < 3) = true by decide, gd_t, e1, if_pos l1, Z, Option.bind_some, Sum.elim_inr], by simp only [f_X4_isWord, ek, ↓reduceIte, e1, l2, Option.bind_some, j0', m0', t0', gd_t, i1, j1, m1, t1, i2, j2, m2, t2, i3, j3, m3, t3, show ¬ (101 : Int32) = 0 by decide, show ¬ (4 : Int32) < 4 by decide, show (4 : Int32) < 6 by decide, n10, h0]⟩
    · have l1 : ¬ nI (r - q) = jshr (strN 0) 0 := by
        rw [show jshr (strN 0) 0 = nI 4 by decide]
        exact nI_lit (by omega) (by decide) c2
      have l2 : ¬ nI (r - q) = 4 := nI_lit (b := 4) (by omega) (by decide) c2
      refine ⟨0, Or.inl rfl, by simp only [f_X1_isWord, ek', ↓reduceIte, show decide (0 < 3) = true by decide, gd_t, e1, if_neg l1], ?_⟩
      simp only [f_X4_isWord, ek, ↓reduceIte, e1, Option.bind_some, l2, n10, show ¬ (101 : Int32) = 0 by decide]
  · have l1 : ¬ nI k = 1 := nI_lit (b := 1) (by omega) (by decide) c
    have l2 := kr_1 (q := q) (r := r) hk c
    refine ⟨0, Or.inl rfl, by simp only [f_X1_isWord, if_neg l1], ?_⟩
    simp only [f_X4_isWord, if_neg l2, ↓reduceIte, Option.bind_some, show ¬ (101 : Int32) = 0 by decide]
theorem word_way {n : Nat} {C : Nat → Nat} {B T : Nat → Int32} (X : TX n C B T) {q r k : Nat} (hk : k ≤ 4) (hr : r ≤ n) (hqr : q ≤ r) : ∃ b : Int32, (b = 0 ∨ b = 1) ∧ f_X1_isWord (nI q) (nI r) (nI k) B 1 = some b ∧ f_X4_isWord (nI r) (nI (kr k q r)) (nI q) T 119 97 121 0 0 0 = some b := by
  have hn := X.1
  have e1 : nI r - nI q = nI (r - q) := pk_sub hqr
  by_cases c : k = 1
  · subst c
    have ek : nI (kr 1 q r) = 1 := rfl
    have ek' : nI 1 = 1 := rfl
    by_cases c2 : r - q = 3
    · have l1 : nI (r - q) = jshr (strN 1) 0 := by rw [c2]; decide
      have l2 : nI (r - q) = 3 := by rw [c2]; rfl
      have hr' : q + 3 ≤ n := by omega
      have t0 : T (q + 0) = nI (C (q + 0)) := (X.2 (q + 0) (by omega)).2.2
      have p0 := cw_step X (q := q) (w := 1) (i := 0) (by decide) (by decide) (by omega)
      have j0 : inb (nI (q + 0)) 150 = true := inb_nI (by omega) (by decide)
      have m0 : (nI (q + 0)).toNatClampNeg = q + 0 := nI_clamp (by omega)
      have t1 : T (q + 1) = nI (C (q + 1)) := (X.2 (q + 1) (by omega)).2.2
      have p1 := cw_step X (q := q) (w := 1) (i := 1) (by decide) (by decide) (by omega)
      have i1 : nI q + 1 = nI (q + 1) := nI_add q 1
      have j1 : inb (nI (q + 1)) 150 = true := inb_nI (by omega) (by decide)
      have m1 : (nI (q + 1)).toNatClampNeg = q + 1 := nI_clamp (by omega)
      have t2 : T (q + 2) = nI (C (q + 2)) := (X.2 (q + 2) (by omega)).2.2
      have p2 := cw_step X (q := q) (w := 1) (i := 2) (by decide) (by decide) (by omega)
      have i2 : nI q + 2 = nI (q + 2) := nI_add q 2
      have j2 : inb (nI (q + 2)) 150 = true := inb_nI (by omega) (by decide)
      have m2 : (nI (q + 2)).toNatClampNeg = q + 2 := nI_clamp (by omega)
      have j0' : inb (nI q) 150 = true := j0
      have m0' : (nI q).toNatClampNeg = q := m0
      have t0' : T q = nI (C (q + 0)) := t0
      by_cases h0 : nI (C (q + 0)) = 119
      · have s0 : b_X1_isWord_28 (nI q) B 1 (nI 0) = some (.inl (nI 1)) := by rw [p0, if_pos (h0.trans (by decide))]
        by_cases h1 : nI (C (q + 1)) = 97
        · have s1 : b_X1_isWord_28 (nI q) B 1 (nI 1) = some (.inl (nI 2)) := by rw [p1, if_pos (h1.trans (by decide))]
          by_cases h2 : nI (C (q + 2)) = 121
          · have s2 : b_X1_isWord_28 (nI q) B 1 (nI 2) = some (.inl (nI 3)) := by rw [p2, if_pos (h2.trans (by decide))]
            have Z : lp (b_X1_isWord_28 (nI q) B 1) 200 0 = some (.inl ()) := (lp_i 199 s0).trans <| (lp_i 198 s1).trans <| (lp_i 197 s2).trans <| lp_o 196 (cw_end (nI q)).2.1
            exact ⟨1, Or.inr rfl, by simp only [f_X1_isWord, ek', ↓reduceIte, show decide (1 < 3) = true by decide, gd_t, e1, if_pos l1, Z, Option.bind_some, Sum.elim_inl], by simp only [f_X4_isWord, ek, ↓reduceIte, e1, l2, Option.bind_some, j0', m0', t0', gd_t, i1, j1, m1, t1, i2, j2, m2, t2, show (3 : Int32) < 4 by decide, show (3 : Int32) < 6 by decide, n10, h0, h1, h2]⟩
          · have f2 : b_X1_isWord_28 (nI q) B 1 (nI 2) = some (.inr (.inr 0)) := by rw [p2, if_neg (fun z => h2 (z.trans (by decide)))]
            have Z : lp (b_X1_isWord_28 (nI q) B 1) 200 0 = some (.inr 0) := (lp_i 199 s0).trans <| (lp_i 198 s1).trans <| lp_o 197 f2
            exact ⟨0, Or.inl rfl, by simp only [f_X1_isWord, ek', ↓reduceIte, show decide (1 < 3) = true by decide, gd_t, e1, if_pos l1, Z, Option.bind_some, Sum.elim_inr], by simp only [f_X4_isWord, ek, ↓reduceIte, e1, l2, Option.bind_some, j0', m0', t0', gd_t, i1, j1, m1, t1, i2, j2, m2, t2, show (3 : Int32) < 4 by decide, show (3 : Int32) < 6 by decide, n10, h0, h1, h2]⟩
        · have f1 : b_X1_isWord_28 (nI q) B 1 (nI 1) = some (.inr (.inr 0)) := by rw [p1, if_neg (fun z => h1 (z.trans (by decide)))]
          have Z : lp (b_X1_isWord_28 (nI q) B 1) 200 0 = some (.inr 0) := (lp_i 199 s0).trans <| lp_o 198 f1
          exact ⟨0, Or.inl rfl, by simp only [f_X1_isWord, ek', ↓reduceIte, show decide (1 < 3) = true by decide, gd_t, e1, if_pos l1, Z, Option.bind_some, Sum.elim_inr], by simp only [f_X4_isWord, ek, ↓reduceIte, e1, l2, Option.bind_some, j0', m0', t0', gd_t, i1, j1, m1, t1, i2, j2, m2, t2, show (3 : Int32) < 4 by decide, show (3 : Int32) < 6 by decide, n10, h0, h1]⟩
      · have f0 : b_X1_isWord_28 (nI q) B 1 (nI 0) = some (.inr (.inr 0)) := by rw [p0, if_neg (fun z => h0 (z.trans (by decide)))]
        have Z : lp (b_X1_isWord_28 (nI q) B 1) 200 0 = some (.inr 0) := lp_o 199 f0
        exact ⟨0, Or.inl rfl, by simp only [f_X1_isWord, ek', ↓reduceIte, show decide (1 < 3) = true by decide, gd_t, e1, if_pos l1, Z, Option.bind_some, Sum.elim_inr], by simp only [f_X4_isWord, ek, ↓reduceIte, e1, l2, Option.bind_some, j0', m0', t0', gd_t, i1, j1, m1, t1, i2, j2, m2, t2, show (3 : Int32) < 4 by decide, show (3 : Int32) < 6 by decide, n10, h0]⟩
    · have l1 : ¬ nI (r - q) = jshr (strN 1) 0 := by
        rw [show jshr (strN 1) 0 = nI 3 by decide]
        exact nI_lit (by omega) (by decide) c2
      have l2 : ¬ nI (r - q) = 3 := nI_lit (b := 3) (by omega) (by decide) c2
      refine ⟨0, Or.inl rfl, by simp only [f_X1_isWord, ek', ↓reduceIte, show decide (1 < 3) = true by decide, gd_t, e1, if_neg l1], ?_⟩
      simp only [f_X4_isWord, ek, ↓reduceIte, e1, Option.bind_some, l2, n10]
  · have l1 : ¬ nI k = 1 := nI_lit (b := 1) (by omega) (by decide) c
    have l2 := kr_1 (q := q) (r := r) hk c
    refine ⟨0, Or.inl rfl, by simp only [f_X1_isWord, if_neg l1], ?_⟩
    simp only [f_X4_isWord, if_neg l2, ↓reduceIte, Option.bind_some]
theorem word_holder {n : Nat} {C : Nat → Nat} {B T : Nat → Int32} (X : TX n C B T) {q r k : Nat} (hk : k ≤ 4) (hr : r ≤ n) (hqr : q ≤ r) : ∃ b : Int32, (b = 0 ∨ b = 1) ∧ f_X1_isWord (nI q) (nI r) (nI k) B 2 = some b ∧ f_X4_isWord (nI r) (nI (kr k q r)) (nI q) T 104 111 108 100 101 114 = some b := by
  have hn := X.1
  have e1 : nI r - nI q = nI (r - q) := pk_sub hqr
  by_cases c : k = 1
  · subst c
    have ek : nI (kr 1 q r) = 1 := rfl
    have ek' : nI 1 = 1 := rfl
    by_cases c2 : r - q = 6
    · have l1 : nI (r - q) = jshr (strN 2) 0 := by rw [c2]; decide
      have l2 : nI (r - q) = 6 := by rw [c2]; rfl
      have hr' : q + 6 ≤ n := by omega
      have t0 : T (q + 0) = nI (C (q + 0)) := (X.2 (q + 0) (by omega)).2.2
      have p0 := cw_step X (q := q) (w := 2) (i := 0) (by decide) (by decide) (by omega)
      have j0 : inb (nI (q + 0)) 150 = true := inb_nI (by omega) (by decide)
      have m0 : (nI (q + 0)).toNatClampNeg = q + 0 := nI_clamp (by omega)
      have t1 : T (q + 1) = nI (C (q + 1)) := (X.2 (q + 1) (by omega)).2.2
      have p1 := cw_step X (q := q) (w := 2) (i := 1) (by decide) (by decide) (by omega)
      have i1 : nI q + 1 = nI (q + 1) := nI_add q 1
      have j1 : inb (nI (q + 1)) 150 = true := inb_nI (by omega) (by decide)
      have m1 : (nI (q + 1)).toNatClampNeg = q + 1 := nI_clamp (by omega)
      have t2 : T (q + 2) = nI (C (q + 2)) := (X.2 (q + 2) (by omega)).2.2
      have p2 := cw_step X (q := q) (w := 2) (i := 2) (by decide) (by decide) (by omega)
      have i2 : nI q + 2 = nI (q + 2) := nI_add q 2
      have j2 : inb (nI (q + 2)) 150 = true := inb_nI (by omega) (by decide)
      have m2 : (nI (q + 2)).toNatClampNeg = q + 2 := nI_clamp (by omega)
      have t3 : T (q + 3) = nI (C (q + 3)) := (X.2 (q + 3) (by omega)).2.2
      have p3 := cw_step X (q := q) (w := 2) (i := 3) (by decide) (by decide) (by omega)
      have i3 : nI q + 3 = nI (q + 3) := nI_add q 3
      have j3 : inb (nI (q + 3)) 150 = true := inb_nI (by omega) (by decide)
      have m3 : (nI (q + 3)).toNatClampNeg = q + 3 := nI_clamp (by omega)
      have t4 : T (q + 4) = nI (C (q + 4)) := (X.2 (q + 4) (by omega)).2.2
      have p4 := cw_step X (q := q) (w := 2) (i := 4) (by decide) (by decide) (by omega)
      have i4 : nI q + 4 = nI (q + 4) := nI_add q 4
      have j4 : inb (nI (q + 4)) 150 = true := inb_nI (by omega) (by decide)
      have m4 : (nI (q + 4)).toNatClampNeg = q + 4 := nI_clamp (by omega)
      have t5 : T (q + 5) = nI (C (q + 5)) := (X.2 (q + 5) (by omega)).2.2
      have p5 := cw_step X (q := q) (w := 2) (i := 5) (by decide) (by decide) (by omega)
      have i5 : nI q + 5 = nI (q + 5) := nI_add q 5
      have j5 : inb (nI (q + 5)) 150 = true := inb_nI (by omega) (by decide)
      have m5 : (nI (q + 5)).toNatClampNeg = q + 5 := nI_clamp (by omega)
      have j0' : inb (nI q) 150 = true := j0
      have m0' : (nI q).toNatClampNeg = q := m0
      have t0' : T q = nI (C (q + 0)) := t0
      by_cases h0 : nI (C (q + 0)) = 104
      · have s0 : b_X1_isWord_28 (nI q) B 2 (nI 0) = some (.inl (nI 1)) := by rw [p0, if_pos (h0.trans (by decide))]
        by_cases h1 : nI (C (q + 1)) = 111
        · have s1 : b_X1_isWord_28 (nI q) B 2 (nI 1) = some (.inl (nI 2)) := by rw [p1, if_pos (h1.trans (by decide))]
          by_cases h2 : nI (C (q + 2)) = 108
          · have s2 : b_X1_isWord_28 (nI q) B 2 (nI 2) = some (.inl (nI 3)) := by rw [p2, if_pos (h2.trans (by decide))]
            by_cases h3 : nI (C (q + 3)) = 100
            · have s3 : b_X1_isWord_28 (nI q) B 2 (nI 3) = some (.inl (nI 4)) := by rw [p3, if_pos (h3.trans (by decide))]
              by_cases h4 : nI (C (q + 4)) = 101
              · have s4 : b_X1_isWord_28 (nI q) B 2 (nI 4) = some (.inl (nI 5)) := by rw [p4, if_pos (h4.trans (by decide))]
                by_cases h5 : nI (C (q + 5)) = 114
                · have s5 : b_X1_isWord_28 (nI q) B 2 (nI 5) = some (.inl (nI 6)) := by rw [p5, if_pos (h5.trans (by decide))]
                  have Z : lp (b_X1_isWord_28 (nI q) B 2) 200 0 = some (.inl ()) := (lp_i 199 s0).trans <| (lp_i 198 s1).trans <| (lp_i 197 s2).trans <| (lp_i 196 s3).trans <| (lp_i 195 s4).trans <| (lp_i 194 s5).trans <| lp_o 193 (cw_end (nI q)).2.2
                  exact ⟨1, Or.inr rfl, by simp only [f_X1_isWord, ek', ↓reduceIte, show decide (2 < 3) = true by decide, gd_t, e1, if_pos l1, Z, Option.bind_some, Sum.elim_inl], by simp only [f_X4_isWord, ek, ↓reduceIte, e1, l2, Option.bind_some, j0', m0', t0', gd_t, i1, j1, m1, t1, i2, j2, m2, t2, i3, j3, m3, t3, i4, j4, m4, t4, i5, j5, m5, t5, show ¬ (100 : Int32) = 0 by decide, show ¬ (101 : Int32) = 0 by decide, show ¬ (6 : Int32) < 4 by decide, show ¬ (6 : Int32) < 6 by decide, n10, h0, h1, h2, h3, h4, h5]⟩
                · have f5 : b_X1_isWord_28 (nI q) B 2 (nI 5) = some (.inr (.inr 0)) := by rw [p5, if_neg (fun z => h5 (z.trans (by decide)))]
                  have Z : lp (b_X1_isWord_28 (nI q) B 2) 200 0 = some (.inr 0) := (lp_i 199 s0).trans <| (lp_i 198 s1).trans <| (lp_i 197 s2).trans <| (lp_i 196 s3).trans <| (lp_i 195 s4).trans <| lp_o 194 f5
                  exact ⟨0, Or.inl rfl, by simp only [f_X1_isWord, ek', ↓reduceIte, show decide (2 < 3) = true by decide, gd_t, e1, if_pos l1, Z, Option.bind_some, Sum.elim_inr], by simp only [f_X4_isWord, ek, ↓reduceIte, e1, l2, Option.bind_some, j0', m0', t0', gd_t, i1, j1, m1, t1, i2, j2, m2, t2, i3, j3, m3, t3, i4, j4, m4, t4, i5, j5, m5, t5, show ¬ (100 : Int32) = 0 by decide, show ¬ (101 : Int32) = 0 by decide, show ¬ (6 : Int32) < 4 by decide, show ¬ (6 : Int32) < 6 by decide, n10, h0, h1, h2, h3, h4, h5]⟩
              · have f4 : b_X1_isWord_28 (nI q) B 2 (nI 4) = some (.inr (.inr 0)) := by rw [p4, if_neg (fun z => h4 (z.trans (by decide)))]
                have Z : lp (b_X1_isWord_28 (nI q) B 2) 200 0 = some (.inr 0) := (lp_i 199 s0).trans <| (lp_i 198 s1).trans <| (lp_i 197 s2).trans <| (lp_i 196 s3).trans <| lp_o 195 f4
                exact ⟨0, Or.inl rfl, by simp only [f_X1_isWord, ek', ↓reduceIte, show decide (2 < 3) = true by decide, gd_t, e1, if_pos l1, Z, Option.bind_some, Sum.elim_inr], by simp only [f_X4_isWord, ek, ↓reduceIte, e1, l2, Option.bind_some, j0', m0', t0', gd_t, i1, j1, m1, t1, i2, j2, m2, t2, i3, j3, m3, t3, i4, j4, m4, t4, i5, j5, m5, t5, show ¬ (100 : Int32) = 0 by decide, show ¬ (101 : Int32) = 0 by decide, show ¬ (6 : Int32) < 4 by decide, show ¬ (6 : Int32) < 6 by decide, n10, h0, h1, h2, h3, h4]⟩
            · have f3 : b_X1_isWord_28 (nI q) B 2 (nI 3) = some (.inr (.inr 0)) := by rw [p3, if_neg (fun z => h3 (z.trans (by decide)))]
              have Z : lp (b_X1_isWord_28 (nI q) B 2) 200 0 = some (.inr 0) := (lp_i 199 s0).trans <| (lp_i 198 s1).trans <| (lp_i 197 s2).trans <| lp_o 196 f3
              exact ⟨0, Or.inl rfl, by simp only [f_X1_isWord, ek', ↓reduceIte, show decide (2 < 3) = true by decide, gd_t, e1, if_pos l1, Z, Option.bind_some, Sum.elim_inr], by simp only [f_X4_isWord, ek, ↓reduceIte, e1, l2, Option.bind_some, j0', m0', t0', gd_t, i1, j1, m1, t1, i2, j2, m2, t2, i3, j3, m3, t3, i4, j4, m4, t4, i5, j5, m5, t5, show ¬ (100 : Int32) = 0 by decide, show ¬ (101 : Int32) = 0 by decide, show ¬ (6 : Int32) < 4 by decide, show ¬ (6 : Int32) < 6 by decide, n10, h0, h1, h2, h3]⟩
          · have f2 : b_X1_isWord_28 (nI q) B 2 (nI 2) = some (.inr (.inr 0)) := by rw [p2, if_neg (fun z => h2 (z.trans (by decide)))]
            have Z : lp (b_X1_isWord_28 (nI q) B 2) 200 0 = some (.inr 0) := (lp_i 199 s0).trans <| (lp_i 198 s1).trans <| lp_o 197 f2
            exact ⟨0, Or.inl rfl, by simp only [f_X1_isWord, ek', ↓reduceIte, show decide (2 < 3) = true by decide, gd_t, e1, if_pos l1, Z, Option.bind_some, Sum.elim_inr], by simp only [f_X4_isWord, ek, ↓reduceIte, e1, l2, Option.bind_some, j0', m0', t0', gd_t, i1, j1, m1, t1, i2, j2, m2, t2, i3, j3, m3, t3, i4, j4, m4, t4, i5, j5, m5, t5, show ¬ (100 : Int32) = 0 by decide, show ¬ (101 : Int32) = 0 by decide, show ¬ (6 : Int32) < 4 by decide, show ¬ (6 : Int32) < 6 by decide, n10, h0, h1, h2]⟩
        · have f1 : b_X1_isWord_28 (nI q) B 2 (nI 1) = some (.inr (.inr 0)) := by rw [p1, if_neg (fun z => h1 (z.trans (by decide)))]
          have Z : lp (b_X1_isWord_28 (nI q) B 2) 200 0 = some (.inr 0) := (lp_i 199 s0).trans <| lp_o 198 f1
          exact ⟨0, Or.inl rfl, by simp only [f_X1_isWord, ek', ↓reduceIte, show decide (2 < 3) = true by decide, gd_t, e1, if_pos l1, Z, Option.bind_some, Sum.elim_inr], by simp only [f_X4_isWord, ek, ↓reduceIte, e1, l2, Option.bind_some, j0', m0', t0', gd_t, i1, j1, m1, t1, i2, j2, m2, t2, i3, j3, m3, t3, i4, j4, m4, t4, i5, j5, m5, t5, show ¬ (100 : Int32) = 0 by decide, show ¬ (101 : Int32) = 0 by decide, show ¬ (6 : Int32) < 4 by decide, show ¬ (6 : Int32) < 6 by decide, n10, h0, h1]⟩
      · have f0 : b_X1_isWord_28 (nI q) B 2 (nI 0) = some (.inr (.inr 0)) := by rw [p0, if_neg (fun z => h0 (z.trans (by decide)))]
        have Z : lp (b_X1_isWord_28 (nI q) B 2) 200 0 = some (.inr 0) := lp_o 199 f0
        exact ⟨0, Or.inl rfl, by simp only [f_X1_isWord, ek', ↓reduceIte, show decide (2 < 3) = true by decide, gd_t, e1, if_pos l1, Z, Option.bind_some, Sum.elim_inr], by simp only [f_X4_isWord, ek, ↓reduceIte, e1, l2, Option.bind_some, j0', m0', t0', gd_t, i1, j1, m1, t1, i2, j2, m2, t2, i3, j3, m3, t3, i4, j4, m4, t4, i5, j5, m5, t5, show ¬ (100 : Int32) = 0 by decide, show ¬ (101 : Int32) = 0 by decide, show ¬ (6 : Int32) < 4 by decide, show ¬ (6 : Int32) < 6 by decide, n10, h0]⟩
    · have l1 : ¬ nI (r - q) = jshr (strN 2) 0 := by
        rw [show jshr (strN 2) 0 = nI 6 by decide]
        exact nI_lit (by omega) (by decide) c2
      have l2 : ¬ nI (r - q) = 6 := nI_lit (b := 6) (by omega) (by decide) c2
      refine ⟨0, Or.inl rfl, by simp only [f_X1_isWord, ek', ↓reduceIte, show decide (2 < 3) = true by decide, gd_t, e1, if_neg l1], ?_⟩
      simp only [f_X4_isWord, ek, ↓reduceIte, e1, Option.bind_some, l2, n10, show ¬ (100 : Int32) = 0 by decide, show ¬ (101 : Int32) = 0 by decide]
  · have l1 : ¬ nI k = 1 := nI_lit (b := 1) (by omega) (by decide) c
    have l2 := kr_1 (q := q) (r := r) hk c
    refine ⟨0, Or.inl rfl, by simp only [f_X1_isWord, if_neg l1], ?_⟩
    simp only [f_X4_isWord, if_neg l2, ↓reduceIte, Option.bind_some, show ¬ (100 : Int32) = 0 by decide, show ¬ (101 : Int32) = 0 by decide]
