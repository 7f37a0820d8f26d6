def df (T s : Nat) : Nat := T - (T &&& s)
theorem df_bit : ∀ T, T < 64 → ∀ s, s < 64 → ∀ j, j < 6 → (df T s).testBit j = (T.testBit j && !s.testBit j) := by decide +kernel
theorem df_n : ∀ T, T < 64 → ∀ s, s < 64 → nI T &&& (nI s ^^^ -1) = nI (df T s) ∧ df T s < 64 ∧ (nI s &&& (nI T ^^^ -1) = 0 ↔ s &&& T = s) ∧ (s &&& T = s → s ≤ T) := by decide +kernel
theorem eq_bits : ∀ a, a < 64 → ∀ b, b < 64 → (∀ j, j < 6 → a.testBit j = b.testBit j) → a = b := by decide +kernel
theorem tm_CW (P : Nat → Int32) {s : Nat} (hs : s < 64) : tm (CW P s) = df (tm P) s := by
  refine eq_bits _ (tm_lt _) _ (df_n _ (tm_lt P) s hs).2.1 (fun j hj => ?_)
  rw [df_bit _ (tm_lt P) s hs j hj]
  apply Bool.eq_iff_iff.mpr
  rw [tm_bit _ j hj]
  by_cases q : s.testBit j = true
  · simp [CW, q]
  · have q' : s.testBit j = false := by simpa using q
    have := tm_bit P j hj
    simp only [CW, q', Bool.false_eq_true, if_false, Bool.not_false, Bool.and_true]
    exact this.symm
def LB (P : Nat → Int32) (e : Nat) : Nat → Int32
  | 0 => -1
  | s + 1 => if (s &&& tm P = s ∧ e < pop (df (tm P) s) ∧ agb (CW P s) e = true) ∧ (LB P e s = -1 ∨ pop s < pop (LB P e s).toNatClampNeg) then nI s else LB P e s
theorem LB_cases (P : Nat → Int32) (e : Nat) : ∀ s, LB P e s = -1 ∨ ∃ b, b < s ∧ LB P e s = nI b
  | 0 => Or.inl rfl
  | s + 1 => by
    simp only [LB]
    split
    · exact Or.inr ⟨s, by omega, rfl⟩
    · rcases LB_cases P e s with h | ⟨b, hb, h⟩
      · exact Or.inl h
      · exact Or.inr ⟨b, by omega, h⟩
theorem LB_end (P : Nat → Int32) (e : Nat) : ∀ i, tm P + 1 + i ≤ 64 → LB P e (tm P + 1 + i) = LB P e (tm P + 1)
  | 0, _ => rfl
  | i + 1, h => by
    rw [← LB_end P e i (by omega), show tm P + 1 + (i + 1) = (tm P + 1 + i) + 1 by omega]
    simp only [LB]
    rw [if_neg]
    intro q
    have := (df_n _ (tm_lt P) (tm P + 1 + i) (by omega)).2.2.2 q.1.1
    omega
theorem LB_yes {P : Nat → Int32} {e s : Nat} (h : (s &&& tm P = s ∧ e < pop (df (tm P) s) ∧ agb (CW P s) e = true)) (h2 : LB P e s = -1 ∨ pop s < pop (LB P e s).toNatClampNeg) : LB P e (s + 1) = nI s := by
  simp only [LB]
  rw [if_pos ⟨h, h2⟩]
theorem LB_no {P : Nat → Int32} {e s : Nat} (h : ¬ (s &&& tm P = s ∧ e < pop (df (tm P) s) ∧ agb (CW P s) e = true)) : LB P e (s + 1) = LB P e s := by
  simp only [LB]
  rw [if_neg (fun q => h q.1)]
theorem LB_no2 {P : Nat → Int32} {e s : Nat} (h : ¬ (LB P e s = -1 ∨ pop s < pop (LB P e s).toNatClampNeg)) : LB P e (s + 1) = LB P e s := by
  simp only [LB]
  rw [if_neg (fun q => h q.2)]
theorem CW_tv {P : Nat → Int32} (hP : ∀ j, j < 6 → tv (P j)) (m : Nat) : ∀ j, j < 6 → tv (CW P m j) := by
  intro j hj
  unfold CW
  split
  · exact Or.inl rfl
  · exact hP j hj
theorem v_liars {P : Nat → Int32} (hP : ∀ j, j < 6 → tv (P j)) {e : Nat} (he : 1 ≤ e) (he4 : e ≤ 4) (row : Nat → Int32) : ∃ r : Nat → Int32, f_X2_liarBits P row (nI e) = some (LB P e (tm P + 1), r) := by
  have hT := tm_lt P
  obtain ⟨r, q1, q2⟩ := lp_ind (body := b_X2_liarBits_11 P (nI e) (nI (tm P))) (fun x => ∃ s, s ≤ tm P + 1 ∧ x.2.1 = nI s ∧ x.1 = LB P e s) (fun r => r.1 = LB P e (tm P + 1)) (fun x => 65 - x.2.1.toNatClampNeg) (by
    rintro ⟨b, p, rw0⟩ ⟨s, hs, rfl, rfl⟩
    by_cases z : s = tm P + 1
    · right
      subst z
      have k1 : nI (tm P) < nI (tm P + 1) := nI_lt (by omega) (by omega)
      exact ⟨(LB P e (tm P + 1), rw0), by simp only [b_X2_liarBits_11, if_pos k1], rfl⟩
    · left
      have hs64 : s < 64 := by omega
      have k1 : ¬ nI (tm P) < nI s := nI_nlt (by omega) (by omega)
      have hμ : 65 - (nI (s + 1)).toNatClampNeg < 65 - (nI s).toNatClampNeg := by
        rw [nI_clamp (by omega), nI_clamp (by omega)]
        omega
      obtain ⟨d1, d2, d3, d4⟩ := df_n _ hT s hs64
      have hps := pop_le s hs64
      have hpd := pop_le _ d2
      -- whether a smaller set is looked for
      have key : ∀ y : Int32, (LB P e s = -1 ∨ pop s < pop (LB P e s).toNatClampNeg → y = 1) → (¬ (LB P e s = -1 ∨ pop s < pop (LB P e s).toNatClampNeg) → y = 0) → ∃ s' : Int32 × Int32 × (Nat → Int32), (if y = 0 then some (Sum.inl (LB P e s, nI s + 1, rw0)) else (if (nI s &&& (nI (tm P) ^^^ -1)) = 0 then ((f_J6_bitCount_0f7a4 (nI (tm P) &&& (nI s ^^^ -1))).bind (fun o5 => if o5 ≤ nI e then (some (Sum.inl (LB P e s, nI s + 1, rw0))) else ((f_X2_copyWithout rw0 P (nI s)).bind (fun o6 => (f_X2_agreesBy o6 (nI e)).bind (fun o7 => if o7 = 0 then (some (Sum.inl (LB P e s, nI s + 1, o6))) else (some (Sum.inl (nI s, nI s + 1, o6)))))))) else (some (Sum.inl (LB P e s, nI s + 1, rw0)))) : Option ((Int32 × Int32 × (Nat → Int32)) ⊕ (Int32 × (Nat → Int32)))) = some (Sum.inl s') ∧ (∃ s1, s1 ≤ tm P + 1 ∧ s'.2.1 = nI s1 ∧ s'.1 = LB P e s1) ∧ 65 - s'.2.1.toNatClampNeg < 65 - (nI s).toNatClampNeg := by
        intro y h1 h0
        simp only [nI_1]
        by_cases c : LB P e s = -1 ∨ pop s < pop (LB P e s).toNatClampNeg
        · rw [h1 c, if_neg n10]
          by_cases c1 : s &&& tm P = s
          · rw [if_pos (d3.mpr c1), d1, v_bitCount _ d2, Option.bind_some]
            by_cases c2 : e < pop (df (tm P) s)
            · have w := v_agreesBy (w := fa_fill (CW P s) rw0 6) (fill_tv (CW_tv hP s)) he he4
              have hc : ∀ j, j < 6 → fa_fill (CW P s) rw0 6 j = CW P s j := fill6 _ _
              rw [tm_congr hc, tm_CW P hs64, agb_congr hc he4] at w
              rw [if_neg (nI_ge c2 (by omega)), v_copyWithout hs64, Option.bind_some, w, Option.bind_some]
              by_cases c3 : agb (CW P s) e = true
              · rw [if_pos (show e ≤ pop (df (tm P) s) ∧ agb (CW P s) e = true from ⟨by omega, c3⟩), if_neg n10]
                exact ⟨_, rfl, ⟨s + 1, by omega, rfl, (LB_yes ⟨c1, c2, c3⟩ c).symm⟩, hμ⟩
              · rw [if_neg (show ¬ (e ≤ pop (df (tm P) s) ∧ agb (CW P s) e = true) from fun z => c3 z.2), if_pos rfl]
                exact ⟨_, rfl, ⟨s + 1, by omega, rfl, (LB_no (fun z => c3 z.2.2)).symm⟩, hμ⟩
            · rw [if_pos (nI_le (by omega) (by omega))]
              exact ⟨_, rfl, ⟨s + 1, by omega, rfl, (LB_no (fun z => c2 z.2.1)).symm⟩, hμ⟩
          · rw [if_neg (fun z => c1 (d3.mp z))]
            exact ⟨_, rfl, ⟨s + 1, by omega, rfl, (LB_no (fun z => c1 z.1)).symm⟩, hμ⟩
        · rw [h0 c, if_pos rfl]
          exact ⟨_, rfl, ⟨s + 1, by omega, rfl, (LB_no2 c).symm⟩, hμ⟩
      rcases LB_cases P e s with c | ⟨b, hb, c⟩
      · obtain ⟨s', w1, w2, w3⟩ := key 1 (fun _ => rfl) (fun z => absurd (Or.inl c) z)
        refine ⟨s', ?_, w2, w3⟩
        simp only [b_X2_liarBits_11, if_neg k1, if_pos c, Option.bind_some]
        exact w1
      · have hb64 : b < 64 := by omega
        have nb : ¬ LB P e s = -1 := by rw [c]; intro z; have := congrArg Int32.toInt z; rw [nI_toInt (by omega)] at this; have e1 : (-1 : Int32).toInt = -1 := by decide
                                        omega
        have cb : (LB P e s).toNatClampNeg = b := by rw [c, nI_clamp (by omega)]
        have hpb := pop_le b hb64
        have B1 : f_J6_bitCount_0f7a4 (LB P e s) = some (nI (pop b)) := by rw [c]; exact v_bitCount b hb64
        by_cases c2 : pop b ≤ pop s
        · have c3 : ¬ (LB P e s = -1 ∨ pop s < pop (LB P e s).toNatClampNeg) := fun z => by
            rcases z with z | z
            · exact nb z
            · rw [cb] at z
              omega
          obtain ⟨s', w1, w2, w3⟩ := key 0 (fun z => absurd z c3) (fun _ => rfl)
          refine ⟨s', ?_, w2, w3⟩
          have l1 : nI (pop b) ≤ nI (pop s) := nI_le c2 (by omega)
          simp only [b_X2_liarBits_11, if_neg k1, if_neg nb, v_bitCount s hs64, B1, Option.bind_some, if_pos l1]
          exact w1
        · obtain ⟨s', w1, w2, w3⟩ := key 1 (fun _ => rfl) (fun z => absurd (Or.inr (by rw [cb]; omega)) z)
          refine ⟨s', ?_, w2, w3⟩
          have l1 : ¬ nI (pop b) ≤ nI (pop s) := nI_ge (by omega) (by omega)
          simp only [b_X2_liarBits_11, if_neg k1, if_neg nb, v_bitCount s hs64, B1, Option.bind_some, if_neg l1]
          exact w1) 200 (-1, 0, row) ⟨0, by omega, rfl, rfl⟩ (by show 65 - (0 : Int32).toNatClampNeg < 200; omega)
  refine ⟨r.2, ?_⟩
  simp only [f_X2_liarBits, v_bits, Option.bind_some, q1]
  rw [q2]
