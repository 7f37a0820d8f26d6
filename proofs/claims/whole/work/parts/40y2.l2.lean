/-- the items after the first, on both sides -/
theorem loop_both {n : Nat} {C : Nat → Nat} {B T : Nat → Int32} (X : TX n C B T) {does N E : Nat} {st0 told past ahd : Nat → Int32} (um : Int32) (o1 : Int32 × Int32 × Int32 × Int32 × Int32 × Int32 × Int32 × Int32 × Int32 × Int32 × Int32 × (Nat → Int32) × (Nat → Int32))
    {q r k v : Nat} {kinds extras fac st row : Nat → Int32} (hq : q ≤ r) (hr : r ≤ n) (hk : k ≤ 4) (hk0 : k ≠ 0 → q < r) (D : DR does st0 N E 0 kinds extras fac told past ahd st) :
    ∃ res res', lp (b_X1_parseInto_23 (nI n) B o1) 200 (1, 0, nI q, nI r, nI k, 0, kinds, extras, fac) = some res ∧ lp (b_X4_readText_16 (nI n) T (nI does)) 199 (1, nI r, nI (kr k q r), nI v, nI q, 0, um, st, row) = some res' ∧
      ((∃ (m h : Nat) (a b c a' b' c' d' : Int32) (kinds' extras' fac' st' row' : Nat → Int32), 1 ≤ m ∧ m ≤ 151 ∧ res = .inl (nI m, a, b, c, nI h, kinds', extras', fac') ∧ res' = .inl (nI m, a', b', c', d', nI h, um, st', row') ∧ DR does st0 N E h kinds' extras' fac' told past ahd st') ∨
       (∃ (q' : Nat) (z : Int32 × Int32 × Int32 × Int32 × Int32 × Int32 × Int32 × Int32 × Int32 × (Nat → Int32) × (Nat → Int32) × (Nat → Int32) × (Nat → Int32)) (a b c d e : Int32) (f g : Nat → Int32), q' ≤ n ∧ (does = 0 → f = st0 ∧ e = um) ∧ res = .inr (-1, nI q', z) ∧ res' = .inr (-1, a, b, c, nI q', d, e, f, g))) := by
  have hn := X.1
  refine lp_rel (b1 := b_X1_parseInto_23 (nI n) B o1) (b2 := b_X4_readText_16 (nI n) T (nI does)) (fun x y => ∃ (q r k v h m : Nat) (kinds extras fac st row : Nat → Int32), q ≤ r ∧ r ≤ n ∧ k ≤ 4 ∧ (k ≠ 0 → q < r) ∧ h ≤ 6 ∧ m ≤ q ∧ DR does st0 N E h kinds extras fac told past ahd st ∧ x = (nI (m + 1), nI m, nI q, nI r, nI k, nI h, kinds, extras, fac) ∧ y = (nI (m + 1), nI r, nI (kr k q r), nI v, nI q, nI h, um, st, row)) _ (fun x => 151 - x.2.2.1.toNatClampNeg) ?_ 200 199 (1, 0, nI q, nI r, nI k, 0, kinds, extras, fac) (1, nI r, nI (kr k q r), nI v, nI q, 0, um, st, row) ⟨q, r, k, v, 0, 0, kinds, extras, fac, st, row, hq, hr, hk, hk0, by omega, by omega, D, rfl, rfl⟩ (by show 151 - (nI q).toNatClampNeg < 200; omega) (by show 151 - (nI q).toNatClampNeg < 199; omega)
  rintro x y ⟨q, r, k, v, h, m, kinds, extras, fac, st, row, hq, hr, hk, hk0, h6, hm, D, rfl, rfl⟩
  have x0 : ¬ nI (m + 1) = 0 := nI_ne0 (by omega) (by omega)
  by_cases c : k = 0
  · right
    have k1 : nI k = 0 := by rw [c]; rfl
    have k2 := (kr_3 (q := q) (r := r) hk).mpr c
    refine ⟨.inl (nI (m + 1), nI q, nI r, nI k, nI h, kinds, extras, fac), .inl (nI (m + 1), nI r, nI (kr k q r), nI v, nI q, nI h, um, st, row), ?_, ?_, Or.inl ⟨m + 1, h, nI q, nI r, nI k, nI r, nI (kr k q r), nI v, nI q, kinds, extras, fac, st, row, by omega, by omega, rfl, rfl, D⟩⟩
    · simp only [b_X1_parseInto_23, if_pos k1]
      split <;> rfl
    · simp only [b_X4_readText_16, if_neg x0, if_pos k2]
  · have hqr := hk0 c
    have k1 : ¬ nI k = 0 := nI_ne0 (by omega) (by omega)
    have k2 : ¬ nI (kr k q r) = 3 := fun z => c ((kr_3 hk).mp z)
    have k3 : ¬ (150 : Int32) ≤ nI m := nI_ge (a := m) (b := 150) (by omega) (by decide)
    rcases other_item X hq hr hk h6 (row := row) um (nI v) (nI (m + 1)) x0 D with ⟨q', z, a, b, c', d, e, f, g, p1, pz, p2, p3⟩ | ⟨q', r', h', ct, a, kinds', extras', fac', st', row', p1, p2, p3, p4, p5, p6⟩
    · right
      refine ⟨.inr (-1, nI q', z.1, z.2.1, o1.2.2.2.2.1, o1.2.2.2.2.2.1, z.2.2.1, o1.2.2.2.2.2.2.2.1, o1.2.2.2.2.2.2.2.2.1, o1.2.2.2.2.2.2.2.2.2.1, o1.2.2.2.2.2.2.2.2.2.2.1, z.2.2.2.1, z.2.2.2.2.1, z.2.2.2.2.2, o1.2.2.2.2.2.2.2.2.2.2.2.2), .inr (-1, a, b, c', nI q', d, e, f, g), ?_, ?_, Or.inr ⟨q', _, a, b, c', d, e, f, g, p1, pz, rfl, rfl⟩⟩
      · simp only [b_X1_parseInto_23, if_neg k3, if_neg k1, p2, Option.bind_some, ↓reduceIte]
      · rw [body_next x0 k2]
        exact p3
    · left
      obtain ⟨q2, r2, k4, v2, t1, t2, t3, t4, A, F, _, t5, _, _⟩ := tok X p2
      refine ⟨(nI (m + 1 + 1), nI (m + 1), nI q2, nI r2, nI k4, nI h', kinds', extras', fac'), (nI (m + 1 + 1), nI r2, nI (kr k4 q2 r2), nI v2, nI q2, nI h', um, st', row'), ?_, ?_, ⟨q2, r2, k4, v2, h', m + 1, kinds', extras', fac', st', row', t2, t3, t4, t5, p3, by omega, p5, rfl, rfl⟩, ?_⟩
      · simp only [b_X1_parseInto_23, if_neg k3, if_neg k1, p4, Option.bind_some, n10, ↓reduceIte, A, nI_1]
      · rw [body_next x0 k2]
        have := p6 q2 r2 (kr k4 q2 r2) v2 F
        rw [nI_1] at this
        exact this
      · show 151 - (nI q2).toNatClampNeg < 151 - (nI q).toNatClampNeg
        rw [nI_clamp (by omega), nI_clamp (by omega)]
        omega
