/-- the holder item after its word -/
theorem holder_item {n : Nat} {C : Nat → Nat} {B T : Nat → Int32} (X : TX n C B T) {q r k h does N E : Nat} (hq : q ≤ r) (hr : r ≤ n) (hk : k ≤ 4) (h6 : h ≤ 6) {st0 kinds extras fac told past ahd st row : Nat → Int32} (um vl x21 : Int32) (hx : ¬ x21 = 0) (D : DR does st0 N E h kinds extras fac told past ahd st)
    (hw0 : f_X1_isWord (nI q) (nI r) (nI k) B 1 = some 0) (hv0 : f_X4_isWord (nI r) (nI (kr k q r)) (nI q) T 119 97 121 0 0 0 = some 0) (hw1 : f_X1_isWord (nI q) (nI r) (nI k) B 2 = some 1) (hw2 : f_X4_isWord (nI r) (nI (kr k q r)) (nI q) T 104 111 108 100 101 114 = some 1) :
    (∃ (q' : Nat) (z : Int32 × Int32 × Int32 × (Nat → Int32) × (Nat → Int32) × (Nat → Int32)) (a b c d e : Int32) (f g : Nat → Int32), q' ≤ n ∧ (does = 0 → f = st0 ∧ e = um) ∧ f_X1_readOtherItem (nI n) (nI q) (nI r) (nI k) B (nI h) kinds extras fac = some (0, nI q', z) ∧ (f_X4_readItem (nI n) (nI r) (nI (kr k q r)) vl (nI q) (nI h) um st T row x21 (nI does)).bind (TL (nI n) T x21) = some (.inr (.inr (-1, a, b, c, nI q', d, e, f, g)))) ∨
    (∃ (q' r' h' : Nat) (ct a : Int32) (kinds' extras' fac' st' row' : Nat → Int32), r < r' ∧ r' ≤ n ∧ h' ≤ 6 ∧ f_X1_readOtherItem (nI n) (nI q) (nI r) (nI k) B (nI h) kinds extras fac = some (1, nI q', nI r', ct, nI h', kinds', extras', fac') ∧ DR does st0 N E h' kinds' extras' fac' told past ahd st' ∧
      ∀ q2 r2 k2 v2 : Nat, (∀ tk vl bg : Int32, f_X4_nextToken (nI n) (nI r') tk vl bg T = some (nI r2, nI k2, nI v2, nI q2)) → (f_X4_readItem (nI n) (nI r) (nI (kr k q r)) vl (nI q) (nI h) um st T row x21 (nI does)).bind (TL (nI n) T x21) = some (.inl (x21 + 1, nI r2, nI k2, nI v2, nI q2, nI h', um, st', row'))) := by
  have hn := X.1
  have hdoes : does = 0 ∨ does = 1 := by
    rcases D with ⟨z, _⟩ | ⟨z, _⟩
    · exact Or.inl z
    · exact Or.inr z
  by_cases hf : h = 6
  · left
    subst hf
    have l1 : (6 : Int32) ≤ nI 6 := by decide
    have l2 : ¬ nI 6 < 6 := by decide
    refine ⟨q, (nI r, nI k, nI 6, kinds, extras, fac), nI r, nI (kr k q r), vl, nI 6 + 1, um, st, row, by omega, fun z => ⟨D.zero z, rfl⟩, ?_, ?_⟩
    · simp only [f_X1_readOtherItem, hw0, hw1, Option.bind_some, n10, ↓reduceIte, f_X0_isFull, if_neg l2]
    · simp only [f_X4_readItem, if_neg hx, hv0, hw2, Option.bind_some, n10, ↓reduceIte, if_pos l1, bz_0, gd_t]
      exact TL_0 rfl
  have hl : h < 6 := by omega
  have l1 : ¬ (6 : Int32) ≤ nI h := i6 hl
  have l2 : nI h < 6 := nI_lt (a := h) (b := 6) hl (by decide)
  have l3 : ¬ nI h < 0 := nI_pos (by omega)
  rcases two_both X hr 0 5 0 96 with ⟨q1, r1, ct, rt, vt, a1, a2, a3, A, Bq⟩ | ⟨q1, r1, v1, ct, rt, vt, a1, a2, a3, a4, a5, a6, A, Bq, q2, r2, v2, ct2, rt2, vt2, c1, c2, c3, c4⟩
  · left
    obtain ⟨row', Bq'⟩ := Bq (nI (kr k q r)) vl (nI q) row
    refine ⟨q1, (nI r1, ct, nI h, kinds, extras, fac), nI r1, rt, vt, nI h + 1, um, st, row', by omega, fun z => ⟨D.zero z, rfl⟩, ?_, ?_⟩
    · simp only [f_X1_readOtherItem, hw0, hw1, Option.bind_some, n10, ↓reduceIte, f_X0_isFull, if_pos l2, f_X1_readHolder, A]
    · simp only [f_X4_readItem, if_neg hx, hv0, hw2, Option.bind_some, n10, ↓reduceIte, if_neg l1, Bq', bz_0, gd_t]
      exact TL_0 rfl
  · have hv1 : v1 ≤ 5 := by
      obtain ⟨m, m3, m4⟩ := wi_n (N := 5) (v := nI v1) rfl (by decide) ⟨a4, a5⟩
      have : v1 = m := (nI_eq (by omega) (by omega)).mp m4
      omega
    have n1 : ¬ nI v1 = -1 := nm1 (by omega)
    rcases c4 with ⟨e1, e2, e3, e4, A2, B2⟩ | ⟨A2, B2⟩
    · obtain ⟨q3, r3, ct3, rt3, vt3, s1, s2, s3, N3, s4⟩ := stop_both X c3
      have hv2 : v2 ≤ 96 := by
        obtain ⟨m, m3, m4⟩ := wi_n (N := 96) (v := nI v2) rfl (by decide) ⟨e2, e3⟩
        have : v2 = m := (nI_eq (by omega) (by omega)).mp m4
        omega
      have n2 : ¬ nI v2 = -1 := nm1 (by omega)
      have PF : f_X0_addHolder (nI h) kinds extras (nI v1) (nI v2) = some (nI (h + 1), upd kinds h (nI v1), upd extras h (nI v2)) := by
        simp only [f_X0_addHolder, if_neg l1, if_neg l3, inb_nI hl (by decide), nI_clamp (show h < 2 ^ 31 by omega), gd_t, nI_1]
      have w0 : (upd (upd row 0 (nI v1)) 1 (nI v2)) 0 = nI v1 := by rw [pk_un (by decide), pk_us]
      have w1 : (upd (upd row 0 (nI v1)) 1 (nI v2)) 1 = nI v2 := pk_us
      have st2 : ∃ st', DR does st0 N E (h + 1) (upd kinds h (nI v1)) (upd extras h (nI v2)) fac told past ahd st' ∧ f_X4_readItem (nI n) (nI r) (nI (kr k q r)) vl (nI q) (nI h) um st T row x21 (nI does) = some (1, nI r2, rt2, vt2, nI q2, nI (h + 1), um, st', upd (upd row 0 (nI v1)) 1 (nI v2)) := by
        rcases D with ⟨rfl, hst⟩ | ⟨rfl, hS⟩
        · refine ⟨st, Or.inl ⟨rfl, hst⟩, ?_⟩
          simp only [f_X4_readItem, if_neg hx, hv0, hw2, Option.bind_some, n10, ↓reduceIte, if_neg l1, Bq, B2, bz_1, gd_t, show nI 0 = 0 from rfl, nI_1]
        · obtain ⟨P1, P2⟩ := hS.hold (h := h) (c := v1) (x := v2) rfl hl (by omega) (by omega) rfl
          refine ⟨_, Or.inr ⟨rfl, P2⟩, ?_⟩
          simp only [f_X4_readItem, if_neg hx, hv0, hw2, Option.bind_some, n10, ↓reduceIte, if_neg l1, Bq, B2, bz_1, gd_t, show ¬ nI 1 = 0 by decide, show inb (0 : Int32) 2 = true by decide, show inb (1 : Int32) 2 = true by decide, cl_0, cl_1, w0, w1, P1]
          rw [nI_1]
      obtain ⟨st', hD', RI⟩ := st2
      rcases s4 with ⟨t1, t2, t3⟩ | ⟨t2, t3⟩
      · right
        refine ⟨q3, r3, h + 1, ct3, 0, upd kinds h (nI v1), upd extras h (nI v2), fac, st', upd (upd row 0 (nI v1)) 1 (nI v2), by omega, s3, by omega, ?_, hD', fun q4 r4 k4 v4 N4 => ?_⟩
        · simp only [f_X1_readOtherItem, hw0, hw1, Option.bind_some, n10, ↓reduceIte, f_X0_isFull, if_pos l2, f_X1_readHolder, A, if_neg n1, A2, if_neg n2, PF, t3, bz_1, gd_t]
        · rw [RI, Option.bind_some]
          exact TL_ok n10 (N3 _ _ _) t2 (N4 _ _ _)
      · left
        refine ⟨q3, (nI r3, ct3, nI (h + 1), upd kinds h (nI v1), upd extras h (nI v2), fac), nI r3, rt3, vt3, nI (h + 1), um, st', upd (upd row 0 (nI v1)) 1 (nI v2), by omega, fun z => ⟨hD'.zero z, rfl⟩, ?_, ?_⟩
        · simp only [f_X1_readOtherItem, hw0, hw1, Option.bind_some, n10, ↓reduceIte, f_X0_isFull, if_pos l2, f_X1_readHolder, A, if_neg n1, A2, if_neg n2, PF, t3, bz_0, gd_t]
        · rw [RI, Option.bind_some]
          exact TL_bad n10 (N3 _ _ _) t2
    · left
      obtain ⟨row', B2'⟩ := B2 rt vt (nI q1) (upd row 0 (nI v1))
      refine ⟨q2, (nI r2, ct2, nI h, kinds, extras, fac), nI r2, rt2, vt2, nI h + 1, um, st, row', by omega, fun z => ⟨D.zero z, rfl⟩, ?_, ?_⟩
      · simp only [f_X1_readOtherItem, hw0, hw1, Option.bind_some, n10, ↓reduceIte, f_X0_isFull, if_pos l2, f_X1_readHolder, A, if_neg n1, A2]
      · simp only [f_X4_readItem, if_neg hx, hv0, hw2, Option.bind_some, n10, ↓reduceIte, if_neg l1, Bq, B2', bz_0, gd_t]
        exact TL_0 rfl
