/-- what is kept between the draft and the reference's safe while reading: only where the pass does it -/
def DR (does : Nat) (st0 : Nat → Int32) (N E h : Nat) (kinds extras fac told past ahd st : Nat → Int32) : Prop := (does = 0 ∧ st = st0) ∨ (does = 1 ∧ SR 0 (nI N, nI E, nI h, 0, 0, 0, 0, kinds, extras, fac, told, past) st ahd 0)
theorem DR.zero {does : Nat} {st0 : Nat → Int32} {N E h : Nat} {kinds extras fac told past ahd st : Nat → Int32} (D : DR does st0 N E h kinds extras fac told past ahd st) (z : does = 0) : st = st0 := by
  rcases D with ⟨_, q⟩ | ⟨q, _⟩
  · exact q
  · omega
/-- the way item after its word -/
theorem way_item {n : Nat} {C : Nat → Nat} {B T : Nat → Int32} (X : TX n C B T) {q r k h does N E : Nat} (hq : q ≤ r) (hr : r ≤ n) (hk : k ≤ 4) (h6 : h ≤ 6) {st0 kinds extras fac told past ahd st row : Nat → Int32} (um vl x21 : Int32) (hx : ¬ x21 = 0) (D : DR does st0 N E h kinds extras fac told past ahd st)
    (hw1 : f_X1_isWord (nI q) (nI r) (nI k) B 1 = some 1) (hw2 : f_X4_isWord (nI r) (nI (kr k q r)) (nI q) T 119 97 121 0 0 0 = some 1) :
    (∃ (q' : Nat) (z : Int32 × Int32 × Int32 × (Nat → Int32) × (Nat → Int32) × (Nat → Int32)) (a b c d e : Int32) (f g : Nat → Int32), q' ≤ n ∧ (does = 0 → f = st0 ∧ e = um) ∧ f_X1_readOtherItem (nI n) (nI q) (nI r) (nI k) B (nI h) kinds extras fac = some (0, nI q', z) ∧ (f_X4_readItem (nI n) (nI r) (nI (kr k q r)) vl (nI q) (nI h) um st T row x21 (nI does)).bind (TL (nI n) T x21) = some (.inr (.inr (-1, a, b, c, nI q', d, e, f, g)))) ∨
    (∃ (q' r' h' : Nat) (ct a : Int32) (kinds' extras' fac' st' row' : Nat → Int32), r < r' ∧ r' ≤ n ∧ h' ≤ 6 ∧ f_X1_readOtherItem (nI n) (nI q) (nI r) (nI k) B (nI h) kinds extras fac = some (1, nI q', nI r', ct, nI h', kinds', extras', fac') ∧ DR does st0 N E h' kinds' extras' fac' told past ahd st' ∧
      ∀ q2 r2 k2 v2 : Nat, (∀ tk vl bg : Int32, f_X4_nextToken (nI n) (nI r') tk vl bg T = some (nI r2, nI k2, nI v2, nI q2)) → (f_X4_readItem (nI n) (nI r) (nI (kr k q r)) vl (nI q) (nI h) um st T row x21 (nI does)).bind (TL (nI n) T x21) = some (.inl (x21 + 1, nI r2, nI k2, nI v2, nI q2, nI h', um, st', row'))) := by
  have hn := X.1
  have hdoes : does = 0 ∨ does = 1 := by
    rcases D with ⟨z, _⟩ | ⟨z, _⟩
    · exact Or.inl z
    · exact Or.inr z
  rcases two_both X hr 1 3 0 96 with ⟨q1, r1, ct, rt, vt, a1, a2, a3, A, Bq⟩ | ⟨q1, r1, v1, ct, rt, vt, a1, a2, a3, a4, a5, a6, A, Bq, q2, r2, v2, ct2, rt2, vt2, c1, c2, c3, c4⟩
  · left
    obtain ⟨row', Bq'⟩ := Bq (nI (kr k q r)) vl (nI q) row
    refine ⟨q1, (nI r1, ct, nI h, kinds, extras, fac), nI r1, rt, vt, nI h, um, st, row', by omega, fun z => ⟨D.zero z, rfl⟩, ?_, ?_⟩
    · simp only [f_X1_readOtherItem, hw1, Option.bind_some, n10, ↓reduceIte, f_X1_readWay, A, bz_0, gd_t]
    · simp only [f_X4_readItem, if_neg hx, hw2, Option.bind_some, n10, ↓reduceIte, Bq', bz_0, gd_t]
      exact TL_0 rfl
  · rcases c4 with ⟨e1, e2, e3, e4, A2, B2⟩ | ⟨A2, B2⟩
    · obtain ⟨q3, r3, ct3, rt3, vt3, s1, s2, s3, N3, s4⟩ := stop_both X c3
      obtain ⟨j, hj3, rfl⟩ : ∃ j, j < 3 ∧ v1 = j + 1 := by
        obtain ⟨m, m1, m3, m4⟩ := wi_n1 (N := 3) (v := nI v1) rfl (by decide) ⟨a4, a5⟩
        have : v1 = m := (nI_eq (by omega) (by omega)).mp m4
        exact ⟨v1 - 1, by omega, by omega⟩
      have hv2 : v2 ≤ 96 := by
        obtain ⟨m, m3, m4⟩ := wi_n (N := 96) (v := nI v2) rfl (by decide) ⟨e2, e3⟩
        have : v2 = m := (nI_eq (by omega) (by omega)).mp m4
        omega
      have k1 : ¬ nI (j + 1) < 1 := a4
      have k2 : ¬ (3 : Int32) < nI (j + 1) := a5
      have k3 : (2 : Int32) + nI (j + 1) - 1 = nI (2 + j) := by
        rw [show (2 : Int32) + nI (j + 1) = nI (2 + j + 1) from nI_add 2 (j + 1), nI_pred]
      have k4 : inb (nI (2 + j)) 27 = true := inb_nI (by omega) (by decide)
      have k5 : (nI (2 + j)).toNatClampNeg = 2 + j := nI_clamp (by omega)
      have n1 : ¬ nI (j + 1) = -1 := nm1 (by omega)
      have n2 : ¬ nI v2 = -1 := nm1 (by omega)
      have PF : f_X0_putFactor fac (nI (j + 1)) (nI v2) = some (upd fac j (nI v2)) := by
        simp only [f_X0_putFactor, if_neg k1, if_neg k2, nI_pred, inb_nI hj3 (by decide), nI_clamp (show j < 2 ^ 31 by omega), gd_t]
      have w0 : (upd (upd row 0 (nI (j + 1))) 1 (nI v2)) 0 = nI (j + 1) := by rw [pk_un (by decide), pk_us]
      have w1 : (upd (upd row 0 (nI (j + 1))) 1 (nI v2)) 1 = nI v2 := pk_us
      have st2 : ∃ st', DR does st0 N E h kinds extras (upd fac j (nI v2)) told past ahd st' ∧ f_X4_readItem (nI n) (nI r) (nI (kr k q r)) vl (nI q) (nI h) um st T row x21 (nI does) = some (1, nI r2, rt2, vt2, nI q2, nI h, um, st', upd (upd row 0 (nI (j + 1))) 1 (nI v2)) := by
        rcases D with ⟨rfl, hst⟩ | ⟨rfl, hS⟩
        · refine ⟨st, Or.inl ⟨rfl, hst⟩, ?_⟩
          simp only [f_X4_readItem, if_neg hx, hw2, Option.bind_some, n10, ↓reduceIte, Bq, B2, bz_1, gd_t, show nI 0 = 0 from rfl]
        · refine ⟨upd st (2 + j) (nI v2), Or.inr ⟨rfl, ?_⟩, ?_⟩
          · obtain ⟨n', e', _, _, _, _, _, c1', c2', c3', a', _, ⟨f1, f2, f3⟩, ⟨_, _, s2', s3', s4', _⟩, _⟩ := hS.raw
            refine hS.fac ⟨rfl, rfl, rfl, rfl, rfl, rfl, rfl, rfl, rfl, rfl, rfl⟩ (fun i hi => pk_un (by omega)) (fun i hi => ?_)
            by_cases z : i = j
            · subst z
              exact ⟨v2, by omega, pk_us, pk_us⟩
            · have : i = 0 ∨ i = 1 ∨ i = 2 := by omega
              rcases this with rfl | rfl | rfl
              · exact ⟨c1', a'.2.2.2.2.2.2.2.2.1, (pk_un z).trans f1, (pk_un (by omega)).trans s2'⟩
              · exact ⟨c2', a'.2.2.2.2.2.2.2.2.2.1, (pk_un z).trans f2, (pk_un (by omega)).trans s3'⟩
              · exact ⟨c3', a'.2.2.2.2.2.2.2.2.2.2, (pk_un z).trans f3, (pk_un (by omega)).trans s4'⟩
          · simp only [f_X4_readItem, if_neg hx, hw2, Option.bind_some, n10, ↓reduceIte, Bq, B2, bz_1, gd_t, show ¬ nI 1 = 0 by decide, show inb (0 : Int32) 2 = true by decide, show inb (1 : Int32) 2 = true by decide, cl_0, cl_1, w0, w1, k3, k4, k5]
      obtain ⟨st', hD', RI⟩ := st2
      rcases s4 with ⟨t1, t2, t3⟩ | ⟨t2, t3⟩
      · right
        refine ⟨q3, r3, h, ct3, 0, kinds, extras, upd fac j (nI v2), st', upd (upd row 0 (nI (j + 1))) 1 (nI v2), by omega, s3, h6, ?_, hD', fun q4 r4 k4 v4 N4 => ?_⟩
        · simp only [f_X1_readOtherItem, hw1, Option.bind_some, n10, ↓reduceIte, f_X1_readWay, A, if_neg n1, A2, if_neg n2, PF, t3, bz_1, gd_t]
        · rw [RI, Option.bind_some]
          exact TL_ok n10 (N3 _ _ _) t2 (N4 _ _ _)
      · left
        refine ⟨q3, (nI r3, ct3, nI h, kinds, extras, upd fac j (nI v2)), nI r3, rt3, vt3, nI h, um, st', upd (upd row 0 (nI (j + 1))) 1 (nI v2), by omega, fun z => ⟨hD'.zero z, rfl⟩, ?_, ?_⟩
        · simp only [f_X1_readOtherItem, hw1, Option.bind_some, n10, ↓reduceIte, f_X1_readWay, A, if_neg n1, A2, if_neg n2, PF, t3, bz_0, gd_t]
        · rw [RI, Option.bind_some]
          exact TL_bad n10 (N3 _ _ _) t2
    · left
      have n1 : ¬ nI v1 = -1 := nm1 (by omega)
      obtain ⟨row', B2'⟩ := B2 rt vt (nI q1) (upd row 0 (nI v1))
      refine ⟨q2, (nI r2, ct2, nI h, kinds, extras, fac), nI r2, rt2, vt2, nI h, um, st, row', by omega, fun z => ⟨D.zero z, rfl⟩, ?_, ?_⟩
      · simp only [f_X1_readOtherItem, hw1, Option.bind_some, n10, ↓reduceIte, f_X1_readWay, A, if_neg n1, A2, bz_0, gd_t]
      · simp only [f_X4_readItem, if_neg hx, hw2, Option.bind_some, n10, ↓reduceIte, Bq, B2', bz_0, gd_t]
        exact TL_0 rfl
