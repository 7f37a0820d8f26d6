/-- an item that is not the first -/
theorem other_item {n : Nat} {C : Nat → Nat} {B T : Nat → Int32} (X : TX n C B T) {q r k h does N E : Nat} (hq : q ≤ r) (hr : r ≤ n) (hk : k ≤ 4) (h6 : h ≤ 6) {st0 kinds extras fac told past ahd st row : Nat → Int32} (um vl x21 : Int32) (hx : ¬ x21 = 0) (D : DR does st0 N E h kinds extras fac told past ahd st) :
    (∃ (q' : Nat) (z : Int32 × Int32 × Int32 × (Nat → Int32) × (Nat → Int32) × (Nat → Int32)) (a b c d e : Int32) (f g : Nat → Int32), q' ≤ n ∧ (does = 0 → f = st0 ∧ e = um) ∧ f_X1_readOtherItem (nI n) (nI q) (nI r) (nI k) B (nI h) kinds extras fac = some (0, nI q', z) ∧ (f_X4_readItem (nI n) (nI r) (nI (kr k q r)) vl (nI q) (nI h) um st T row x21 (nI does)).bind (TL (nI n) T x21) = some (.inr (.inr (-1, a, b, c, nI q', d, e, f, g)))) ∨
    (∃ (q' r' h' : Nat) (ct a : Int32) (kinds' extras' fac' st' row' : Nat → Int32), r < r' ∧ r' ≤ n ∧ h' ≤ 6 ∧ f_X1_readOtherItem (nI n) (nI q) (nI r) (nI k) B (nI h) kinds extras fac = some (1, nI q', nI r', ct, nI h', kinds', extras', fac') ∧ DR does st0 N E h' kinds' extras' fac' told past ahd st' ∧
      ∀ q2 r2 k2 v2 : Nat, (∀ tk vl bg : Int32, f_X4_nextToken (nI n) (nI r') tk vl bg T = some (nI r2, nI k2, nI v2, nI q2)) → (f_X4_readItem (nI n) (nI r) (nI (kr k q r)) vl (nI q) (nI h) um st T row x21 (nI does)).bind (TL (nI n) T x21) = some (.inl (x21 + 1, nI r2, nI k2, nI v2, nI q2, nI h', um, st', row'))) := by
  have hn := X.1
  obtain ⟨b, hb, W1, W2⟩ := word_way X hk hr hq
  rcases hb with rfl | rfl
  · obtain ⟨b, hb, V1, V2⟩ := word_holder X hk hr hq
    rcases hb with rfl | rfl
    · left
      refine ⟨q, (nI r, nI k, nI h, kinds, extras, fac), nI r, nI (kr k q r), vl, nI h + 1, um, st, row, by omega, fun z => ⟨D.zero z, rfl⟩, ?_, ?_⟩
      · simp only [f_X1_readOtherItem, W1, V1, Option.bind_some, ↓reduceIte]
      · simp only [f_X4_readItem, if_neg hx, W2, V2, Option.bind_some, ↓reduceIte, bz_0, gd_t]
        exact TL_0 rfl
    · exact holder_item X hq hr hk h6 um vl x21 hx D W1 W2 V1 V2
  · exact way_item X hq hr hk h6 um vl x21 hx D W1 W2
