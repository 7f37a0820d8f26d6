/-! the text: its tokens, on both sides -/
def kd (c : Nat) : Nat := if 97 ≤ c ∧ c ≤ 122 then 1 else if 48 ≤ c ∧ c ≤ 57 then 2 else if c = 59 then 3 else 4
/-- the text of n bytes C on both sides -/
def TX (n : Nat) (C : Nat → Nat) (B T : Nat → Int32) : Prop := n ≤ 150 ∧ ∀ j, j < n → C j < 128 ∧ B j = nI (C j) ∧ T j = nI (C j)
theorem v_kd : ∀ c, c < 128 → f_X1_tokenBegunBy (nI c) = some (nI (kd c)) := by decide +kernel
theorem w_let : ∀ c, c < 128 → f_X4_in (nI c).toInt64 97 122 = some (if kd c = 1 then 1 else 0) := by decide +kernel
theorem w_dig : ∀ c, c < 128 → f_X4_in (nI c).toInt64 48 57 = some (if kd c = 2 then 1 else 0) := by decide +kernel
theorem kd_le : ∀ c, c < 128 → 1 ≤ kd c ∧ kd c ≤ 4 := by decide +kernel
theorem kd_59 : ∀ c, c < 128 → (kd c = 3 ↔ nI c = 59) := by decide +kernel
theorem v_byteAt {n : Nat} {C : Nat → Nat} {B T : Nat → Int32} (X : TX n C B T) {p : Nat} (hp : p < n) : f_X1_byteAt B (nI p) = some (nI (C p)) := by
  have hn := X.1
  have k1 : ¬ nI p < 0 := nI_pos (by omega)
  have k2 : ¬ (150 : Int32) ≤ nI p := nI_ge (a := p) (b := 150) (by omega) (by decide)
  simp only [f_X1_byteAt, if_neg k1, if_neg k2, inb_nI (show p < 150 by omega) (by decide), gd_t, nI_clamp (show p < 2 ^ 31 by omega), (X.2 p hp).2.1]
theorem w_byteAt {n : Nat} {C : Nat → Nat} {B T : Nat → Int32} (X : TX n C B T) {p : Nat} (hp : p < n) : f_X4_byteAt (nI n) T (nI p) = some (nI (C p)) := by
  have hn := X.1
  have k1 : ¬ nI n ≤ nI p := nI_ge hp (by omega)
  simp only [f_X4_byteAt, if_neg k1, inb_nI (show p < 150 by omega) (by decide), gd_t, nI_clamp (show p < 2 ^ 31 by omega), (X.2 p hp).2.2]
theorem w_byteEnd {n : Nat} {C : Nat → Nat} {B T : Nat → Int32} (X : TX n C B T) : f_X4_byteAt (nI n) T (nI n) = some (-1) := by
  have hn := X.1
  have k1 : nI n ≤ nI n := nI_le (Nat.le_refl n) (by omega)
  simp only [f_X4_byteAt, if_pos k1]
/-- the blanks -/
theorem skip_both {n : Nat} {C : Nat → Nat} {B T : Nat → Int32} (X : TX n C B T) {p : Nat} (hp : p ≤ n) : ∃ q, p ≤ q ∧ q ≤ n ∧ (q < n → C q ≠ 32) ∧ lp (b_X1_nextToken_5 (nI n) B) 200 (nI p) = some (nI q) ∧ lp (b_X4_nextToken_0 (nI n) T) 200 (nI p) = some (nI q) := by
  have hn := X.1
  obtain ⟨r, r', q1, q2, q, h1, h2, h3, rfl, rfl⟩ := lp_rel (b1 := b_X1_nextToken_5 (nI n) B) (b2 := b_X4_nextToken_0 (nI n) T) (fun x y => ∃ i, p ≤ i ∧ i ≤ n ∧ x = nI i ∧ y = nI i) (fun r r' => ∃ q, p ≤ q ∧ q ≤ n ∧ (q < n → C q ≠ 32) ∧ r = nI q ∧ r' = nI q) (fun x => 151 - x.toNatClampNeg) (by
    rintro x y ⟨i, hi1, hi2, rfl, rfl⟩
    by_cases z : i = n
    · right
      subst z
      have k1 : nI i ≤ nI i := nI_le (Nat.le_refl i) (by omega)
      exact ⟨nI i, nI i, by simp only [b_X1_nextToken_5, if_pos k1], by simp only [b_X4_nextToken_0, w_byteEnd X, Option.bind_some, show ¬ (-1 : Int32) = 32 by decide, ↓reduceIte], i, hi1, hi2, fun h => absurd h (by omega), rfl, rfl⟩
    · have hi : i < n := by omega
      have k1 : ¬ nI n ≤ nI i := nI_ge hi (by omega)
      have hc := (X.2 i hi).1
      by_cases c : C i = 32
      · left
        have k2 : nI (C i) = 32 := by rw [c]; rfl
        refine ⟨nI (i + 1), nI (i + 1), by simp only [b_X1_nextToken_5, if_neg k1, v_byteAt X hi, Option.bind_some, if_pos k2, nI_1], by simp only [b_X4_nextToken_0, w_byteAt X hi, Option.bind_some, if_pos k2, nI_1], ⟨i + 1, by omega, by omega, rfl, rfl⟩, ?_⟩
        rw [nI_clamp (by omega), nI_clamp (by omega)]
        omega
      · right
        have k2 : ¬ nI (C i) = 32 := nI_lit (b := 32) (by omega) (by decide) c
        exact ⟨nI i, nI i, by simp only [b_X1_nextToken_5, if_neg k1, v_byteAt X hi, Option.bind_some, if_neg k2], by simp only [b_X4_nextToken_0, w_byteAt X hi, Option.bind_some, if_neg k2], i, hi1, hi2, fun _ => c, rfl, rfl⟩) 200 200 (nI p) (nI p) ⟨p, Nat.le_refl p, hp, rfl, rfl⟩ (by rw [nI_clamp (by omega)]; omega) (by rw [nI_clamp (by omega)]; omega)
  exact ⟨q, h1, h2, h3, q1, q2⟩
/-- a run of bytes of one kind, 1 or 2 -/
theorem v_run {n : Nat} {C : Nat → Nat} {B T : Nat → Int32} (X : TX n C B T) {k p : Nat} (hk : k = 1 ∨ k = 2) (hp : p ≤ n) : ∃ q, p ≤ q ∧ q ≤ n ∧ (∀ j, p ≤ j → j < q → kd (C j) = k) ∧ (q < n → kd (C q) ≠ k) ∧ lp (b_X1_nextToken_73 (nI n) B (nI k)) 200 (nI p) = some (nI q) := by
  have hn := X.1
  have hl : f_X1_isLong (nI k) = some 1 := by
    rcases hk with rfl | rfl
    · rfl
    · rfl
  obtain ⟨r, q1, q, h1, h2, h3, h4, rfl⟩ := lp_ind (body := b_X1_nextToken_73 (nI n) B (nI k)) (fun x => ∃ i, p ≤ i ∧ i ≤ n ∧ (∀ j, p ≤ j → j < i → kd (C j) = k) ∧ x = nI i) (fun r => ∃ q, p ≤ q ∧ q ≤ n ∧ (∀ j, p ≤ j → j < q → kd (C j) = k) ∧ (q < n → kd (C q) ≠ k) ∧ r = nI q) (fun x => 151 - x.toNatClampNeg) (by
    rintro x ⟨i, hi1, hi2, hi3, rfl⟩
    by_cases z : i = n
    · right
      subst z
      have k1 : nI i ≤ nI i := nI_le (Nat.le_refl i) (by omega)
      exact ⟨nI i, by simp only [b_X1_nextToken_73, if_pos k1], i, hi1, hi2, hi3, fun h => absurd h (by omega), rfl⟩
    · have hi : i < n := by omega
      have k1 : ¬ nI n ≤ nI i := nI_ge hi (by omega)
      have hc := (X.2 i hi).1
      have hkd := kd_le _ hc
      by_cases c : kd (C i) = k
      · left
        have k2 : nI (kd (C i)) = nI k := by rw [c]
        refine ⟨nI (i + 1), by simp only [b_X1_nextToken_73, if_neg k1, hl, Option.bind_some, n10, ↓reduceIte, v_byteAt X hi, v_kd _ hc, if_pos k2, nI_1], ⟨i + 1, by omega, by omega, fun j hj1 hj2 => ?_, rfl⟩, ?_⟩
        · by_cases w : j = i
          · rw [w]; exact c
          · exact hi3 j hj1 (by omega)
        · rw [nI_clamp (by omega), nI_clamp (by omega)]
          omega
      · right
        have k2 : ¬ nI (kd (C i)) = nI k := nI_lit (by omega) (by omega) c
        exact ⟨nI i, by simp only [b_X1_nextToken_73, if_neg k1, hl, Option.bind_some, n10, ↓reduceIte, v_byteAt X hi, v_kd _ hc, if_neg k2], i, hi1, hi2, hi3, fun _ => c, rfl⟩) 200 (nI p) ⟨p, Nat.le_refl p, hp, fun j h1 h2 => absurd h2 (by omega), rfl⟩ (by rw [nI_clamp (by omega)]; omega)
  exact ⟨q, h1, h2, h3, h4, q1⟩
