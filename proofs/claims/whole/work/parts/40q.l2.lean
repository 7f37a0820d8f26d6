theorem in_m1_let : f_X4_in (-1 : Int32).toInt64 97 122 = some 0 := by decide +kernel
theorem in_m1_dig : f_X4_in (-1 : Int32).toInt64 48 57 = some 0 := by decide +kernel
/-- the number of a run of digits -/
def VL (C : Nat → Nat) (q : Nat) : Nat → Nat
  | 0 => 0
  | i + 1 => if VL C q i ≤ 99 then 10 * VL C q i + C (q + i) - 48 else VL C q i
theorem kd_dig : ∀ c, c < 128 → kd c = 2 → 48 ≤ c ∧ c ≤ 57 := by decide +kernel
theorem VL_le {C : Nat → Nat} {q r : Nat} (hd : ∀ j, q ≤ j → j < r → kd (C j) = 2) (hc : ∀ j, j < r → C j < 128) : ∀ i, q + i ≤ r → VL C q i ≤ 999
  | 0, _ => by simp [VL]
  | i + 1, h => by
    have h1 := VL_le hd hc i (by omega)
    have h2 := kd_dig _ (hc (q + i) (by omega)) (hd (q + i) (by omega) (by omega))
    simp only [VL]
    split <;> omega
theorem w_wordEnd {n : Nat} {C : Nat → Nat} {B T : Nat → Int32} (X : TX n C B T) : lp (b_X4_nextToken_59 (nI n) T) 200 (nI n, 3) = some (nI n, 3) := by
  exact lp_o 199 (by simp only [b_X4_nextToken_59, w_byteEnd X, Option.bind_some, in_m1_let, ↓reduceIte])
theorem w_wordNo {n : Nat} {C : Nat → Nat} {B T : Nat → Int32} (X : TX n C B T) {q : Nat} (hq : q < n) (h : kd (C q) ≠ 1) : lp (b_X4_nextToken_59 (nI n) T) 200 (nI q, 0) = some (nI q, 0) := by
  have hc := (X.2 q hq).1
  exact lp_o 199 (by simp only [b_X4_nextToken_59, w_byteAt X hq, Option.bind_some, w_let _ hc, if_neg h, ↓reduceIte])
theorem w_word {n : Nat} {C : Nat → Nat} {B T : Nat → Int32} (X : TX n C B T) {q r : Nat} (hqr : q < r) (hr : r ≤ n) (hd : ∀ j, q ≤ j → j < r → kd (C j) = 1) (he : r < n → kd (C r) ≠ 1) : lp (b_X4_nextToken_59 (nI n) T) 200 (nI q, 0) = some (nI r, 1) := by
  have hn := X.1
  have key : lp (b_X4_nextToken_59 (nI n) T) 200 ((fun i => (nI (q + i), if i = 0 then (0 : Int32) else 1)) 0) = some (nI r, 1) := by
    refine lp_run (fun i => (nI (q + i), if i = 0 then (0 : Int32) else 1)) (r - q) (fun i hi => ?_) ?_ 200 (by omega)
    · have hi' : q + i < n := by omega
      have hc := (X.2 (q + i) hi').1
      have k2 : ¬ (2 : Int32) ≤ (if i = 0 then (0 : Int32) else 1) := by split <;> decide
      simp only [b_X4_nextToken_59, w_byteAt X hi', Option.bind_some, w_let _ hc, if_pos (hd (q + i) (by omega) (by omega)), n10, ↓reduceIte, if_neg k2, nI_1, if_neg (Nat.succ_ne_zero i)]
      rfl
    · have e1 : q + (r - q) = r := by omega
      simp only [e1, if_neg (show ¬ r - q = 0 by omega)]
      by_cases z : r = n
      · subst z
        simp only [b_X4_nextToken_59, w_byteEnd X, Option.bind_some, in_m1_let, ↓reduceIte]
      · have hr' : r < n := by omega
        have hc := (X.2 r hr').1
        simp only [b_X4_nextToken_59, w_byteAt X hr', Option.bind_some, w_let _ hc, if_neg (he hr'), ↓reduceIte]
  exact key
theorem w_numEnd {n : Nat} {C : Nat → Nat} {B T : Nat → Int32} (X : TX n C B T) (t : Int32) : lp (b_X4_nextToken_106 (nI n) T) 200 (nI n, t, 0) = some (nI n, t, 0) := by
  exact lp_o 199 (by simp only [b_X4_nextToken_106, w_byteEnd X, Option.bind_some, in_m1_dig, ↓reduceIte])
theorem w_numNo {n : Nat} {C : Nat → Nat} {B T : Nat → Int32} (X : TX n C B T) {q : Nat} (hq : q < n) (t : Int32) (h : kd (C q) ≠ 2 ∨ t = 1) : lp (b_X4_nextToken_106 (nI n) T) 200 (nI q, t, 0) = some (nI q, t, 0) := by
  have hc := (X.2 q hq).1
  refine lp_o 199 ?_
  by_cases z : kd (C q) = 2
  · have ht : t = 1 := h.resolve_left (fun w => w z)
    simp only [b_X4_nextToken_106, w_byteAt X hq, Option.bind_some, w_dig _ hc, if_pos z, n10, ↓reduceIte, if_pos ht]
  · simp only [b_X4_nextToken_106, w_byteAt X hq, Option.bind_some, w_dig _ hc, if_neg z, ↓reduceIte]
theorem num_step {v c : Nat} (hc : 48 ≤ c) : ((10 : Int32) * nI v + nI c) - 48 = nI (10 * v + c - 48) := by
  rw [show (10 : Int32) * nI v = nI (10 * v) from pk_mul 10 v, nI_add]
  exact pk_sub (b := 48) (by omega)
theorem w_num {n : Nat} {C : Nat → Nat} {B T : Nat → Int32} (X : TX n C B T) {q r : Nat} (hqr : q < r) (hr : r ≤ n) (hd : ∀ j, q ≤ j → j < r → kd (C j) = 2) (he : r < n → kd (C r) ≠ 2) : lp (b_X4_nextToken_106 (nI n) T) 200 (nI q, 0, 0) = some (nI r, 2, nI (VL C q (r - q))) := by
  have hn := X.1
  have key : lp (b_X4_nextToken_106 (nI n) T) 200 ((fun i => (nI (q + i), (if i = 0 then (0 : Int32) else 2), nI (VL C q i))) 0) = some (nI r, 2, nI (VL C q (r - q))) := by
    refine lp_run (fun i => (nI (q + i), (if i = 0 then (0 : Int32) else 2), nI (VL C q i))) (r - q) (fun i hi => ?_) ?_ 200 (by omega)
    · have hi' : q + i < n := by omega
      have hc := (X.2 (q + i) hi').1
      have hk := hd (q + i) (by omega) (by omega)
      have h48 := kd_dig _ hc hk
      have hv := VL_le hd (fun j hj => (X.2 j (by omega)).1) i (by omega)
      have k2 : ¬ (if i = 0 then (0 : Int32) else 2) = 1 := by split <;> decide
      by_cases c : VL C q i ≤ 99
      · have k3 : nI (VL C q i) ≤ 99 := nI_le (a := VL C q i) (b := 99) c (by decide)
        simp only [b_X4_nextToken_106, w_byteAt X hi', Option.bind_some, w_dig _ hc, if_pos hk, n10, ↓reduceIte, if_neg k2, if_pos k3, inb_nI (show q + i < 150 by omega) (by decide), gd_t, nI_clamp (show q + i < 2 ^ 31 by omega), (X.2 (q + i) hi').2.2, num_step h48.1, nI_1, if_neg (Nat.succ_ne_zero i), VL, if_pos c]
        rfl
      · have k3 : ¬ nI (VL C q i) ≤ 99 := nI_ge (a := 99) (b := VL C q i) (by omega) (by omega)
        simp only [b_X4_nextToken_106, w_byteAt X hi', Option.bind_some, w_dig _ hc, if_pos hk, n10, ↓reduceIte, if_neg k2, if_neg k3, nI_1, if_neg (Nat.succ_ne_zero i), VL, if_neg c]
        rfl
    · have e1 : q + (r - q) = r := by omega
      simp only [e1, if_neg (show ¬ r - q = 0 by omega)]
      by_cases z : r = n
      · subst z
        simp only [b_X4_nextToken_106, w_byteEnd X, Option.bind_some, in_m1_dig, ↓reduceIte]
      · have hr' : r < n := by omega
        have hc := (X.2 r hr').1
        simp only [b_X4_nextToken_106, w_byteAt X hr', Option.bind_some, w_dig _ hc, if_neg (he hr'), ↓reduceIte]
  exact key
def kr (k q r : Nat) : Nat := if k = 0 then 3 else if k = 1 then 1 else if k = 2 then (if r - q ≤ 2 then 2 else 0) else if k = 3 then 4 else 0
/-- the next token, on both sides -/
theorem tok {n : Nat} {C : Nat → Nat} {B T : Nat → Int32} (X : TX n C B T) {p : Nat} (hp : p ≤ n) : ∃ q r k v : Nat, p ≤ q ∧ q ≤ r ∧ r ≤ n ∧ k ≤ 4 ∧ (∀ ts tk : Int32, f_X1_nextToken (nI n) ts (nI p) tk B = some (nI q, nI r, nI k)) ∧ (∀ tk vl bg : Int32, f_X4_nextToken (nI n) (nI p) tk vl bg T = some (nI r, nI (kr k q r), nI v, nI q)) ∧ (k = 0 → q = n ∧ r = n) ∧ (k ≠ 0 → q < r) ∧ (k = 1 → ∀ j, q ≤ j → j < r → kd (C j) = 1) ∧ (k = 2 → (∀ j, q ≤ j → j < r → kd (C j) = 2) ∧ v = VL C q (r - q)) := by
  have hn := X.1
  obtain ⟨q, h1, h2, h3, S1, S2⟩ := skip_both X hp
  by_cases z : q = n
  · subst z
    have k1 : nI q ≤ nI q := nI_le (Nat.le_refl q) (by omega)
    have S3 : lp (b_X1_nextToken_73 (nI q) B 0) 200 (nI q) = some (nI q) := lp_o 199 (by simp only [b_X1_nextToken_73, if_pos k1])
    refine ⟨q, q, 0, 0, h1, Nat.le_refl q, Nat.le_refl q, by omega, fun ts tk => ?_, fun tk vl bg => ?_, fun _ => ⟨rfl, rfl⟩, fun h => absurd rfl h, fun h => absurd h (by decide), fun h => absurd h (by decide)⟩
    · simp only [f_X1_nextToken, S1, Option.bind_some, if_pos k1, ↓reduceIte, S3]
      rfl
    · simp only [f_X4_nextToken, S2, Option.bind_some, ↓reduceIte, w_wordEnd X, w_numEnd X, show ¬ (3 : Int32) = 2 by decide, show ¬ (3 : Int32) = 0 by decide, kr]
      rfl
  · have hq : q < n := by omega
    have hc := (X.2 q hq).1
    have hkd := kd_le _ hc
    have k1 : ¬ nI n ≤ nI q := nI_ge hq (by omega)
    have k2 : ¬ nI q = nI n := nI_lit (by omega) (by omega) z
    have kb := v_byteAt X hq
    have wb := w_byteAt X hq
    have hk : kd (C q) = 1 ∨ kd (C q) = 2 ∨ kd (C q) = 3 ∨ kd (C q) = 4 := by omega
    rcases hk with hk | hk | hk | hk
    · obtain ⟨r, r1, r2, r3, r4, S3⟩ := v_run X (k := 1) (p := q + 1) (Or.inl rfl) (by omega)
      have hd : ∀ j, q ≤ j → j < r → kd (C j) = 1 := fun j j1 j2 => by
        by_cases w : j = q
        · rw [w]; exact hk
        · exact r3 j (by omega) j2
      have W := w_word X (show q < r by omega) r2 hd r4
      have U : lp (b_X4_nextToken_106 (nI n) T) 200 (nI r, 1, 0) = some (nI r, 1, 0) := by
        by_cases w : r = n
        · subst w
          exact w_numEnd X 1
        · exact w_numNo X (by omega) 1 (Or.inr rfl)
      refine ⟨q, r, 1, 0, h1, by omega, r2, by omega, fun ts tk => ?_, fun tk vl bg => ?_, fun h => absurd h (by decide), fun _ => by omega, fun _ => hd, fun h => absurd h (by decide)⟩
      · simp only [f_X1_nextToken, S1, Option.bind_some, if_neg k1, kb, v_kd _ hc, hk, show ¬ nI 1 = 0 by decide, ↓reduceIte, nI_1, S3]
      · simp only [f_X4_nextToken, S2, Option.bind_some, if_neg k2, W, U, show ¬ (1 : Int32) = 2 by decide, n10, ↓reduceIte, kr]
        rfl
    · obtain ⟨r, r1, r2, r3, r4, S3⟩ := v_run X (k := 2) (p := q + 1) (Or.inr rfl) (by omega)
      have hd : ∀ j, q ≤ j → j < r → kd (C j) = 2 := fun j j1 j2 => by
        by_cases w : j = q
        · rw [w]; exact hk
        · exact r3 j (by omega) j2
      have W := w_wordNo X hq (by rw [hk]; decide)
      have U := w_num X (show q < r by omega) r2 hd r4
      have e1 : nI r - nI q = nI (r - q) := pk_sub (by omega)
      refine ⟨q, r, 2, VL C q (r - q), h1, by omega, r2, by omega, fun ts tk => ?_, fun tk vl bg => ?_, fun h => absurd h (by decide), fun _ => by omega, fun h => absurd h (by decide), fun _ => ⟨hd, rfl⟩⟩
      · simp only [f_X1_nextToken, S1, Option.bind_some, if_neg k1, kb, v_kd _ hc, hk, show ¬ nI 2 = 0 by decide, ↓reduceIte, nI_1, S3]
      · by_cases c : r - q ≤ 2
        · have k3 : nI (r - q) ≤ 2 := nI_le (a := r - q) (b := 2) c (by decide)
          simp only [f_X4_nextToken, S2, Option.bind_some, if_neg k2, W, U, ↓reduceIte, e1, if_pos k3, show ¬ (2 : Int32) = 0 by decide, kr, if_pos c]
          rfl
        · have k3 : ¬ nI (r - q) ≤ 2 := nI_ge (a := 2) (b := r - q) (by omega) (by omega)
          simp only [f_X4_nextToken, S2, Option.bind_some, if_neg k2, W, U, ↓reduceIte, e1, if_neg k3, kr, if_neg c]
          rfl
    · have W := w_wordNo X hq (by rw [hk]; decide)
      have U := w_numNo X hq 0 (Or.inl (by rw [hk]; decide))
      have c59 := (kd_59 _ hc).mp hk
      have S3 : lp (b_X1_nextToken_73 (nI n) B (nI 3)) 200 (nI (q + 1)) = some (nI (q + 1)) := by
        refine lp_o 199 ?_
        simp only [b_X1_nextToken_73, show f_X1_isLong (nI 3) = some 0 by decide, Option.bind_some, ↓reduceIte]
        split <;> rfl
      refine ⟨q, q + 1, 3, 0, h1, by omega, by omega, by omega, fun ts tk => ?_, fun tk vl bg => ?_, fun h => absurd h (by decide), fun _ => by omega, fun h => absurd h (by decide), fun h => absurd h (by decide)⟩
      · simp only [f_X1_nextToken, S1, Option.bind_some, if_neg k1, kb, v_kd _ hc, hk, show ¬ nI 3 = 0 by decide, ↓reduceIte, nI_1, S3]
      · simp only [f_X4_nextToken, S2, Option.bind_some, if_neg k2, W, U, show ¬ (0 : Int32) = 2 by decide, ↓reduceIte, wb, if_pos c59, nI_1, kr]
        rfl
    · have W := w_wordNo X hq (by rw [hk]; decide)
      have U := w_numNo X hq 0 (Or.inl (by rw [hk]; decide))
      have c59 : ¬ nI (C q) = 59 := fun w => by have := (kd_59 _ hc).mpr w; omega
      have S3 : lp (b_X1_nextToken_73 (nI n) B (nI 4)) 200 (nI (q + 1)) = some (nI (q + 1)) := by
        refine lp_o 199 ?_
        simp only [b_X1_nextToken_73, show f_X1_isLong (nI 4) = some 0 by decide, Option.bind_some, ↓reduceIte]
        split <;> rfl
      refine ⟨q, q + 1, 4, 0, h1, by omega, by omega, by omega, fun ts tk => ?_, fun tk vl bg => ?_, fun h => absurd h (by decide), fun _ => by omega, fun h => absurd h (by decide), fun h => absurd h (by decide)⟩
      · simp only [f_X1_nextToken, S1, Option.bind_some, if_neg k1, kb, v_kd _ hc, hk, show ¬ nI 4 = 0 by decide, ↓reduceIte, nI_1, S3]
      · simp only [f_X4_nextToken, S2, Option.bind_some, if_neg k2, W, U, show ¬ (0 : Int32) = 2 by decide, ↓reduceIte, wb, if_neg c59, nI_1, kr]
        rfl
