theorem nm1 {v : Nat} (h : v < 1000) : ¬ nI v = -1 := fun z => by
  have := congrArg Int32.toInt z
  rw [nI_toInt (by omega), show (-1 : Int32).toInt = -1 by decide] at this
  omega
theorem VL2 {C : Nat → Nat} {q r : Nat} (hd : ∀ j, q ≤ j → j < r → kd (C j) = 2) (hc : ∀ j, j < r → C j < 128) : ∀ i, i ≤ 2 → q + i ≤ r → VL C q i ≤ 99 ∧ (i ≤ 1 → VL C q i ≤ 9) := by
  have h1 : q + 1 ≤ r → VL C q 1 ≤ 9 := fun h => by
    have h2 := kd_dig _ (hc (q + 0) (by omega)) (hd (q + 0) (by omega) (by omega))
    have e0 : VL C q 0 = 0 := rfl
    show (if VL C q 0 ≤ 99 then 10 * VL C q 0 + C (q + 0) - 48 else VL C q 0) ≤ 9
    rw [if_pos (by omega)]
    omega
  intro i hi h
  have : i = 0 ∨ i = 1 ∨ i = 2 := by omega
  rcases this with rfl | rfl | rfl
  · simp [VL]
  · exact ⟨by have := h1 (by omega); omega, fun _ => h1 (by omega)⟩
  · have h3 := h1 (by omega)
    have h2 := kd_dig _ (hc (q + 1) (by omega)) (hd (q + 1) (by omega) (by omega))
    have e1 : VL C q 2 = 10 * VL C q 1 + C (q + 1) - 48 := by
      show (if VL C q 1 ≤ 99 then 10 * VL C q 1 + C (q + 1) - 48 else VL C q 1) = _
      rw [if_pos (by omega)]
    rw [e1]
    exact ⟨by omega, fun w => absurd w (by omega)⟩
theorem v_val {n : Nat} {C : Nat → Nat} {B T : Nat → Int32} (X : TX n C B T) {q r : Nat} (hqr : q < r) (hr : r ≤ n) (h2 : r - q ≤ 2) (hd : ∀ j, q ≤ j → j < r → kd (C j) = 2) (k : Int32) : lp (b_X1_nextNumber_35 B (nI q, nI r, k)) 200 (0, nI q) = some (nI (VL C q (r - q))) := by
  have hn := X.1
  have key : lp (b_X1_nextNumber_35 B (nI q, nI r, k)) 200 ((fun i => (nI (VL C q i), nI (q + i))) 0) = some (nI (VL C q (r - q))) := by
    refine lp_run (fun i => (nI (VL C q i), nI (q + i))) (r - q) (fun i hi => ?_) ?_ 200 (by omega)
    · have k1 : ¬ nI r ≤ nI (q + i) := nI_ge (by omega) (by omega)
      have hc := (X.2 (q + i) (by omega)).1
      have h48 := kd_dig _ hc (hd (q + i) (by omega) (by omega))
      have hv := (VL2 hd (fun j hj => (X.2 j (by omega)).1) i (by omega) (by omega)).1
      have e1 : (nI (VL C q i) * 10 + nI (C (q + i))) - 48 = nI (10 * VL C q i + C (q + i) - 48) := by
        rw [show nI (VL C q i) * (10 : Int32) = nI (VL C q i * 10) from pk_mul _ 10, nI_add, Nat.mul_comm]
        exact pk_sub (b := 48) (by omega)
      simp only [b_X1_nextNumber_35, if_neg k1, v_byteAt X (show q + i < n by omega), Option.bind_some, e1, nI_1, VL, if_pos hv]
      rfl
    · have k1 : nI r ≤ nI (q + (r - q)) := by rw [show q + (r - q) = r by omega]; exact nI_le (Nat.le_refl r) (by omega)
      simp only [b_X1_nextNumber_35, if_pos k1]
  exact key
/-- a number within bounds, on both sides -/
theorem num_both {n : Nat} {C : Nat → Nat} {B T : Nat → Int32} (X : TX n C B T) {p : Nat} (hp : p ≤ n) (lo hi : Int32) {idx : Nat} (hidx : idx < 2) : ∃ (q r v : Nat) (ct rt : Int32), p ≤ q ∧ q ≤ r ∧ r ≤ n ∧
    ((q < r ∧ ¬ nI v < lo ∧ ¬ hi < nI v ∧ v ≤ 99 ∧ (∀ ts tk : Int32, f_X1_nextNumber (nI n) ts (nI p) tk B lo hi = some (nI v, nI q, nI r, ct)) ∧ (∀ (tk vl bg : Int32) (row : Nat → Int32), f_X4_reads (nI n) (nI p) tk vl bg T row (nI idx) lo hi = some (1, nI r, rt, nI v, nI q, upd row idx (nI v)))) ∨
     ((∀ ts tk : Int32, f_X1_nextNumber (nI n) ts (nI p) tk B lo hi = some (-1, nI q, nI r, ct)) ∧ (∀ (tk vl bg : Int32) (row : Nat → Int32), f_X4_reads (nI n) (nI p) tk vl bg T row (nI idx) lo hi = some (0, nI r, rt, nI v, nI q, upd row idx (nI v))))) := by
  have hn := X.1
  obtain ⟨q, r, k, v, h1, h2, h3, h4, A, D, a0, a1, a2, a3⟩ := tok X hp
  refine ⟨q, r, v, nI k, nI (kr k q r), h1, h2, h3, ?_⟩
  by_cases c : k = 2
  · subst c
    obtain ⟨hd, hv⟩ := a3 rfl
    have hqr := a1 (by decide)
    have e1 : nI r - nI q = nI (r - q) := pk_sub (by omega)
    by_cases c2 : r - q ≤ 2
    · have k3 : nI (r - q) ≤ 2 := nI_le (a := r - q) (b := 2) c2 (by decide)
      have V := v_val X hqr h3 c2 hd (nI 2)
      rw [← hv] at V
      have hv99 := (VL2 hd (fun j hj => (X.2 j (by omega)).1) (r - q) c2 (by omega)).1
      rw [← hv] at hv99
      have ek : kr 2 q r = 2 := by simp [kr, c2]
      by_cases c3 : ¬ nI v < lo ∧ ¬ hi < nI v
      · left
        refine ⟨hqr, c3.1, c3.2, hv99, fun ts tk => ?_, fun tk vl bg row => ?_⟩
        · simp only [f_X1_nextNumber, A, Option.bind_some]
          rw [if_pos (show nI 2 = 2 from rfl)]
          simp only [e1, if_pos k3, V, Option.bind_some, v_isWithin, if_pos c3, n10, ↓reduceIte]
        · simp only [f_X4_reads, D, Option.bind_some, inb_nI hidx (by decide), gd_t, nI_clamp (show idx < 2 ^ 31 by omega), ek]
          rw [if_pos (show nI 2 = 2 from rfl), v_in rfl rfl]
          simp only [Option.bind_some, if_pos c3, n10, ↓reduceIte]
      · right
        refine ⟨fun ts tk => ?_, fun tk vl bg row => ?_⟩
        · simp only [f_X1_nextNumber, A, Option.bind_some]
          rw [if_pos (show nI 2 = 2 from rfl)]
          simp only [e1, if_pos k3, V, Option.bind_some, v_isWithin, if_neg c3, ↓reduceIte]
        · simp only [f_X4_reads, D, Option.bind_some, inb_nI hidx (by decide), gd_t, nI_clamp (show idx < 2 ^ 31 by omega), ek]
          rw [if_pos (show nI 2 = 2 from rfl), v_in rfl rfl]
          simp only [Option.bind_some, if_neg c3, ↓reduceIte]
    · have k3 : ¬ nI (r - q) ≤ 2 := nI_ge (a := 2) (b := r - q) (by omega) (by omega)
      have ek : kr 2 q r = 0 := by simp [kr, c2]
      right
      refine ⟨fun ts tk => ?_, fun tk vl bg row => ?_⟩
      · simp only [f_X1_nextNumber, A, Option.bind_some]
        rw [if_pos (show nI 2 = 2 from rfl)]
        simp only [e1, if_neg k3]
      · simp only [f_X4_reads, D, Option.bind_some, inb_nI hidx (by decide), gd_t, nI_clamp (show idx < 2 ^ 31 by omega), ek]
        rw [if_neg (show ¬ nI 0 = 2 by decide)]
  · right
    have k3 : ¬ nI k = 2 := nI_lit (b := 2) (by omega) (by decide) c
    have ek : ¬ nI (kr k q r) = 2 := by
      have : k = 0 ∨ k = 1 ∨ k = 3 ∨ k = 4 := by omega
      rcases this with rfl | rfl | rfl | rfl
      · show ¬ nI 3 = 2; decide
      · show ¬ nI 1 = 2; decide
      · show ¬ nI 4 = 2; decide
      · show ¬ nI 0 = 2; decide
    refine ⟨fun ts tk => ?_, fun tk vl bg row => ?_⟩
    · simp only [f_X1_nextNumber, A, Option.bind_some, if_neg k3]
    · simp only [f_X4_reads, D, Option.bind_some, inb_nI hidx (by decide), gd_t, nI_clamp (show idx < 2 ^ 31 by omega), if_neg ek]
