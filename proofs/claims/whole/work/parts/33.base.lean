/-! pure rows: what the pictures' pieces come to -/
theorem gd_t {α : Type} (k : Option α) : gd true k = k := rfl
theorem inb_nI {j n : Nat} (h : j < n) (hn : n < 2 ^ 31) : inb (nI j) n = true := by
  simp only [inb, nI_clamp (Nat.lt_trans h hn), Bool.and_eq_true, decide_eq_true_eq]
  exact ⟨nI_pos (Nat.lt_trans h hn), h⟩
theorem bz_0 : bz 0 = true := rfl
theorem bz_1 : bz 1 = true := rfl
theorem bz_n {s : Nat} (h : s ≤ 1) : bz (nI s) = true := by
  rcases (show s = 0 ∨ s = 1 by omega) with rfl | rfl <;> rfl
theorem lp_run {σ ρ : Type} {body : σ → Option (σ ⊕ ρ)} (f : Nat → σ) {r : ρ} (n : Nat) (hs : ∀ i, i < n → body (f i) = some (.inl (f (i + 1)))) (he : body (f n) = some (.inr r)) : ∀ (N : Nat), n < N → lp body N (f 0) = some r := by
  have key : ∀ k, k ≤ n → ∀ N, k < N → lp body N (f (n - k)) = some r := by
    intro k
    induction k with
    | zero =>
      intro _ N hN
      obtain ⟨M, rfl⟩ : ∃ M, N = M + 1 := ⟨N - 1, by omega⟩
      show (body (f (n - 0))).bind _ = _
      rw [Nat.sub_zero, he]; rfl
    | succ k ih =>
      intro hk N hN
      obtain ⟨M, rfl⟩ : ∃ M, N = M + 1 := ⟨N - 1, by omega⟩
      show (body (f (n - (k + 1)))).bind _ = _
      rw [hs (n - (k + 1)) (by omega), show n - (k + 1) + 1 = n - k by omega]
      exact ih (by omega) M (by omega)
  intro N hN
  have := key n (Nat.le_refl n) N hN
  rwa [Nat.sub_self] at this
theorem lp_ind {σ ρ : Type} {body : σ → Option (σ ⊕ ρ)} (P : σ → Prop) (Q : ρ → Prop) (μ : σ → Nat) (step : ∀ s, P s → (∃ s', body s = some (.inl s') ∧ P s' ∧ μ s' < μ s) ∨ ∃ r, body s = some (.inr r) ∧ Q r) : ∀ (N : Nat) (s : σ), P s → μ s < N → ∃ r, lp body N s = some r ∧ Q r := by
  intro N
  induction N with
  | zero => intro s _ h; omega
  | succ N ih =>
    intro s hP h
    rcases step s hP with ⟨s', h1, h2, h3⟩ | ⟨r, h1, h2⟩
    · obtain ⟨r, h4, h5⟩ := ih s' h2 (by omega)
      refine ⟨r, ?_, h5⟩
      show (body s).bind _ = _
      rw [h1]; exact h4
    · refine ⟨r, ?_, h2⟩
      show (body s).bind _ = _
      rw [h1]; rfl
theorem lg_lt (x y : Int64) : lg_cmp x y < 0 ↔ x < y := by
  unfold lg_cmp
  by_cases h1 : x > y
  · rw [if_pos h1]
    refine ⟨fun h => absurd h (by decide), fun h => ?_⟩
    rw [fa_lt64] at h
    have h2 : y < x := h1
    rw [fa_lt64] at h2
    omega
  · rw [if_neg h1]
    by_cases h2 : x = y
    · rw [if_pos h2]
      subst h2
      refine ⟨fun h => absurd h (by decide), fun h => ?_⟩
      rw [fa_lt64] at h; omega
    · rw [if_neg h2]
      refine ⟨fun _ => ?_, fun _ => by decide⟩
      have h3 : ¬ y < x := h1
      rw [fa_lt64] at h3 ⊢
      have h4 : x.toInt ≠ y.toInt := fun e => h2 (Int64.toInt_inj.mp e)
      omega
theorem lg_gt (x y : Int64) : 0 < lg_cmp x y ↔ y < x := by
  unfold lg_cmp
  by_cases h1 : x > y
  · rw [if_pos h1]
    exact ⟨fun _ => h1, fun _ => by decide⟩
  · rw [if_neg h1]
    refine ⟨fun h => ?_, fun h => absurd h h1⟩
    by_cases h2 : x = y
    · rw [if_pos h2] at h; exact absurd h (by decide)
    · rw [if_neg h2] at h; exact absurd h (by decide)
theorem lg_eq (x y : Int64) : lg_cmp x y = 0 ↔ x = y := by
  unfold lg_cmp
  by_cases h1 : x > y
  · rw [if_pos h1]
    refine ⟨fun h => absurd h (by decide), fun h => ?_⟩
    subst h
    have h2 : x < x := h1
    rw [fa_lt64] at h2; omega
  · rw [if_neg h1]
    by_cases h2 : x = y
    · rw [if_pos h2]; exact ⟨fun _ => h2, fun _ => rfl⟩
    · rw [if_neg h2]; exact ⟨fun h => absurd h (by decide), fun h => absurd h h2⟩
/-! bounds, on both sides -/
def wi (v a b : Int32) : Prop := ¬ v < a ∧ ¬ b < v
theorem v_isWithin {v a b : Int32} : f_X3_isWithin v a b = some (if ¬ v < a ∧ ¬ b < v then 1 else 0) := by
  unfold f_X3_isWithin
  by_cases h1 : v < a
  · rw [if_pos h1, if_neg (fun h => h.1 h1)]
  · rw [if_neg h1]
    by_cases h2 : b < v
    · rw [if_pos h2, if_neg (fun h => h.2 h2)]
    · rw [if_neg h2, if_pos ⟨h1, h2⟩]
theorem v_in {v a b : Int32} {A B : Int64} (hA : A = a.toInt64) (hB : B = b.toInt64) : f_X4_in v.toInt64 A B = some (if ¬ v < a ∧ ¬ b < v then 1 else 0) := by
  subst hA; subst hB
  unfold f_X4_in
  by_cases h1 : v < a
  · rw [if_pos ((lg_lt _ _).mpr ((fa_wide_lt v a).mpr h1)), if_neg (fun h => h.1 h1)]
  · rw [if_neg (fun h => h1 ((fa_wide_lt v a).mp ((lg_lt _ _).mp h)))]
    by_cases h2 : b < v
    · rw [if_pos ((lg_gt _ _).mpr ((fa_wide_lt b v).mpr h2)), if_neg (fun h => h.2 h2)]
    · rw [if_neg (fun h => h2 ((fa_wide_lt b v).mp ((lg_gt _ _).mp h))), if_pos ⟨h1, h2⟩]
/-- a number within 0 .. N -/
theorem wi_n {v : Int32} {N : Nat} {M : Int32} (hM : M = nI N) (hN : N < 2 ^ 31) (h : ¬ v < 0 ∧ ¬ M < v) : ∃ j : Nat, j ≤ N ∧ v = nI j := by
  obtain ⟨j, hj, rfl⟩ := nI_of h.1
  subst hM
  refine ⟨j, ?_, rfl⟩
  rcases Nat.lt_or_ge N j with q | q
  · exact absurd (nI_lt q hj) h.2
  · exact q
theorem wi_n1 {v : Int32} {N : Nat} {M : Int32} (hM : M = nI N) (hN : N < 2 ^ 31) (h : ¬ v < 1 ∧ ¬ M < v) : ∃ j : Nat, 1 ≤ j ∧ j ≤ N ∧ v = nI j := by
  have h0 : ¬ v < 0 := fun q => h.1 (by rw [fa_lt] at q ⊢; have e0 : (0 : Int32).toInt = 0 := rfl; have e1 : (1 : Int32).toInt = 1 := rfl; omega)
  obtain ⟨j, hj, rfl⟩ := wi_n hM hN ⟨h0, h.2⟩
  refine ⟨j, ?_, hj, rfl⟩
  rcases Nat.eq_zero_or_pos j with q | q
  · subst q; exact absurd (by decide) h.1
  · exact q
theorem v_bad {b : Int32} : f_X3_refuseBad b = some (-2, b + 1) := rfl
theorem v_no {b : Int32} : f_X3_refuseNo b = some (-3, b + 1) := rfl
theorem v_full {b : Int32} : f_X3_refuseFull b = some (-4, b + 1) := rfl
theorem i3_0 : inb (0 : Int32) 3 = true := by decide
theorem i3_1 : inb (1 : Int32) 3 = true := by decide
theorem i3_2 : inb (2 : Int32) 3 = true := by decide
theorem cl_0 : (0 : Int32).toNatClampNeg = 0 := by decide
theorem cl_1 : (1 : Int32).toNatClampNeg = 1 := by decide
theorem cl_2 : (2 : Int32).toNatClampNeg = 2 := by decide
theorem cl_3 : (3 : Int32).toNatClampNeg = 3 := by decide
theorem cl_5 : (5 : Int32).toNatClampNeg = 5 := by decide
theorem cl_6 : (6 : Int32).toNatClampNeg = 6 := by decide
theorem cl_7 : (7 : Int32).toNatClampNeg = 7 := by decide
theorem cl_8 : (8 : Int32).toNatClampNeg = 8 := by decide
theorem i27_0 : inb (0 : Int32) 27 = true := by decide
theorem i27_1 : inb (1 : Int32) 27 = true := by decide
theorem i27_5 : inb (5 : Int32) 27 = true := by decide
theorem i27_6 : inb (6 : Int32) 27 = true := by decide
theorem i27_7 : inb (7 : Int32) 27 = true := by decide
theorem i27_8 : inb (8 : Int32) 27 = true := by decide
theorem w_bad {r : Nat → Int32} : f_X4_bad r = some (-2, upd r 0 (r 0 + 1)) := by simp only [f_X4_bad, i3_0, gd_t, cl_0]
theorem w_no {r : Nat → Int32} : f_X4_no r = some (-3, upd r 1 (r 1 + 1)) := by simp only [f_X4_no, i3_1, gd_t, cl_1]
theorem w_full {r : Nat → Int32} : f_X4_full r = some (-4, upd r 2 (r 2 + 1)) := by simp only [f_X4_full, i3_2, gd_t, cl_2]
theorem v_isDay {v : Int32} : f_X3_isDay v = some (if ¬ v < 0 ∧ ¬ 999 < v then 1 else 0) := by
  simp only [f_X3_isDay, v_isWithin, Option.bind_some]
  split <;> rfl
theorem v_isImage {v : Int32} : f_X3_isImage v = some (if ¬ v < 0 ∧ ¬ 1 < v then 1 else 0) := by
  simp only [f_X3_isImage, v_isWithin, Option.bind_some]
  split <;> rfl
theorem w_isWhat {v : Int32} : f_X4_isWhat v = some (if ¬ v < 0 ∧ ¬ 1 < v then 1 else 0) := by
  simp only [f_X4_isWhat, v_in (v := v) (a := 0) (b := 1) (A := 0) (B := 1) rfl rfl, Option.bind_some]
  split <;> rfl
theorem w_in {v a b : Int32} (A B : Int64) (hA : A = a.toInt64 := by rfl) (hB : B = b.toInt64 := by rfl) : f_X4_in v.toInt64 A B = some (if ¬ v < a ∧ ¬ b < v then 1 else 0) := v_in hA hB
/-! bits of sets of six -/
def bit (m j : Nat) : Bool := m.testBit j
theorem v_isIn : ∀ m, m < 64 → ∀ j, j < 6 → f_X3_isIn (nI m) (nI j) = some (if m.testBit j then 1 else 0) := by decide +kernel
theorem w_has : ∀ m, m < 64 → ∀ j, j < 6 → f_X4_has (nI m) (nI j) = some (if m.testBit j then 1 else 0) := by decide +kernel
def pop (m : Nat) : Nat := (if m.testBit 0 then 1 else 0) + (if m.testBit 1 then 1 else 0) + (if m.testBit 2 then 1 else 0) + (if m.testBit 3 then 1 else 0) + (if m.testBit 4 then 1 else 0) + (if m.testBit 5 then 1 else 0)
theorem v_bitCount : ∀ m, m < 64 → f_J6_bitCount_0f7a4 (nI m) = some (nI (pop m)) := by decide +kernel
theorem w_ones : ∀ m, m < 64 → f_X4_ones (nI m) = some (nI (pop m)) := by decide +kernel
theorem pop_le : ∀ m, m < 64 → pop m ≤ 6 := by decide +kernel
