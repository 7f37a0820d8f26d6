/-! what is found of what is told: the row through the first ones told -/
/-- six numbers told or not, as a set of bits -/
def tm (w : Nat → Int32) : Nat := (if w 0 = -1 then 0 else 1) + (if w 1 = -1 then 0 else 2) + (if w 2 = -1 then 0 else 4) + (if w 3 = -1 then 0 else 8) + (if w 4 = -1 then 0 else 16) + (if w 5 = -1 then 0 else 32)
theorem tm_bits : ∀ b0 b1 b2 b3 b4 b5 : Bool, ((if b0 then 0 else 1) + (if b1 then 0 else 2) + (if b2 then 0 else 4) + (if b3 then 0 else 8) + (if b4 then 0 else 16) + (if b5 then 0 else 32)) < 64 ∧ ∀ j, j < 6 → (((if b0 then 0 else 1) + (if b1 then 0 else 2) + (if b2 then 0 else 4) + (if b3 then 0 else 8) + (if b4 then 0 else 16) + (if b5 then 0 else 32)).testBit j = !([b0, b1, b2, b3, b4, b5].getD j true)) := by decide +kernel
theorem tm_eq (w : Nat → Int32) : tm w = ((if decide (w 0 = -1) then 0 else 1) + (if decide (w 1 = -1) then 0 else 2) + (if decide (w 2 = -1) then 0 else 4) + (if decide (w 3 = -1) then 0 else 8) + (if decide (w 4 = -1) then 0 else 16) + (if decide (w 5 = -1) then 0 else 32)) := by
  simp [tm]
theorem tm_lt (w : Nat → Int32) : tm w < 64 := by rw [tm_eq]; exact (tm_bits _ _ _ _ _ _).1
theorem tm_bit (w : Nat → Int32) : ∀ j, j < 6 → ((tm w).testBit j = true ↔ w j ≠ -1) := by
  intro j hj
  rw [tm_eq, (tm_bits _ _ _ _ _ _).2 j hj]
  rcases (show j = 0 ∨ j = 1 ∨ j = 2 ∨ j = 3 ∨ j = 4 ∨ j = 5 by omega) with rfl | rfl | rfl | rfl | rfl | rfl <;> simp
theorem tm_congr {w w' : Nat → Int32} (h : ∀ j, j < 6 → w j = w' j) : tm w = tm w' := by
  simp only [tm, h 0 (by decide), h 1 (by decide), h 2 (by decide), h 3 (by decide), h 4 (by decide), h 5 (by decide)]
/-- how many are taken below i, the k-th taken, the set of the first e -/
def cn (m e : Nat) : Nat → Nat
  | 0 => 0
  | i + 1 => if m.testBit i ∧ cn m e i < e then cn m e i + 1 else cn m e i
def kt (m k : Nat) : Nat := ((List.range 6).filter (fun j => m.testBit j)).getD k 0
def fb (m e : Nat) : Nat := (((List.range 6).filter (fun j => m.testBit j)).take e).foldl (fun s j => s + 2 ^ j) 0
theorem cn_end : ∀ m, m < 64 → ∀ e, e < 5 → cn m e 6 = min e (pop m) ∧ fb m e < 64 := by decide +kernel
theorem cn_le : ∀ m, m < 64 → ∀ e, e < 5 → ∀ i, i < 7 → cn m e i ≤ e := by decide +kernel
theorem cn_kt : ∀ m, m < 64 → ∀ e, e < 5 → ∀ i, i < 6 → (m.testBit i = true ∧ cn m e i < e) → kt m (cn m e i) = i := by decide +kernel
theorem cn_fb : ∀ m, m < 64 → ∀ e, e < 5 → ∀ i, i < 6 → ((fb m e).testBit i = true ↔ (m.testBit i = true ∧ cn m e i < e)) := by decide +kernel
theorem cn_ex : ∀ m, m < 64 → ∀ e, e < 5 → ∀ i, i < 6 → (cn m e i < e ∨ cn m e 6 = cn m e i) := by decide +kernel
theorem kt_lt : ∀ m, m < 64 → ∀ k, k < 7 → kt m k < 6 := by decide +kernel
theorem kt_in : ∀ m, m < 64 → ∀ k, k < pop m → m.testBit (kt m k) = true := by decide +kernel
/-- the weight of point p among the points of a set, at x -/
def Wt (f p x : Nat) : Nat := ((f_X2_weight (nI f) (nI p) (nI x)).getD 0).toNatClampNeg
theorem v_weight : ∀ f, f < 64 → ∀ p, p < 6 → ∀ x, x < 7 → f_X2_weight (nI f) (nI p) (nI x) = some (nI (Wt f p x)) ∧ Wt f p x < 97 := by decide +kernel
