/-! the value of the row, on both sides -/
def IN (d : Nat) : Nat := ([0, 1, 49, 65, 73, 39, 81, 14, 85, 54, 68, 53, 89, 15, 7, 13, 91, 40, 27, 46, 34, 37, 75, 38, 93, 66, 56, 18, 52, 87, 55, 72, 94, 50, 20, 61, 62, 21, 23, 5, 17, 71, 67, 88, 86, 69, 19, 64, 95, 2, 33, 78, 28, 11, 9, 30, 26, 80, 92, 74, 76, 35, 36, 77, 47, 3, 25, 42, 10, 45, 79, 41, 31, 4, 59, 22, 60, 63, 51, 70, 57, 6, 84, 90, 82, 8, 44, 29, 43, 12, 83, 16, 58, 24, 32, 48, 96] : List Nat).getD d 0
theorem w_inverse : ∀ d, d < 97 → f_X4_inverse (nI d) = some (nI (IN d)) ∧ IN d < 97 := by decide +kernel
def TP (x q : Nat) : Nat := (x + 96 - q) % 97
def UN (p q : Nat) : Nat := (p + 97 - q) % 97
theorem w_top : ∀ x, x < 7 → ∀ q, q < 6 → jrem (((nI x - nI q) - 1) + 97) 97 = nI (TP x q) ∧ TP x q < 97 := by decide +kernel
theorem w_under : ∀ p, p < 6 → ∀ q, q < 6 → jrem ((nI p - nI q) + 97) 97 = nI (UN p q) ∧ UN p q < 97 := by decide +kernel
def wp (m x k : Nat) : Nat → Nat
  | 0 => 1
  | j + 1 => if j = k then wp m x k j else ((wp m x k j * TP x (kt m j)) % 97 * IN (UN (kt m k) (kt m j))) % 97
theorem wp_W : ∀ m, m < 64 → ∀ e, e < 5 → e ≤ pop m → ∀ k, k < e → ∀ x, x < 7 → wp m x k e = Wt (fb m e) (kt m k) x := by decide +kernel
