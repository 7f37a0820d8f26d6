/-! found, on both sides -/
def cnn (m i : Nat) : Nat := cn m 7 i
theorem tv_pos {x : Int32} (h : tv x) : x < 0 ↔ x = -1 := by
  rcases h with rfl | ⟨c, hc, rfl⟩
  · exact ⟨fun _ => rfl, fun _ => by decide⟩
  · refine ⟨fun q => absurd q (nI_pos (by omega)), fun q => ?_⟩
    have h1 := congrArg Int32.toInt q
    rw [nI_toInt (by omega)] at h1
    have h2 : (-1 : Int32).toInt = -1 := rfl
    omega
theorem tv_val {x : Int32} (h : tv x) (hn : x ≠ -1) : x.toNatClampNeg < 97 ∧ x = nI x.toNatClampNeg := by
  rcases h with rfl | ⟨c, hc, rfl⟩
  · exact absurd rfl hn
  · rw [nI_clamp (show c < 2 ^ 31 by omega)]; exact ⟨hc, rfl⟩
/-- the sum of the first k told ones, each by its weight -/
def sm (w : Nat → Int32) (m e x : Nat) : Nat → Nat
  | 0 => 0
  | k + 1 => sm w m e x k + (w (kt m k)).toNatClampNeg * Wt (fb m e) (kt m k) x
/-- the value at x of the row through the first e of those told -/
def vl (w : Nat → Int32) (e x : Nat) : Nat := sm w (tm w) e x e % 97
/-- what is found -/
def fnd (w : Nat → Int32) (e : Nat) : Int32 := if e ≤ pop (tm w) then nI (vl w e 0) else -1
theorem sm_congr {w w' : Nat → Int32} (h : ∀ j, j < 6 → w j = w' j) {m e x : Nat} (hm : m < 64) : ∀ k, k < 7 → sm w m e x k = sm w' m e x k := by
  intro k
  induction k with
  | zero => intro _; rfl
  | succ k ih =>
    intro hk
    simp only [sm]
    rw [ih (by omega), h (kt m k) (kt_lt m hm k (by omega))]
theorem vl_congr {w w' : Nat → Int32} (h : ∀ j, j < 6 → w j = w' j) {e x : Nat} (he : e ≤ 4) : vl w e x = vl w' e x := by
  simp only [vl, tm_congr h]
  rw [sm_congr h (tm_lt w') e (by omega)]
theorem fnd_congr {w w' : Nat → Int32} (h : ∀ j, j < 6 → w j = w' j) {e : Nat} (he : e ≤ 4) : fnd w e = fnd w' e := by
  simp only [fnd, tm_congr h, vl_congr h he]
/-! the class -/
theorem i6 {i : Nat} (h : i < 6) : ¬ (6 : Int32) ≤ nI i := nI_ge (a := i) (b := 6) h (by decide)
theorem i6e : (6 : Int32) ≤ nI 6 := by decide
theorem c6 {i : Nat} (h : i ≤ 6) : (nI i).toNatClampNeg = i := nI_clamp (by omega)
theorem or_bit : ∀ m, m < 64 → ∀ i, i < 6 → nI (m % 2 ^ i) ||| jshl 1 (nI i) = nI (m % 2 ^ i + 2 ^ i) := by decide +kernel
theorem mod_step : ∀ m, m < 64 → ∀ i, i < 6 → m % 2 ^ (i + 1) = if m.testBit i then m % 2 ^ i + 2 ^ i else m % 2 ^ i := by decide +kernel
theorem v_bits (w : Nat → Int32) : f_X2_bits w = some (nI (tm w)) := by
  have hm := tm_lt w
  have key : lp (b_X2_bits_4 w) 200 (nI (tm w % 2 ^ 0), nI 0) = some (nI (tm w)) := by
    refine lp_run (fun i => (nI (tm w % 2 ^ i), nI i)) 6 (fun i hi => ?_) ?_ 200 (by decide)
    · simp only [b_X2_bits_4, if_neg (i6 hi), inb_nI hi (by decide), gd_t, c6 (show i ≤ 6 by omega), nI_1]
      by_cases q : w i = -1
      · have hb : (tm w).testBit i = false := by
          rcases hq : (tm w).testBit i with _ | _
          · rfl
          · exact absurd q ((tm_bit w i hi).mp hq)
        rw [if_pos q, mod_step _ hm i hi, hb]; rfl
      · have hb : (tm w).testBit i = true := (tm_bit w i hi).mpr q
        rw [if_neg q, mod_step _ hm i hi, hb, or_bit _ hm i hi]; rfl
    · simp only [b_X2_bits_4]
      rw [if_pos i6e, show tm w % 2 ^ 6 = tm w from Nat.mod_eq_of_lt hm]
  have key : lp (b_X2_bits_4 w) 200 (0, 0) = some (nI (tm w)) := by
    have e0 : tm w % 2 ^ 0 = 0 := Nat.mod_one _
    rw [e0] at key; exact key
  simp only [f_X2_bits, key, Option.bind_some]
theorem v_size (w : Nat → Int32) : f_X2_size w = some (nI (pop (tm w))) := by
  simp only [f_X2_size, v_bits, Option.bind_some, v_bitCount _ (tm_lt w)]
theorem fb_or : ∀ m, m < 64 → ∀ e, e < 5 → ∀ i, i < 6 → m.testBit i = true ∧ cn m e i < e → nI (fb m e % 2 ^ i) ||| jshl 1 (nI i) = nI (fb m e % 2 ^ (i + 1)) := by decide +kernel
theorem fb_no : ∀ m, m < 64 → ∀ e, e < 5 → ∀ i, i < 6 → ¬ m.testBit i = true → fb m e % 2 ^ (i + 1) = fb m e % 2 ^ i := by decide +kernel
theorem fb_ex : ∀ m, m < 64 → ∀ e, e < 5 → ∀ i, i < 7 → ¬ cn m e i < e → fb m e % 2 ^ i = fb m e := by decide +kernel
theorem v_firstBits (w : Nat → Int32) {e : Nat} (he : 1 ≤ e) (he4 : e ≤ 4) : f_X2_firstBits w (nI e) = some (if e ≤ pop (tm w) then nI (fb (tm w) e) else -1) := by
  have hm := tm_lt w
  have h5 : e < 5 := by omega
  obtain ⟨r, hr, hQ⟩ := lp_ind (body := b_X2_firstBits_7 w (nI e)) (fun s => ∃ i, i ≤ 6 ∧ s = (nI (fb (tm w) e % 2 ^ i), nI (cn (tm w) e i), nI i)) (fun r => r = (nI (fb (tm w) e), nI (cn (tm w) e 6))) (fun s => 6 - s.2.2.toNatClampNeg) (by
    rintro s ⟨i, hi, rfl⟩
    have hci := cn_le (tm w) hm e h5 i (by omega)
    rcases Nat.lt_or_ge i 6 with h6 | h6
    · by_cases hc : cn (tm w) e i < e
      · left
        have hnle : ¬ nI e ≤ nI (cn (tm w) e i) := nI_ge hc (by omega)
        by_cases q : w i = -1
        · have hb : ¬ (tm w).testBit i = true := fun hb => (tm_bit w i h6).mp hb q
          refine ⟨_, ?_, ⟨i + 1, by omega, rfl⟩, by simp only [c6 hi, c6 (show i + 1 ≤ 6 by omega)]; omega⟩
          simp only [b_X2_firstBits_7, if_neg (i6 h6), if_neg hnle, inb_nI h6 (by decide), gd_t, c6 hi, if_pos q, nI_1, fb_no _ hm e h5 i h6 hb, cn, hb, false_and, if_false]
          try rfl
        · have hb : (tm w).testBit i = true := (tm_bit w i h6).mpr q
          refine ⟨_, ?_, ⟨i + 1, by omega, rfl⟩, by simp only [c6 hi, c6 (show i + 1 ≤ 6 by omega)]; omega⟩
          simp only [b_X2_firstBits_7, if_neg (i6 h6), if_neg hnle, inb_nI h6 (by decide), gd_t, c6 hi, if_neg q, nI_1, fb_or _ hm e h5 i h6 ⟨hb, hc⟩, cn, hb, hc, true_and, if_true]
          try rfl
      · right
        have hce : cn (tm w) e 6 = cn (tm w) e i := (cn_ex _ hm e h5 i h6).resolve_left hc
        refine ⟨_, ?_, rfl⟩
        have hle : nI e ≤ nI (cn (tm w) e i) := nI_le (by omega) (by omega)
        simp only [b_X2_firstBits_7, if_neg (i6 h6), if_pos hle, hce, fb_ex _ hm e h5 i (by omega) hc]
    · right
      have : i = 6 := by omega
      subst this
      refine ⟨_, ?_, rfl⟩
      simp only [b_X2_firstBits_7, if_pos i6e]
      rw [show fb (tm w) e % 2 ^ 6 = fb (tm w) e from Nat.mod_eq_of_lt (cn_end _ hm e h5).2]) 200 (nI (fb (tm w) e % 2 ^ 0), nI (cn (tm w) e 0), nI 0) ⟨0, by omega, rfl⟩ (by simp only [c6 (show 0 ≤ 6 by omega)]; omega)
  have e0 : fb (tm w) e % 2 ^ 0 = 0 := Nat.mod_one _
  rw [e0] at hr
  have hr : lp (b_X2_firstBits_7 w (nI e)) 200 (0, 0, 0) = some r := hr
  simp only [f_X2_firstBits, hr, Option.bind_some, hQ, (cn_end _ hm e h5).1]
  have hp := pop_le _ hm
  by_cases q : e ≤ pop (tm w)
  · rw [if_pos q, if_pos (nI_le (by omega) (by omega))]
  · rw [if_neg q, if_neg (nI_ge (by omega) (by omega))]
