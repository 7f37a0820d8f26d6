theorem tv_clamp {x : Int32} (h : tv x) : x.toNatClampNeg < 97 := by
  rcases h with rfl | ⟨c, hc, rfl⟩
  · decide
  · rw [nI_clamp (show c < 2 ^ 31 by omega)]; exact hc
theorem sm_le {w : Nat → Int32} (hw : ∀ j, j < 6 → tv (w j)) {m e x : Nat} (hm : m < 64) (he : e < 5) (hx : x < 7) : ∀ k, k < 7 → sm w m e x k ≤ k * 9409 := by
  intro k
  induction k with
  | zero => intro _; exact Nat.le_refl _
  | succ k ih =>
    intro hk
    have h1 := ih (by omega)
    have hkt := kt_lt m hm k (by omega)
    have h2 := tv_clamp (hw (kt m k) hkt)
    have h3 := (v_weight (fb m e) (cn_end m hm e he).2 (kt m k) hkt x hx).2
    have h4 : (w (kt m k)).toNatClampNeg * Wt (fb m e) (kt m k) x ≤ 97 * 97 := Nat.mul_le_mul (by omega) (by omega)
    simp only [sm]
    omega
theorem cn_succ_t {m e i : Nat} (hb : m.testBit i = true) (hc : cn m e i < e) : cn m e (i + 1) = cn m e i + 1 := by
  simp only [cn, hb, hc, true_and, if_true]
theorem cn_succ_f {m e i : Nat} (h : ¬ (m.testBit i = true ∧ cn m e i < e)) : cn m e (i + 1) = cn m e i := by
  simp only [cn]
  rw [if_neg h]
theorem v_valueAt {w : Nat → Int32} (hw : ∀ j, j < 6 → tv (w j)) {e x : Nat} (he : 1 ≤ e) (he4 : e ≤ 4) (hp : e ≤ pop (tm w)) (hx : x < 7) : f_X2_valueAt w (nI (fb (tm w) e)) (nI x) = some (nI (vl w e x)) := by
  have hm := tm_lt w
  have h5 : e < 5 := by omega
  have hf := (cn_end _ hm e h5).2
  have key : lp (b_X2_valueAt_5 w (nI (fb (tm w) e)) (nI x)) 200 (nI (sm w (tm w) e x (cn (tm w) e 0)), nI 0) = some (nI (sm w (tm w) e x (cn (tm w) e 6))) := by
    refine lp_run (fun i => (nI (sm w (tm w) e x (cn (tm w) e i)), nI i)) 6 (fun i hi => ?_) ?_ 200 (by decide)
    · simp only [b_X2_valueAt_5, if_neg (i6 hi), v_isIn _ hf i hi, Option.bind_some, c6 (show i ≤ 6 by omega), inb_nI hi (by decide), gd_t, nI_1]
      by_cases q : (fb (tm w) e).testBit i = true
      · have hbc := (cn_fb _ hm e h5 i hi).mp q
        have hkt := cn_kt _ hm e h5 i hi hbc
        have hv := tv_val (hw i hi) ((tm_bit w i hi).mp hbc.1)
        rw [q, if_pos rfl, if_neg (by decide : ¬ (1 : Int32) = 0), (v_weight _ hf i hi x hx).1, Option.bind_some]
        rw [hv.2, cn_succ_t hbc.1 hbc.2]
        simp only [sm, hkt]
        rw [pk_mul, nI_add]
      · have hn : ¬ ((tm w).testBit i = true ∧ cn (tm w) e i < e) := fun h => q ((cn_fb _ hm e h5 i hi).mpr h)
        rw [if_neg q, if_pos rfl, cn_succ_f hn]
    · simp only [b_X2_valueAt_5, if_pos i6e]
  have key : lp (b_X2_valueAt_5 w (nI (fb (tm w) e)) (nI x)) 200 (0, 0) = some (nI (sm w (tm w) e x (cn (tm w) e 6))) := key
  have hc6 : cn (tm w) e 6 = e := by rw [(cn_end _ hm e h5).1]; omega
  have hle := sm_le hw hm h5 hx e (by omega)
  simp only [f_X2_valueAt, key, Option.bind_some, hc6, v_leftOver (show sm w (tm w) e x e < 2 ^ 31 by omega), vl]
theorem v_foundBy {w : Nat → Int32} (hw : ∀ j, j < 6 → tv (w j)) {e : Nat} (he : 1 ≤ e) (he4 : e ≤ 4) : f_X2_foundBy w (nI e) = some (fnd w e) := by
  have hm := tm_lt w
  simp only [f_X2_foundBy, v_firstBits w he he4, Option.bind_some, fnd]
  by_cases q : e ≤ pop (tm w)
  · have hne : ¬ nI (fb (tm w) e) = -1 := fun h => by
      have h1 := congrArg Int32.toInt h
      have h3 := (cn_end _ hm e (by omega)).2
      rw [nI_toInt (by omega)] at h1
      have h2 : (-1 : Int32).toInt = -1 := rfl
      omega
    have hv := v_valueAt hw he he4 q (show 0 < 7 by decide)
    have hv : f_X2_valueAt w (nI (fb (tm w) e)) 0 = some (nI (vl w e 0)) := hv
    rw [if_pos q, if_pos q, if_neg hne, hv]
    rfl
  · rw [if_neg q, if_neg q, if_pos rfl]
/-- whether all told ones lie on the row -/
def agb (w : Nat → Int32) (e : Nat) : Bool := (List.range 6).all (fun p => decide (w p = -1) || decide (w p = nI (vl w e (p + 1))))
theorem agb_iff (w : Nat → Int32) (e : Nat) : agb w e = true ↔ ∀ p, p < 6 → w p = -1 ∨ w p = nI (vl w e (p + 1)) := by
  simp [agb, List.all_eq_true]
theorem agb_congr {w w' : Nat → Int32} (h : ∀ j, j < 6 → w j = w' j) {e : Nat} (he : e ≤ 4) : agb w e = agb w' e := by
  apply Bool.eq_iff_iff.mpr
  rw [agb_iff, agb_iff]
  refine ⟨fun q p hp => ?_, fun q p hp => ?_⟩
  · have := q p hp; rw [h p hp, vl_congr h he] at this; exact this
  · have := q p hp; rw [← h p hp, ← vl_congr h he] at this; exact this
theorem v_agreesBy {w : Nat → Int32} (hw : ∀ j, j < 6 → tv (w j)) {e : Nat} (he : 1 ≤ e) (he4 : e ≤ 4) : f_X2_agreesBy w (nI e) = some (if e ≤ pop (tm w) ∧ agb w e = true then 1 else 0) := by
  have hm := tm_lt w
  simp only [f_X2_agreesBy, v_firstBits w he he4, Option.bind_some]
  by_cases q : e ≤ pop (tm w)
  · have hne : ¬ nI (fb (tm w) e) = -1 := fun h => by
      have h1 := congrArg Int32.toInt h
      have h3 := (cn_end _ hm e (by omega)).2
      rw [nI_toInt (by omega)] at h1
      have h2 : (-1 : Int32).toInt = -1 := rfl
      omega
    rw [if_pos q, if_neg hne]
    obtain ⟨r, hr, hQ⟩ := lp_ind (body := b_X2_agreesBy_15 w (nI (fb (tm w) e))) (fun s => ∃ i, i ≤ 6 ∧ s = nI i ∧ ∀ p, p < i → w p = -1 ∨ w p = nI (vl w e (p + 1))) (fun r => (r = Sum.inl () ∧ agb w e = true) ∨ (r = Sum.inr 0 ∧ ¬ agb w e = true)) (fun s => 6 - s.toNatClampNeg) (by
      rintro s ⟨i, hi, rfl, hok⟩
      rcases Nat.lt_or_ge i 6 with h6 | h6
      · have e1 : nI i + 1 = nI (i + 1) := nI_1 i
        have hv := v_valueAt hw he he4 q (show i + 1 < 7 by omega)
        by_cases h1 : w i = -1
        · left
          refine ⟨nI (i + 1), ?_, ⟨i + 1, by omega, rfl, fun p hp => ?_⟩, by simp only [c6 hi, c6 (show i + 1 ≤ 6 by omega)]; omega⟩
          · simp only [b_X2_agreesBy_15, if_neg (i6 h6), inb_nI h6 (by decide), gd_t, c6 hi, if_pos h1, e1]
          · rcases Nat.lt_or_ge p i with hp2 | hp2
            · exact hok p hp2
            · rw [show p = i by omega]; exact Or.inl h1
        · by_cases h2 : w i = nI (vl w e (i + 1))
          · left
            refine ⟨nI (i + 1), ?_, ⟨i + 1, by omega, rfl, fun p hp => ?_⟩, by simp only [c6 hi, c6 (show i + 1 ≤ 6 by omega)]; omega⟩
            · simp only [b_X2_agreesBy_15, if_neg (i6 h6), inb_nI h6 (by decide), gd_t, c6 hi, if_neg h1, e1, hv, Option.bind_some, if_pos h2]
            · rcases Nat.lt_or_ge p i with hp2 | hp2
              · exact hok p hp2
              · rw [show p = i by omega]; exact Or.inr h2
          · right
            refine ⟨Sum.inr 0, ?_, Or.inr ⟨rfl, fun h => ?_⟩⟩
            · simp only [b_X2_agreesBy_15, if_neg (i6 h6), inb_nI h6 (by decide), gd_t, c6 hi, if_neg h1, e1, hv, Option.bind_some, if_neg h2]
            · rcases (agb_iff w e).mp h i h6 with z | z
              · exact h1 z
              · exact h2 z
      · right
        have : i = 6 := by omega
        subst this
        exact ⟨Sum.inl (), by simp only [b_X2_agreesBy_15, if_pos i6e], Or.inl ⟨rfl, (agb_iff w e).mpr hok⟩⟩) 200 (nI 0) ⟨0, by omega, rfl, fun p hp => absurd hp (by omega)⟩ (by simp only [c6 (show 0 ≤ 6 by omega)]; omega)
    have hr : lp (b_X2_agreesBy_15 w (nI (fb (tm w) e))) 200 0 = some r := hr
    rw [hr]
    rcases hQ with ⟨rfl, h⟩ | ⟨rfl, h⟩
    · rw [if_pos ⟨q, h⟩]; rfl
    · rw [if_neg (fun z => h z.2)]; rfl
  · rw [if_neg q, if_pos rfl, if_neg (fun z => q z.1)]
