/-! the reference's value, found and agreement -/
theorem pop_cn : ∀ m, m < 64 → cn m 7 6 = pop m ∧ ∀ i, i < 6 → cn m 7 i < 7 := by decide +kernel
theorem w_pointMany {w : Nat → Int32} (hw : ∀ j, j < 6 → tv (w j)) : f_X4_pointMany w = some (nI (pop (tm w))) := by
  have hm := tm_lt w
  have key : lp (b_X4_pointMany_4 w) 200 (nI (cn (tm w) 7 0), nI 0) = some (nI (cn (tm w) 7 6)) := by
    refine lp_run (fun i => (nI (cn (tm w) 7 i), nI i)) 6 (fun i hi => ?_) ?_ 200 (by decide)
    · simp only [b_X4_pointMany_4, if_neg (i6 hi), inb_nI hi (by decide), gd_t, c6 (show i ≤ 6 by omega), nI_1]
      by_cases q : w i = -1
      · have hn : ¬ ((tm w).testBit i = true ∧ cn (tm w) 7 i < 7) := fun h => (tm_bit w i hi).mp h.1 q
        rw [if_pos ((tv_pos (hw i hi)).mpr q), cn_succ_f hn, show nI (cn (tm w) 7 i) + 0 = nI (cn (tm w) 7 i) from nI_add _ 0]
      · rw [if_neg (fun h => q ((tv_pos (hw i hi)).mp h)), cn_succ_t ((tm_bit w i hi).mpr q) ((pop_cn _ hm).2 i hi)]
    · simp only [b_X4_pointMany_4, if_pos i6e]
  have key : lp (b_X4_pointMany_4 w) 200 (0, 0) = some (nI (cn (tm w) 7 6)) := key
  simp only [f_X4_pointMany, key, Option.bind_some, (pop_cn _ hm).1]
theorem w_used {st w used : Nat → Int32} (hw : ∀ j, j < 6 → tv (w j)) {e : Nat} (hst : st 1 = nI e) (he4 : e ≤ 4) : ∃ r : Int32 × (Nat → Int32), lp (b_X4_valueAt_4 st w) 200 (0, 0, used) = some r ∧ r.1 = nI (cn (tm w) e 6) ∧ ∀ k, k < cn (tm w) e 6 → r.2 k = nI (kt (tm w) k) := by
  have hm := tm_lt w
  have h5 : e < 5 := by omega
  exact lp_ind (body := b_X4_valueAt_4 st w) (fun s => ∃ i, i ≤ 6 ∧ s.2.1 = nI i ∧ s.1 = nI (cn (tm w) e i) ∧ ∀ k, k < cn (tm w) e i → s.2.2 k = nI (kt (tm w) k)) (fun r => r.1 = nI (cn (tm w) e 6) ∧ ∀ k, k < cn (tm w) e 6 → r.2 k = nI (kt (tm w) k)) (fun s => 6 - s.2.1.toNatClampNeg) (by
    rintro ⟨n, p, u⟩ ⟨i, hi, rfl, rfl, hu⟩
    have hu : ∀ k, k < cn (tm w) e i → u k = nI (kt (tm w) k) := hu
    have hci := cn_le (tm w) hm e h5 i (by omega)
    rcases Nat.lt_or_ge i 6 with h6 | h6
    · by_cases hc : cn (tm w) e i < e
      · left
        have hnle : ¬ nI e ≤ nI (cn (tm w) e i) := nI_ge hc (by omega)
        by_cases q : w i = -1
        · have hn : ¬ ((tm w).testBit i = true ∧ cn (tm w) e i < e) := fun h => (tm_bit w i h6).mp h.1 q
          refine ⟨(nI (cn (tm w) e i), nI (i + 1), u), ?_, ⟨i + 1, by omega, rfl, by rw [cn_succ_f hn], by rw [cn_succ_f hn]; exact hu⟩, by simp only [c6 hi, c6 (show i + 1 ≤ 6 by omega)]; omega⟩
          simp only [b_X4_valueAt_4, if_neg (i6 h6), i27_1, gd_t, cl_1, hst, if_neg hnle, inb_nI h6 (by decide), c6 hi, if_pos ((tv_pos (hw i h6)).mpr q), nI_1]
        · have hb := (tm_bit w i h6).mpr q
          have hkt := cn_kt _ hm e h5 i h6 ⟨hb, hc⟩
          refine ⟨(nI (cn (tm w) e i + 1), nI (i + 1), upd u (cn (tm w) e i) (nI i)), ?_, ⟨i + 1, by omega, rfl, by rw [cn_succ_t hb hc], ?_⟩, by simp only [c6 hi, c6 (show i + 1 ≤ 6 by omega)]; omega⟩
          · simp only [b_X4_valueAt_4, if_neg (i6 h6), i27_1, gd_t, cl_1, hst, if_neg hnle, inb_nI h6 (by decide), c6 hi, if_neg (fun h => q ((tv_pos (hw i h6)).mp h)), nI_1, inb_nI (show cn (tm w) e i < 4 by omega) (by decide), c6 (show cn (tm w) e i ≤ 6 by omega)]
          · rw [cn_succ_t hb hc]
            intro k hk
            show upd u (cn (tm w) e i) (nI i) k = _
            rcases Nat.lt_or_ge k (cn (tm w) e i) with hk2 | hk2
            · rw [pk_un (by omega)]; exact hu k hk2
            · rw [show k = cn (tm w) e i by omega, pk_us, hkt]
      · right
        have hce : cn (tm w) e 6 = cn (tm w) e i := (cn_ex _ hm e h5 i h6).resolve_left hc
        have hle : nI e ≤ nI (cn (tm w) e i) := nI_le (by omega) (by omega)
        refine ⟨(nI (cn (tm w) e i), u), ?_, by rw [hce], by rw [hce]; exact hu⟩
        simp only [b_X4_valueAt_4, if_neg (i6 h6), i27_1, gd_t, cl_1, hst, if_pos hle]
    · right
      have : i = 6 := by omega
      subst this
      exact ⟨(nI (cn (tm w) e 6), u), by simp only [b_X4_valueAt_4, if_pos i6e], rfl, hu⟩) 200 (0, 0, used) ⟨0, by omega, rfl, rfl, fun k hk => absurd hk (by simp [cn])⟩ (by show 6 - (0 : Int32).toNatClampNeg < 200; decide)
theorem m97l (a b : Nat) : (a % 97 * b) % 97 = (a * b) % 97 := by rw [Nat.mul_mod, Nat.mod_mod, ← Nat.mul_mod]
theorem m97x (a w t i : Nat) : ((a * w % 97 * t) % 97 * i) % 97 = (a * (((w * t) % 97 * i) % 97)) % 97 := by
  rw [m97l, Nat.mul_assoc (a * w % 97) t i, m97l, Nat.mul_comm a (((w * t) % 97 * i) % 97), m97l, Nat.mul_assoc ((w * t) % 97) i a, m97l]
  congr 1
  ac_rfl
theorem w_inner {w : Nat → Int32} {m e x k a : Nat} {y2 : Int32 × (Nat → Int32)} {s3 : Int32} (hm : m < 64) (he4 : e ≤ 4) (hx : x < 7) (hk : k < e) (ha : a < 97) (h1 : y2.1 = nI e) (h2 : ∀ k, k < e → y2.2 k = nI (kt m k)) : lp (b_X4_valueAt_73 (nI x) y2 (s3, nI k)) 200 (nI a, 0) = some (nI (a * wp m x k e % 97)) := by
  have wl : ∀ j, wp m x k j < 97 := by
    intro j
    induction j with
    | zero => show 1 < 97; decide
    | succ j ih =>
      simp only [wp]
      split
      · exact ih
      · exact Nat.mod_lt _ (by decide)
  have key : lp (b_X4_valueAt_73 (nI x) y2 (s3, nI k)) 200 (nI (a * wp m x k 0 % 97), nI 0) = some (nI (a * wp m x k e % 97)) := by
    refine lp_run (fun j => (nI (a * wp m x k j % 97), nI j)) e (fun j hj => ?_) ?_ 200 (by omega)
    · have hnle : ¬ nI e ≤ nI j := nI_ge hj (by omega)
      simp only [b_X4_valueAt_73, h1, if_neg hnle, nI_1]
      by_cases q : j = k
      · subst q
        rw [if_pos rfl]
        simp only [wp, if_true]
      · have hq : ¬ nI j = nI k := nI_lit (by omega) (by omega) q
        have kj := kt_lt m hm j (by omega)
        have kk := kt_lt m hm k (by omega)
        obtain ⟨t1, t2⟩ := w_top x hx (kt m j) kj
        obtain ⟨u1, u2⟩ := w_under (kt m k) kk (kt m j) kj
        obtain ⟨v1, v2⟩ := w_inverse (UN (kt m k) (kt m j)) u2
        have b1 : a * wp m x k j % 97 * TP x (kt m j) < 2 ^ 31 := by
          have := Nat.mod_lt (a * wp m x k j) (show 0 < 97 by decide)
          have : a * wp m x k j % 97 * TP x (kt m j) ≤ 97 * 97 := Nat.mul_le_mul (by omega) (by omega)
          omega
        have b2 : (a * wp m x k j % 97 * TP x (kt m j)) % 97 * IN (UN (kt m k) (kt m j)) < 2 ^ 31 := by
          have := Nat.mod_lt (a * wp m x k j % 97 * TP x (kt m j)) (show 0 < 97 by decide)
          have : (a * wp m x k j % 97 * TP x (kt m j)) % 97 * IN (UN (kt m k) (kt m j)) ≤ 97 * 97 := Nat.mul_le_mul (by omega) (by omega)
          omega
        rw [if_neg hq]
        simp only [inb_nI (show j < 4 by omega) (by decide), inb_nI (show k < 4 by omega) (by decide), gd_t, nm, c6 (show j ≤ 6 by omega), c6 (show k ≤ 6 by omega), h2 j hj, h2 k hk, t1, u1, v1, Option.bind_some, pk_mul, jr97 b1, jr97 b2]
        simp only [wp, if_neg q, m97x]
    · simp only [b_X4_valueAt_73, h1]
      rw [if_pos (nI_le (Nat.le_refl e) (by omega))]
  have e0 : a * wp m x k 0 % 97 = a := by
    show a * 1 % 97 = a
    omega
  rw [e0] at key
  exact key
theorem w_valueAt {st w : Nat → Int32} (used : Nat → Int32) (hw : ∀ j, j < 6 → tv (w j)) {e x : Nat} (hst : st 1 = nI e) (he : 1 ≤ e) (he4 : e ≤ 4) (hp : e ≤ pop (tm w)) (hx : x < 7) : ∃ u : Nat → Int32, f_X4_valueAt st w used (nI x) = some (nI (vl w e x), u) := by
  have hm := tm_lt w
  have h5 : e < 5 := by omega
  have hc6 : cn (tm w) e 6 = e := by rw [(cn_end _ hm e h5).1]; omega
  obtain ⟨y2, h0, h1, h2⟩ := w_used (used := used) hw hst he4
  rw [hc6] at h1 h2
  have key : lp (b_X4_valueAt_50 w (nI x) y2) 200 (nI (sm w (tm w) e x 0 % 97), nI 0) = some (nI (sm w (tm w) e x e % 97)) := by
    refine lp_run (fun k => (nI (sm w (tm w) e x k % 97), nI k)) e (fun k hk => ?_) ?_ 200 (by omega)
    · have hnle : ¬ nI e ≤ nI k := nI_ge hk (by omega)
      have kk := kt_lt (tm w) hm k (by omega)
      have hv := tv_val (hw _ kk) ((tm_bit w _ kk).mp (kt_in _ hm k (by omega)))
      have hin := w_inner (w := w) (s3 := nI (sm w (tm w) e x k % 97)) hm he4 hx hk hv.1 h1 h2
      rw [← hv.2] at hin
      have hin : lp (b_X4_valueAt_73 (nI x) y2 (nI (sm w (tm w) e x k % 97), nI k)) 200 (w (kt (tm w) k), 0) = _ := hin
      have b1 : sm w (tm w) e x k % 97 + (w (kt (tm w) k)).toNatClampNeg * wp (tm w) x k e % 97 < 2 ^ 31 := by omega
      simp only [b_X4_valueAt_50, h1, if_neg hnle, inb_nI (show k < 4 by omega) (by decide), gd_t, c6 (show k ≤ 6 by omega), h2 k hk, inb_nI kk (by decide), c6 (show kt (tm w) k ≤ 6 by omega), hin, Option.bind_some, nI_add, nI_1, jr97 b1]
      rw [wp_W _ hm e h5 hp k hk x hx]
      simp only [sm]
      rw [← Nat.add_mod]
    · simp only [b_X4_valueAt_50, h1]
      rw [if_pos (nI_le (Nat.le_refl e) (by omega))]
  have key : lp (b_X4_valueAt_50 w (nI x) y2) 200 (0, 0) = some (nI (sm w (tm w) e x e % 97)) := key
  exact ⟨y2.2, by simp only [f_X4_valueAt, h0, key, Option.bind_some, vl]⟩
theorem w_found {st w : Nat → Int32} (used : Nat → Int32) (hw : ∀ j, j < 6 → tv (w j)) {e : Nat} (hst : st 1 = nI e) (he : 1 ≤ e) (he4 : e ≤ 4) : ∃ u : Nat → Int32, f_X4_found st w used = some (fnd w e, u) := by
  have hp6 := pop_le _ (tm_lt w)
  by_cases q : e ≤ pop (tm w)
  · obtain ⟨u, hu⟩ := w_valueAt used hw hst he he4 q (show 0 < 7 by decide)
    have hu : f_X4_valueAt st w used 0 = _ := hu
    refine ⟨u, ?_⟩
    simp only [f_X4_found, w_pointMany hw, Option.bind_some, i27_1, gd_t, cl_1, hst, fnd, if_pos q]
    rw [if_pos (nI_le q (by omega)), hu]
    rfl
  · refine ⟨used, ?_⟩
    simp only [f_X4_found, w_pointMany hw, Option.bind_some, i27_1, gd_t, cl_1, hst, fnd, if_neg q]
    rw [if_neg (nI_ge (by omega) (by omega))]
theorem w_agrees {st w : Nat → Int32} (used : Nat → Int32) (hw : ∀ j, j < 6 → tv (w j)) {e : Nat} (hst : st 1 = nI e) (he : 1 ≤ e) (he4 : e ≤ 4) (hp : e ≤ pop (tm w)) : ∃ u : Nat → Int32, f_X4_agrees st w used = some (if agb w e = true then 1 else 0, u) := by
  obtain ⟨r, hr, hQ⟩ := lp_ind (body := b_X4_agrees_4 st w) (fun s => ∃ i, i ≤ 6 ∧ s.2.1 = nI i ∧ ((s.1 = 1 ∧ ∀ p, p < i → w p = -1 ∨ w p = nI (vl w e (p + 1))) ∨ (s.1 = 0 ∧ ¬ agb w e = true))) (fun r => (r.1 = 1 ∧ agb w e = true) ∨ (r.1 = 0 ∧ ¬ agb w e = true)) (fun s => 6 - s.2.1.toNatClampNeg) (by
    rintro ⟨is, p, u⟩ ⟨i, hi, rfl, hs⟩
    have hs : (is = 1 ∧ ∀ p, p < i → w p = -1 ∨ w p = nI (vl w e (p + 1))) ∨ (is = 0 ∧ ¬ agb w e = true) := hs
    rcases Nat.lt_or_ge i 6 with h6 | h6
    · left
      have e1 : nI i + 1 = nI (i + 1) := nI_1 i
      rcases hs with ⟨rfl, hok⟩ | ⟨rfl, hno⟩
      · obtain ⟨u2, hv⟩ := w_valueAt u hw hst he he4 hp (show i + 1 < 7 by omega)
        by_cases h1 : w i = -1
        · refine ⟨(1, nI (i + 1), u), ?_, ⟨i + 1, by omega, rfl, Or.inl ⟨rfl, fun p hp => ?_⟩⟩, by simp only [c6 hi, c6 (show i + 1 ≤ 6 by omega)]; omega⟩
          · simp only [b_X4_agrees_4, if_neg (i6 h6), if_neg (by decide : ¬ (1 : Int32) = 0), inb_nI h6 (by decide), gd_t, c6 hi, if_pos ((tv_pos (hw i h6)).mpr h1), e1]
          · rcases Nat.lt_or_ge p i with hp2 | hp2
            · exact hok p hp2
            · rw [show p = i by omega]; exact Or.inl h1
        · have hnl : ¬ w i < 0 := fun h => h1 ((tv_pos (hw i h6)).mp h)
          by_cases h2 : nI (vl w e (i + 1)) = w i
          · refine ⟨(1, nI (i + 1), u2), ?_, ⟨i + 1, by omega, rfl, Or.inl ⟨rfl, fun p hp => ?_⟩⟩, by simp only [c6 hi, c6 (show i + 1 ≤ 6 by omega)]; omega⟩
            · simp only [b_X4_agrees_4, if_neg (i6 h6), if_neg (by decide : ¬ (1 : Int32) = 0), inb_nI h6 (by decide), gd_t, c6 hi, if_neg hnl, e1, hv, Option.bind_some, if_pos h2]
            · rcases Nat.lt_or_ge p i with hp2 | hp2
              · exact hok p hp2
              · rw [show p = i by omega]; exact Or.inr h2.symm
          · refine ⟨(0, nI (i + 1), u2), ?_, ⟨i + 1, by omega, rfl, Or.inr ⟨rfl, fun h => ?_⟩⟩, by simp only [c6 hi, c6 (show i + 1 ≤ 6 by omega)]; omega⟩
            · simp only [b_X4_agrees_4, if_neg (i6 h6), if_neg (by decide : ¬ (1 : Int32) = 0), inb_nI h6 (by decide), gd_t, c6 hi, if_neg hnl, e1, hv, Option.bind_some, if_neg h2]
            · rcases (agb_iff w e).mp h i h6 with z | z
              · exact h1 z
              · exact h2 z.symm
      · refine ⟨(0, nI (i + 1), u), ?_, ⟨i + 1, by omega, rfl, Or.inr ⟨rfl, hno⟩⟩, by simp only [c6 hi, c6 (show i + 1 ≤ 6 by omega)]; omega⟩
        simp only [b_X4_agrees_4, if_neg (i6 h6), if_true, e1]
    · right
      have : i = 6 := by omega
      subst this
      refine ⟨(is, u), by simp only [b_X4_agrees_4, if_pos i6e], ?_⟩
      rcases hs with ⟨rfl, hok⟩ | ⟨rfl, hno⟩
      · exact Or.inl ⟨rfl, (agb_iff w e).mpr hok⟩
      · exact Or.inr ⟨rfl, hno⟩) 200 (1, 0, used) ⟨0, by omega, rfl, Or.inl ⟨rfl, fun p hp => absurd hp (by omega)⟩⟩ (by show 6 - (0 : Int32).toNatClampNeg < 200; decide)
  refine ⟨r.2, ?_⟩
  simp only [f_X4_agrees, hr, Option.bind_some]
  rcases hQ with ⟨h1, h2⟩ | ⟨h1, h2⟩
  · rw [h1, if_pos h2, bz_1, gd_t]
  · rw [h1, if_neg h2, bz_0, gd_t]
