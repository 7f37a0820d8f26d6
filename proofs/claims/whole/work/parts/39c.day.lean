/-! what is told on a day, and what comes of it, on both sides -/
theorem v_everyone : ∀ h, h < 7 → f_X0_everyone (nI h) = some (nI (2 ^ h - 1)) := by decide +kernel
theorem all_n : ∀ h, h < 7 → jshl 1 (nI h) - 1 = nI (2 ^ h - 1) ∧ 2 ^ h ≤ 64 := by decide +kernel
theorem bit_lt : ∀ h, h < 7 → ∀ m, m < 64 → m < 2 ^ h → ∀ j, j < 6 → m.testBit j = true → j < h := by decide +kernel
theorem v_hasAll {h : Nat} (hh : h ≤ 6) (p : Int32) : f_X0_hasAll (nI h) p = some (if ¬ p < 0 ∧ ¬ nI (2 ^ h - 1) < p then 1 else 0) := by
  simp only [f_X0_hasAll, v_everyone h (by omega), Option.bind_some]
  by_cases h1 : p < 0
  · rw [if_pos h1, if_neg (fun z => z.1 h1)]
  · rw [if_neg h1]
    by_cases h2 : nI (2 ^ h - 1) < p
    · rw [if_pos h2, if_neg (fun z => z.2 h2)]
    · rw [if_neg h2, if_pos ⟨h1, h2⟩]
theorem w_areHolders {st : Nat → Int32} {h : Nat} (hh : h ≤ 6) (h8 : st 8 = nI h) (p : Int32) : f_X4_areHolders st p = some (if ¬ p < 0 ∧ ¬ nI (2 ^ h - 1) < p then 1 else 0) := by
  simp only [f_X4_areHolders, i27_8, gd_t, cl_8, h8, (all_n h (by omega)).1]
  rw [v_in (v := p) (a := 0) (b := nI (2 ^ h - 1)) (A := 0) rfl rfl, Option.bind_some]
  split <;> rfl
theorem w_everybody {st : Nat → Int32} {h : Nat} (hh : h ≤ 6) (h8 : st 8 = nI h) : f_X4_everybody st = some (nI (2 ^ h - 1)) := by
  simp only [f_X4_everybody, i27_8, gd_t, cl_8, h8, (all_n h (by omega)).1]
theorem v_hasHolder {h : Nat} (p : Int32) : f_X0_hasHolder (nI h) p = some (if ¬ p < 0 ∧ ¬ nI h ≤ p then 1 else 0) := by
  simp only [f_X0_hasHolder]
  by_cases h1 : p < 0
  · rw [if_pos h1, if_neg (fun z => z.1 h1)]
  · rw [if_neg h1]
    by_cases h2 : nI h ≤ p
    · rw [if_pos h2, if_neg (fun z => z.2 h2)]
    · rw [if_neg h2, if_pos ⟨h1, h2⟩]
theorem pred_lt {h : Nat} (hh : h ≤ 6) (p : Int32) : (nI h - 1) < p ↔ nI h ≤ p := by
  have e1 : (nI h - 1).toInt = (h : Int) - 1 := pk_sub_toInt (a := h) (b := 1) (by omega) (by decide)
  rw [fa_lt, fa_le, e1, nI_toInt (by omega)]
  omega
theorem w_isHolder {st : Nat → Int32} {h : Nat} (hh : h ≤ 6) (h8 : st 8 = nI h) (p : Int32) : f_X4_isHolder st p = some (if ¬ p < 0 ∧ ¬ nI h ≤ p then 1 else 0) := by
  simp only [f_X4_isHolder, i27_8, gd_t, cl_8, h8]
  rw [v_in (v := p) (a := 0) (b := nI h - 1) (A := 0) rfl rfl, Option.bind_some]
  simp only [pred_lt hh]
  split <;> rfl
/-- the holder's number within 0 .. h - 1 -/
theorem wi_h {v : Int32} {h : Nat} (hh : h ≤ 6) (q : ¬ v < 0 ∧ ¬ nI h ≤ v) : ∃ j : Nat, j < h ∧ v = nI j := by
  obtain ⟨j, hj, rfl⟩ := nI_of q.1
  refine ⟨j, ?_, rfl⟩
  rcases Nat.lt_or_ge j h with z | z
  · exact z
  · exact absurd (nI_le z hj) q.2
/-- a safe's data on both sides -/
def SD (n e h c1 c2 c3 : Nat) (kinds extras fac st : Nat → Int32) : Prop :=
  (n < 97 ∧ 1 ≤ e ∧ e ≤ 4 ∧ h ≤ 6 ∧ c1 < 97 ∧ c2 < 97 ∧ c3 < 97) ∧ (fac 0 = nI c1 ∧ fac 1 = nI c2 ∧ fac 2 = nI c3) ∧ (st 0 = nI n ∧ st 1 = nI e ∧ st 2 = nI c1 ∧ st 3 = nI c2 ∧ st 4 = nI c3 ∧ st 8 = nI h) ∧ ∀ j, j < h → (st (9 + j)).toNatClampNeg < 6 ∧ (st (15 + j)).toNatClampNeg < 97 ∧ kinds j = nI (st (9 + j)).toNatClampNeg ∧ st (9 + j) = nI (st (9 + j)).toNatClampNeg ∧ extras j = nI (st (15 + j)).toNatClampNeg ∧ st (15 + j) = nI (st (15 + j)).toNatClampNeg
/-- what is told by those of a set on day d -/
def WD (n e c1 c2 c3 : Nat) (st : Nat → Int32) (d who : Nat) (j : Nat) : Int32 := if who.testBit j = true then wd (st (9 + j)).toNatClampNeg (st (15 + j)).toNatClampNeg (sh n e c1 c2 c3 j) d (pop who) else -1
theorem WD_tv (n e c1 c2 c3 : Nat) (st : Nat → Int32) (d who : Nat) : ∀ j, j < 6 → tv (WD n e c1 c2 c3 st d who j) := by
  intro j _
  unfold WD
  split
  · exact wd_tv (sh_lt _ _ _ _ _ _)
  · exact Or.inl rfl
theorem SD.share {n e h c1 c2 c3 : Nat} {kinds extras fac st : Nat → Int32} (S : SD n e h c1 c2 c3 kinds extras fac st) {j : Nat} (hj : j < 6) : f_X0_shareOf (nI n) (nI e) fac (nI j) = some (nI (sh n e c1 c2 c3 j)) ∧ f_X4_shareOf 27 st 0 (nI j) = some (nI (sh n e c1 c2 c3 j)) := by
  obtain ⟨⟨hn, he, he4, hh, k1, k2, k3⟩, ⟨f1, f2, f3⟩, ⟨s0, s1, s2, s3, s4, s8⟩, -⟩ := S
  exact ⟨v_shareOf hn he he4 f1 f2 f3 k1 k2 k3 hj, w_shareOf (b := 0) (by decide) (by decide) hn he he4 s0 s1 s2 s3 s4 k1 k2 k3 hj⟩
theorem SD.word {n e h c1 c2 c3 : Nat} {kinds extras fac st : Nat → Int32} (S : SD n e h c1 c2 c3 kinds extras fac st) {j d m : Nat} (hj : j < h) (hd : d < 2000) (hm : m ≤ 6) : f_X0_wordOf (nI n) (nI e) kinds extras fac (nI j) (nI d) (nI m) = some (wd (st (9 + j)).toNatClampNeg (st (15 + j)).toNatClampNeg (sh n e c1 c2 c3 j) d m) ∧ f_X4_toldOf st (nI j) (nI (sh n e c1 c2 c3 j)) (nI d) (nI m) = some (wd (st (9 + j)).toNatClampNeg (st (15 + j)).toNatClampNeg (sh n e c1 c2 c3 j) d m) := by
  obtain ⟨⟨hn, he, he4, hh, k1, k2, k3⟩, ⟨f1, f2, f3⟩, ⟨s0, s1, s2, s3, s4, s8⟩, H⟩ := S
  obtain ⟨q1, q2, q3, q4, q5, q6⟩ := H j hj
  exact ⟨v_wordOf hn he he4 f1 f2 f3 k1 k2 k3 (by omega) q3 q5 q1 q2 hd hm, w_toldOf (sh_lt _ _ _ _ _ _) (by omega) q4 q6 q1 q2 hd hm⟩
theorem v_collect {n e h c1 c2 c3 : Nat} {kinds extras fac st row : Nat → Int32} (S : SD n e h c1 c2 c3 kinds extras fac st) {d who : Nat} (hd : d < 2000) (hw : who < 2 ^ h) : f_X0_collect (nI n) (nI e) kinds extras fac row (nI who) (nI d) = some (fa_fill (WD n e c1 c2 c3 st d who) row 6) := by
  have hh : h ≤ 6 := S.1.2.2.2.1
  have hw64 : who < 64 := Nat.lt_of_lt_of_le hw (all_n h (by omega)).2
  have key : lp (b_X0_collect_9 (nI n) (nI e) kinds extras fac (nI who) (nI d) (nI (pop who))) 200 (nI 0, fa_fill (WD n e c1 c2 c3 st d who) row 0) = some (fa_fill (WD n e c1 c2 c3 st d who) row 6) := by
    refine lp_run (fun i => (nI i, fa_fill (WD n e c1 c2 c3 st d who) row i)) 6 (fun i hi => ?_) ?_ 200 (by decide)
    · simp only [b_X0_collect_9, if_neg (i6 hi), v_isIn _ hw64 i hi, Option.bind_some, nI_1]
      by_cases q : who.testBit i = true
      · have hih := bit_lt h (by omega) who hw64 hw i hi q
        rw [if_pos q, if_neg (by decide : ¬ (1 : Int32) = 0), (S.word hih hd (pop_le _ hw64)).1]
        simp only [Option.bind_some, v_put6 hi]
        rw [← fa_fill_succ]
        simp only [WD, if_pos q]
      · rw [if_neg q, if_pos rfl]
        simp only [Option.bind_some, v_put6 hi]
        rw [← fa_fill_succ]
        simp only [WD, if_neg q]
    · simp only [b_X0_collect_9, if_pos i6e]
  rw [fa_fill_0] at key
  have key : lp (b_X0_collect_9 (nI n) (nI e) kinds extras fac (nI who) (nI d) (nI (pop who))) 200 (0, row) = _ := key
  simp only [f_X0_collect, v_bitCount _ hw64, Option.bind_some, key]
theorem w_tellAll {n e h c1 c2 c3 : Nat} {kinds extras fac st pts : Nat → Int32} (S : SD n e h c1 c2 c3 kinds extras fac st) {d who : Nat} (hd : d < 2000) (hw : who < 2 ^ h) : f_X4_tellAll st pts (nI who) (nI d) = some (fa_fill (WD n e c1 c2 c3 st d who) pts 6) := by
  have hh : h ≤ 6 := S.1.2.2.2.1
  have hw64 : who < 64 := Nat.lt_of_lt_of_le hw (all_n h (by omega)).2
  have key : lp (b_X4_tellAll_8 st (nI who) (nI d) (nI (pop who))) 200 (nI 0, fa_fill (WD n e c1 c2 c3 st d who) pts 0) = some (fa_fill (WD n e c1 c2 c3 st d who) pts 6) := by
    refine lp_run (fun i => (nI i, fa_fill (WD n e c1 c2 c3 st d who) pts i)) 6 (fun i hi => ?_) ?_ 200 (by decide)
    · simp only [b_X4_tellAll_8, if_neg (i6 hi), w_has _ hw64 i hi, Option.bind_some, nI_1]
      by_cases q : who.testBit i = true
      · have hih := bit_lt h (by omega) who hw64 hw i hi q
        rw [if_pos q, if_neg (by decide : ¬ (1 : Int32) = 0), (S.share hi).2]
        simp only [Option.bind_some, (S.word hih hd (pop_le _ hw64)).2, inb_nI hi (by decide), gd_t, c6 (show i ≤ 6 by omega)]
        rw [← fa_fill_succ]
        simp only [WD, if_pos q]
      · rw [if_neg q, if_pos rfl]
        simp only [Option.bind_some, inb_nI hi (by decide), gd_t, c6 (show i ≤ 6 by omega)]
        rw [← fa_fill_succ]
        simp only [WD, if_neg q]
    · simp only [b_X4_tellAll_8, if_pos i6e]
  rw [fa_fill_0] at key
  have key : lp (b_X4_tellAll_8 st (nI who) (nI d) (nI (pop who))) 200 (0, pts) = _ := key
  simp only [f_X4_tellAll, w_ones _ hw64, Option.bind_some, key]
theorem fill6 (f g : Nat → Int32) : ∀ j, j < 6 → fa_fill f g 6 j = f j := fun _ hj => fa_fill_in hj
theorem fill_tv {f g : Nat → Int32} (h : ∀ j, j < 6 → tv (f j)) : ∀ j, j < 6 → tv (fa_fill f g 6 j) := fun j hj => by rw [fill6 f g j hj]; exact h j hj
/-- 0: lacking, 1: opens, 2: wrong -/
def oc (w : Nat → Int32) (e n : Nat) : Int32 := if fnd w e = -1 then 0 else if fnd w e = nI n then 1 else 2
theorem nI_nm1 {c : Nat} (h : c < 97) : ¬ nI c = -1 := fun q => by
  have h1 := congrArg Int32.toInt q
  rw [nI_toInt (by omega)] at h1
  have h2 : (-1 : Int32).toInt = -1 := rfl
  omega
theorem vl_lt (w : Nat → Int32) (e x : Nat) : vl w e x < 97 := Nat.mod_lt _ (by decide)
theorem fnd_cases (w : Nat → Int32) (e : Nat) : fnd w e = -1 ∨ ∃ c, c < 97 ∧ fnd w e = nI c := by
  unfold fnd
  split
  · exact Or.inr ⟨_, vl_lt w e 0, rfl⟩
  · exact Or.inl rfl
theorem v_outcome {n e h c1 c2 c3 : Nat} {kinds extras fac st row : Nat → Int32} (S : SD n e h c1 c2 c3 kinds extras fac st) {d who : Nat} (hd : d < 2000) (hw : who < 2 ^ h) : ∃ r : Nat → Int32, f_X0_outcome (nI n) (nI e) kinds extras fac row (nI who) (nI d) = some (oc (WD n e c1 c2 c3 st d who) e n, r) := by
  obtain ⟨⟨hn, he, he4, hh, k1, k2, k3⟩, -⟩ := id S
  refine ⟨fa_fill (WD n e c1 c2 c3 st d who) row 6, ?_⟩
  simp only [f_X0_outcome, v_collect S hd hw, Option.bind_some, v_foundBy (fill_tv (WD_tv n e c1 c2 c3 st d who)) he he4, fnd_congr (fill6 (WD n e c1 c2 c3 st d who) row) he4, oc]
  split
  · rfl
  · split <;> rfl
theorem w_triedBy {n e h c1 c2 c3 : Nat} {kinds extras fac st pts used : Nat → Int32} (S : SD n e h c1 c2 c3 kinds extras fac st) {d who : Nat} (hd : d < 2000) (hw : who < 2 ^ h) : ∃ p u : Nat → Int32, f_X4_triedBy st pts used (nI who) (nI d) = some (oc (WD n e c1 c2 c3 st d who) e n, p, u) := by
  obtain ⟨⟨hn, he, he4, hh, k1, k2, k3⟩, -, ⟨s0, s1, -⟩, -⟩ := id S
  obtain ⟨u, hu⟩ := w_found (w := fa_fill (WD n e c1 c2 c3 st d who) pts 6) used (fill_tv (WD_tv n e c1 c2 c3 st d who)) s1 he he4
  rw [fnd_congr (fill6 (WD n e c1 c2 c3 st d who) pts) he4] at hu
  refine ⟨fa_fill (WD n e c1 c2 c3 st d who) pts 6, u, ?_⟩
  simp only [f_X4_triedBy, w_tellAll S hd hw, Option.bind_some, hu, i27_0, gd_t, cl_0, s0, oc]
  rcases fnd_cases (WD n e c1 c2 c3 st d who) e with q | ⟨c, hc, q⟩
  · rw [q, if_neg (by decide), if_pos rfl]
  · rw [q, if_pos (nI_pos' (by omega)), if_neg (nI_nm1 hc)]
    split <;> rfl
