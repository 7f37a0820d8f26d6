/-- what is told with one true share and the others without it -/
def EW (n e c1 c2 c3 h : Nat) (st : Nat → Int32) (i d : Nat) : Nat → Int32 := upd (WD n e c1 c2 c3 st d (2 ^ h - 1 - 2 ^ i)) i (nI (sh n e c1 c2 c3 i))
def EN (n e c1 c2 c3 h : Nat) (st : Nat → Int32) (i d : Nat) : Nat → Nat
  | 0 => 0
  | j + 1 => EN n e c1 c2 c3 h st i d j + (if fnd (EW n e c1 c2 c3 h st i (d + j)) e = nI n then 1 else 0)
theorem EN_le (n e c1 c2 c3 h : Nat) (st : Nat → Int32) (i d : Nat) : ∀ j, EN n e c1 c2 c3 h st i d j ≤ j
  | 0 => Nat.le_refl 0
  | j + 1 => by
    have := EN_le n e c1 c2 c3 h st i d j
    simp only [EN]
    split <;> omega
theorem EW_f {n e c1 c2 c3 h : Nat} {st : Nat → Int32} {i d : Nat} (g : Nat → Int32) : ∀ j, j < 6 → upd (fa_fill (WD n e c1 c2 c3 st d (2 ^ h - 1 - 2 ^ i)) g 6) i (nI (sh n e c1 c2 c3 i)) j = EW n e c1 c2 c3 h st i d j := fun j hj => by
  unfold EW
  by_cases q : j = i
  · subst q
    rw [pk_us, pk_us]
  · rw [pk_un q, pk_un q, fill6 _ _ j hj]
theorem EW_tv {n e c1 c2 c3 h : Nat} {st : Nat → Int32} {i d : Nat} (g : Nat → Int32) : ∀ j, j < 6 → tv (upd (fa_fill (WD n e c1 c2 c3 st d (2 ^ h - 1 - 2 ^ i)) g 6) i (nI (sh n e c1 c2 c3 i)) j) := fun j hj => by
  by_cases q : j = i
  · subst q
    rw [pk_us]
    exact Or.inr ⟨_, sh_lt _ _ _ _ _ _, rfl⟩
  · rw [pk_un q]
    exact fill_tv (WD_tv n e c1 c2 c3 st d _) j hj
theorem v_envDays {n e h c1 c2 c3 : Nat} {kinds extras fac st : Nat → Int32} (S : SD n e h c1 c2 c3 kinds extras fac st) {i d : Nat} (hi : i < h) (hd : d ≤ 990) (row : Nat → Int32) : ∃ r : Nat → Int32, f_X3_envelopeDays (nI n) (nI e) (nI h) kinds extras fac row (nI i) (nI d) = some (nI (EN n e c1 c2 c3 h st i d 10), r) := by
  obtain ⟨g1, g2, g3, g4, g5, g6, g7⟩ := S.1
  obtain ⟨w1, w2⟩ := without_n h (by omega) i hi
  obtain ⟨r, q1, q2⟩ := lp_ind (body := b_X3_envelopeDays_5 (nI n) (nI e) (nI h) kinds extras fac (nI i) (nI d)) (fun x => ∃ j, j ≤ 10 ∧ x.2.1 = nI j ∧ x.1 = nI (EN n e c1 c2 c3 h st i d j)) (fun r => r.1 = nI (EN n e c1 c2 c3 h st i d 10)) (fun x => 10 - x.2.1.toNatClampNeg) (by
    rintro ⟨c, p, f⟩ ⟨j, hj, hp, hc⟩
    dsimp only at hp hc
    subst hp hc
    by_cases z : j = 10
    · right
      subst z
      have k1 : (10 : Int32) ≤ nI 10 := by decide
      exact ⟨(nI (EN n e c1 c2 c3 h st i d 10), f), by simp only [b_X3_envelopeDays_5, if_pos k1], rfl⟩
    · left
      have k1 : ¬ (10 : Int32) ≤ nI j := nI_ge (a := j) (b := 10) (by omega) (by decide)
      have hμ : 10 - (nI (j + 1)).toNatClampNeg < 10 - (nI j).toNatClampNeg := by
        rw [nI_clamp (by omega), nI_clamp (by omega)]
        omega
      have F := v_foundBy (EW_tv (n := n) (e := e) (c1 := c1) (c2 := c2) (c3 := c3) (h := h) (st := st) (i := i) (d := d + j) f) g2 g3
      rw [fnd_congr (EW_f f) g3] at F
      by_cases c : fnd (EW n e c1 c2 c3 h st i (d + j)) e = nI n
      · refine ⟨(nI (EN n e c1 c2 c3 h st i d (j + 1)), nI (j + 1), upd (fa_fill (WD n e c1 c2 c3 st (d + j) (2 ^ h - 1 - 2 ^ i)) f 6) i (nI (sh n e c1 c2 c3 i))), ?_, ⟨j + 1, by omega, rfl, rfl⟩, hμ⟩
        simp only [b_X3_envelopeDays_5, if_neg k1, v_everyone h (by omega), Option.bind_some, w1, nI_add, v_collect S (show d + j < 2000 by omega) w2, (S.share (show i < 6 by omega)).1, v_put6 (show i < 6 by omega), F, if_pos c, EN]
        rw [nI_1, nI_1]
      · refine ⟨(nI (EN n e c1 c2 c3 h st i d (j + 1)), nI (j + 1), upd (fa_fill (WD n e c1 c2 c3 st (d + j) (2 ^ h - 1 - 2 ^ i)) f 6) i (nI (sh n e c1 c2 c3 i))), ?_, ⟨j + 1, by omega, rfl, rfl⟩, hμ⟩
        simp only [b_X3_envelopeDays_5, if_neg k1, v_everyone h (by omega), Option.bind_some, w1, nI_add, v_collect S (show d + j < 2000 by omega) w2, (S.share (show i < 6 by omega)).1, v_put6 (show i < 6 by omega), F, if_neg c, EN, Nat.add_zero]
        rw [nI_1]) 200 (0, 0, row) ⟨0, by omega, rfl, rfl⟩ (by show 10 - (0 : Int32).toNatClampNeg < 200; omega)
  refine ⟨r.2, ?_⟩
  simp only [f_X3_envelopeDays, q1, Option.bind_some]
  rw [q2]
theorem w_envDays {n e h c1 c2 c3 : Nat} {kinds extras fac st : Nat → Int32} (S : SD n e h c1 c2 c3 kinds extras fac st) {i d : Nat} (hi : i < h) (hd : d ≤ 990) (x4 : Int32 × Int32 × Int32 × (Nat → Int32) × (Nat → Int32)) (hx : x4.2.2.1 = nI i) (pts used : Nat → Int32) : ∃ p u : Nat → Int32, lp (b_X4_envelope_50 st (nI d) x4) 200 (0, nI d, pts, used) = some (nI (EN n e c1 c2 c3 h st i d 10), p, u) := by
  obtain ⟨⟨g1, g2, g3, g4, g5, g6, g7⟩, _, ⟨s0, s1, _, _, _, s8⟩, _⟩ := id S
  obtain ⟨w1, w2⟩ := without_n h (by omega) i hi
  have e10 : nI d + (10 : Int32) = nI (d + 10) := nI_add d 10
  obtain ⟨r, q1, q2⟩ := lp_ind (body := b_X4_envelope_50 st (nI d) x4) (fun x => ∃ j, j ≤ 10 ∧ x.2.1 = nI (d + j) ∧ x.1 = nI (EN n e c1 c2 c3 h st i d j)) (fun r => r.1 = nI (EN n e c1 c2 c3 h st i d 10)) (fun x => d + 10 - x.2.1.toNatClampNeg) (by
    rintro ⟨c, p, f, u⟩ ⟨j, hj, hp, hc⟩
    dsimp only at hp hc
    subst hp hc
    by_cases z : j = 10
    · right
      subst z
      have k1 : nI (d + 10) ≤ nI (d + 10) := nI_le (Nat.le_refl _) (by omega)
      exact ⟨(nI (EN n e c1 c2 c3 h st i d 10), f, u), by simp only [b_X4_envelope_50, e10, if_pos k1], rfl⟩
    · left
      have k1 : ¬ nI (d + 10) ≤ nI (d + j) := nI_ge (by omega) (by omega)
      have hμ : d + 10 - (nI (d + j + 1)).toNatClampNeg < d + 10 - (nI (d + j)).toNatClampNeg := by
        rw [nI_clamp (by omega), nI_clamp (by omega)]
        omega
      obtain ⟨us, F⟩ := w_found (st := st) u (EW_tv (n := n) (e := e) (c1 := c1) (c2 := c2) (c3 := c3) (h := h) (st := st) (i := i) (d := d + j) f) s1 g2 g3
      rw [fnd_congr (EW_f f) g3] at F
      by_cases c : fnd (EW n e c1 c2 c3 h st i (d + j)) e = nI n
      · refine ⟨(nI (EN n e c1 c2 c3 h st i d (j + 1)), nI (d + j + 1), upd (fa_fill (WD n e c1 c2 c3 st (d + j) (2 ^ h - 1 - 2 ^ i)) f 6) i (nI (sh n e c1 c2 c3 i)), us), ?_, ⟨j + 1, by omega, rfl, rfl⟩, hμ⟩
        simp only [b_X4_envelope_50, e10, if_neg k1, w_everybody g4 s8, Option.bind_some, hx, w1, w_tellAll S (show d + j < 2000 by omega) w2, (S.share (show i < 6 by omega)).2, inb_nI (show i < 6 by omega) (by decide), nI_clamp (show i < 2 ^ 31 by omega), gd_t, F, i27_0, cl_0, s0, if_pos c, EN]
        rw [nI_1, nI_1]
      · refine ⟨(nI (EN n e c1 c2 c3 h st i d (j + 1)), nI (d + j + 1), upd (fa_fill (WD n e c1 c2 c3 st (d + j) (2 ^ h - 1 - 2 ^ i)) f 6) i (nI (sh n e c1 c2 c3 i)), us), ?_, ⟨j + 1, by omega, rfl, rfl⟩, hμ⟩
        simp only [b_X4_envelope_50, e10, if_neg k1, w_everybody g4 s8, Option.bind_some, hx, w1, w_tellAll S (show d + j < 2000 by omega) w2, (S.share (show i < 6 by omega)).2, inb_nI (show i < 6 by omega) (by decide), nI_clamp (show i < 2 ^ 31 by omega), gd_t, F, i27_0, cl_0, s0, if_neg c, EN, Nat.add_zero, Int32.add_zero]
        rw [nI_1]) 200 (0, nI d, pts, used) ⟨0, by omega, rfl, rfl⟩ (by show d + 10 - (nI d).toNatClampNeg < 200; rw [nI_clamp (by omega)]; omega)
  refine ⟨r.2.1, r.2.2, ?_⟩
  rw [q1, ← q2]
def OB (c : Nat → Nat) : Nat → Int32 × Int32
  | 0 => (-1, -1)
  | i + 1 => if nI (c i) ≤ (OB c i).2 then OB c i else (nI i, nI (c i))
theorem OB_cases (c : Nat → Nat) : ∀ i, OB c i = (-1, -1) ∨ ∃ a, a < i ∧ OB c i = (nI a, nI (c a))
  | 0 => Or.inl rfl
  | i + 1 => by
    simp only [OB]
    split
    · rcases OB_cases c i with h | ⟨a, ha, h⟩
      · exact Or.inl h
      · exact Or.inr ⟨a, by omega, h⟩
    · exact Or.inr ⟨i, by omega, rfl⟩
theorem OB_ge {c : Nat → Nat} (hc : ∀ i, c i ≤ 10) (i : Nat) : (-1 : Int32) ≤ (OB c i).2 := by
  rcases OB_cases c i with h | ⟨a, _, h⟩
  · rw [h]; decide
  · rw [h]
    show (-1 : Int32) ≤ nI (c a)
    have := hc a
    rw [fa_le, nI_toInt (by omega), show (-1 : Int32).toInt = -1 by decide]
    omega
theorem v_env {n e h c1 c2 c3 : Nat} {kinds extras fac st : Nat → Int32} (S : SD n e h c1 c2 c3 kinds extras fac st) {d : Nat} (hd : d ≤ 990) (row : Nat → Int32) : ∃ r : Nat → Int32, lp (b_X3_envelope_33 (nI n) (nI e) (nI h) kinds extras fac (nI d)) 200 (-1, -1, 0, row) = some ((OB (fun i => EN n e c1 c2 c3 h st i d 10) h).1, (OB (fun i => EN n e c1 c2 c3 h st i d 10) h).2, r) := by
  have g4 : h ≤ 6 := S.1.2.2.2.1
  obtain ⟨r, q1, q2, q3⟩ := lp_ind (body := b_X3_envelope_33 (nI n) (nI e) (nI h) kinds extras fac (nI d)) (fun s => ∃ i, i ≤ 6 ∧ s.2.2.1 = nI i ∧ s.1 = (OB (fun i => EN n e c1 c2 c3 h st i d 10) (min i h)).1 ∧ s.2.1 = (OB (fun i => EN n e c1 c2 c3 h st i d 10) (min i h)).2) (fun r => r.1 = (OB (fun i => EN n e c1 c2 c3 h st i d 10) h).1 ∧ r.2.1 = (OB (fun i => EN n e c1 c2 c3 h st i d 10) h).2) (fun s => 6 - s.2.2.1.toNatClampNeg) (by
    rintro ⟨b, c, p, f⟩ ⟨i, hi, hp, hb, hc⟩
    dsimp only at hp hb hc
    subst hp hb hc
    rcases Nat.lt_or_ge i 6 with h6 | h6
    · left
      have hμ : 6 - (nI (i + 1)).toNatClampNeg < 6 - (nI i).toNatClampNeg := by
        rw [nI_clamp (by omega), nI_clamp (by omega)]
        omega
      rcases Nat.lt_or_ge i h with hh | hh
      · have k1 : ¬ nI i < 0 ∧ ¬ nI h ≤ nI i := ⟨nI_pos (by omega), nI_ge hh (by omega)⟩
        obtain ⟨r', hr'⟩ := v_envDays S hh hd f
        have e1 : min i h = i := by omega
        have e2 : min (i + 1) h = i + 1 := by omega
        rw [e1]
        by_cases z : nI (EN n e c1 c2 c3 h st i d 10) ≤ (OB (fun i => EN n e c1 c2 c3 h st i d 10) i).2
        · have e3 : OB (fun i => EN n e c1 c2 c3 h st i d 10) (i + 1) = OB (fun i => EN n e c1 c2 c3 h st i d 10) i := by
            simp only [OB]
            rw [if_pos z]
          refine ⟨((OB (fun i => EN n e c1 c2 c3 h st i d 10) i).1, (OB (fun i => EN n e c1 c2 c3 h st i d 10) i).2, nI (i + 1), r'), ?_, ⟨i + 1, by omega, rfl, by rw [e2, e3], by rw [e2, e3]⟩, hμ⟩
          simp only [b_X3_envelope_33, if_neg (i6 h6), v_hasHolder, if_pos k1, Option.bind_some, n10, ↓reduceIte, hr', if_pos z, nI_1]
        · have e3 : OB (fun i => EN n e c1 c2 c3 h st i d 10) (i + 1) = (nI i, nI (EN n e c1 c2 c3 h st i d 10)) := by
            simp only [OB]
            rw [if_neg z]
          refine ⟨(nI i, nI (EN n e c1 c2 c3 h st i d 10), nI (i + 1), r'), ?_, ⟨i + 1, by omega, rfl, by rw [e2, e3], by rw [e2, e3]⟩, hμ⟩
          simp only [b_X3_envelope_33, if_neg (i6 h6), v_hasHolder, if_pos k1, Option.bind_some, n10, ↓reduceIte, hr', if_neg z, nI_1]
      · have k1 : ¬ (¬ nI i < 0 ∧ ¬ nI h ≤ nI i) := fun q => q.2 (nI_le hh (by omega))
        have k2 : (-1 : Int32) ≤ (OB (fun i => EN n e c1 c2 c3 h st i d 10) (min i h)).2 := OB_ge (fun i => EN_le n e c1 c2 c3 h st i d 10) _
        refine ⟨((OB (fun i => EN n e c1 c2 c3 h st i d 10) (min i h)).1, (OB (fun i => EN n e c1 c2 c3 h st i d 10) (min i h)).2, nI (i + 1), f), ?_, ⟨i + 1, by omega, rfl, by rw [show min (i + 1) h = min i h by omega], by rw [show min (i + 1) h = min i h by omega]⟩, hμ⟩
        simp only [b_X3_envelope_33, if_neg (i6 h6), v_hasHolder, if_neg k1, Option.bind_some, ↓reduceIte, if_pos k2, nI_1]
    · right
      have : i = 6 := by omega
      subst this
      exact ⟨((OB (fun i => EN n e c1 c2 c3 h st i d 10) (min 6 h)).1, (OB (fun i => EN n e c1 c2 c3 h st i d 10) (min 6 h)).2, f), by simp only [b_X3_envelope_33, if_pos i6e], by rw [show min 6 h = h by omega], by rw [show min 6 h = h by omega]⟩) 200 (-1, -1, 0, row) ⟨0, by omega, rfl, by rw [show min 0 h = 0 by omega]; rfl, by rw [show min 0 h = 0 by omega]; rfl⟩ (by show 6 - (0 : Int32).toNatClampNeg < 200; omega)
  exact ⟨r.2.2, by rw [q1, ← q2, ← q3]⟩
theorem w_env {n e h c1 c2 c3 : Nat} {kinds extras fac st : Nat → Int32} (S : SD n e h c1 c2 c3 kinds extras fac st) {d : Nat} (hd : d ≤ 990) (pts used : Nat → Int32) : ∃ p u : Nat → Int32, lp (b_X4_envelope_32 st (nI d)) 200 (-1, -1, 0, pts, used) = some ((OB (fun i => EN n e c1 c2 c3 h st i d 10) h).1, (OB (fun i => EN n e c1 c2 c3 h st i d 10) h).2, p, u) := by
  have g4 : h ≤ 6 := S.1.2.2.2.1
  have s8 : st 8 = nI h := S.2.2.1.2.2.2.2.2
  obtain ⟨r, q1, q2, q3⟩ := lp_ind (body := b_X4_envelope_32 st (nI d)) (fun s => ∃ i, i ≤ h ∧ s.2.2.1 = nI i ∧ s.1 = (OB (fun i => EN n e c1 c2 c3 h st i d 10) i).1 ∧ s.2.1 = (OB (fun i => EN n e c1 c2 c3 h st i d 10) i).2) (fun r => r.1 = (OB (fun i => EN n e c1 c2 c3 h st i d 10) h).1 ∧ r.2.1 = (OB (fun i => EN n e c1 c2 c3 h st i d 10) h).2) (fun s => 6 - s.2.2.1.toNatClampNeg) (by
    rintro ⟨b, c, p, f, u⟩ ⟨i, hi, hp, hb, hc⟩
    dsimp only at hp hb hc
    subst hp hb hc
    rcases Nat.lt_or_ge i h with hh | hh
    · left
      have hμ : 6 - (nI (i + 1)).toNatClampNeg < 6 - (nI i).toNatClampNeg := by
        rw [nI_clamp (by omega), nI_clamp (by omega)]
        omega
      have k1 : ¬ nI h ≤ nI i := nI_ge hh (by omega)
      obtain ⟨r1, r2, hr'⟩ := w_envDays S hh hd ((OB (fun i => EN n e c1 c2 c3 h st i d 10) i).1, (OB (fun i => EN n e c1 c2 c3 h st i d 10) i).2, nI i, f, u) rfl f u
      by_cases z : nI (EN n e c1 c2 c3 h st i d 10) ≤ (OB (fun i => EN n e c1 c2 c3 h st i d 10) i).2
      · have e3 : OB (fun i => EN n e c1 c2 c3 h st i d 10) (i + 1) = OB (fun i => EN n e c1 c2 c3 h st i d 10) i := by
          simp only [OB]
          rw [if_pos z]
        refine ⟨((OB (fun i => EN n e c1 c2 c3 h st i d 10) i).1, (OB (fun i => EN n e c1 c2 c3 h st i d 10) i).2, nI (i + 1), r1, r2), ?_, ⟨i + 1, by omega, rfl, by rw [e3], by rw [e3]⟩, hμ⟩
        simp only [b_X4_envelope_32, i27_8, cl_8, gd_t, s8, if_neg k1, hr', Option.bind_some, if_pos z, nI_1]
      · have e3 : OB (fun i => EN n e c1 c2 c3 h st i d 10) (i + 1) = (nI i, nI (EN n e c1 c2 c3 h st i d 10)) := by
          simp only [OB]
          rw [if_neg z]
        refine ⟨(nI i, nI (EN n e c1 c2 c3 h st i d 10), nI (i + 1), r1, r2), ?_, ⟨i + 1, by omega, rfl, by rw [e3], by rw [e3]⟩, hμ⟩
        simp only [b_X4_envelope_32, i27_8, cl_8, gd_t, s8, if_neg k1, hr', Option.bind_some, if_neg z, nI_1]
    · right
      have : i = h := by omega
      subst this
      have k1 : nI i ≤ nI i := nI_le (Nat.le_refl i) (by omega)
      exact ⟨((OB (fun j => EN n e c1 c2 c3 i st j d 10) i).1, (OB (fun j => EN n e c1 c2 c3 i st j d 10) i).2, f, u), by simp only [b_X4_envelope_32, i27_8, cl_8, gd_t, s8, if_pos k1], rfl, rfl⟩) 200 (-1, -1, 0, pts, used) ⟨0, by omega, rfl, rfl, rfl⟩ (by show 6 - (0 : Int32).toNatClampNeg < 200; omega)
  exact ⟨r.2.2.1, r.2.2.2, by rw [q1, ← q2, ← q3]⟩
theorem L2_envelope (k : Nat) (hk : k ≤ 256) (x : CX) (y : MX) (hR : RR k x y) (p1 : Int32) (p2 : Int32) : ∃ (o : Int32 × Int32 × (Nat → Int32)) (u : Int32 × (Nat → Int32) × (Nat → Int32) × (Nat → Int32)), f_X3_envelope x.2.2.2.2.2.2.2.2.1 x.1.1 x.1.2.1 x.1.2.2.1 x.1.2.2.2.2.2.2.2.1 x.1.2.2.2.2.2.2.2.2.1 x.1.2.2.2.2.2.2.2.2.2.1 x.2.2.2.2.1 p1 p2 = some o ∧ f_X4_envelope y.1 y.2.2.2.1 y.2.2.2.2.2.2.2.2.2.2.2.2.1 y.2.2.2.2.2.2.2.2.2.2.2.2.2.1 p1 p2 = some u ∧ o.1 = u.1 ∧ RR (k + 4) (x.1, x.2.1, x.2.2.1, x.2.2.2.1, o.2.2, x.2.2.2.2.2.1, (x.2.2.2.2.2.2.1, x.2.2.2.2.2.2.2.1, o.2.1, x.2.2.2.2.2.2.2.2.2.1, x.2.2.2.2.2.2.2.2.2.2.1, x.2.2.2.2.2.2.2.2.2.2.2.1, x.2.2.2.2.2.2.2.2.2.2.2.2)) (y.1, y.2.1, y.2.2.1, u.2.1, y.2.2.2.2.1, y.2.2.2.2.2.1, y.2.2.2.2.2.2.1, y.2.2.2.2.2.2.2.1, y.2.2.2.2.2.2.2.2.1, y.2.2.2.2.2.2.2.2.2.1, y.2.2.2.2.2.2.2.2.2.2.1, y.2.2.2.2.2.2.2.2.2.2.2.1, u.2.2.1, u.2.2.2, y.2.2.2.2.2.2.2.2.2.2.2.2.2.2.1, y.2.2.2.2.2.2.2.2.2.2.2.2.2.2.2.1, y.2.2.2.2.2.2.2.2.2.2.2.2.2.2.2.2.1, y.2.2.2.2.2.2.2.2.2.2.2.2.2.2.2.2.2.1, y.2.2.2.2.2.2.2.2.2.2.2.2.2.2.2.2.2.2.1, y.2.2.2.2.2.2.2.2.2.2.2.2.2.2.2.2.2.2.2.1, y.2.2.2.2.2.2.2.2.2.2.2.2.2.2.2.2.2.2.2.2) := by
  obtain ⟨nw, i0, i1, dr, row, tx, kp0, kp1, bc, nc, fc, ab, be⟩ := x
  obtain ⟨st, yab, ybe, rf, txt, byt, pl, tok, vlu, beg, yrow, th, pts, usd, ahd, um, drw, ik, kpt, kah, kmn⟩ := y
  obtain ⟨hS, hI0, hI1, hT, ⟨hb, hn, hf⟩, ha, he⟩ := hR
  dsimp only at hS hI0 hI1 hT hb hn hf ha he ⊢
  obtain ⟨n, e, h, d, t, s, u, c1, c2, c3, a, ⟨b1, b2, b3, b4, b5, b6, b7⟩, ⟨d5, d6, d7, dum⟩, S, ht, hp⟩ := hS.op
  obtain ⟨⟨g1, g2, g3, g4, g5, g6, g7⟩, ⟨f1, f2, f3⟩, ⟨s0, s1, s2, s3, s4, s8⟩, H⟩ := id S
  by_cases h1 : ¬ p1 < 0 ∧ ¬ (990 : Int32) < p1
  · by_cases h2 : ¬ p2 < 0 ∧ ¬ (1 : Int32) < p2
    · obtain ⟨m, hm, rfl⟩ := wi_n (N := 990) rfl (by decide) h1
      obtain ⟨r, A⟩ := v_env S hm row
      obtain ⟨r1, r2, B⟩ := w_env S hm pts usd
      rcases OB_cases (fun i => EN n e c1 c2 c3 h st i m 10) h with c | ⟨x, hx, c⟩
      · rw [c] at A B
        have k1 : (-1 : Int32) < 0 := by decide
        by_cases h3 : p2 = 0
        · refine ⟨_, _, (by rw [b3, b2, b1]; simp only [f_X3_envelope, v_isWithin, v_isDay, v_isImage, v_bad, v_no, v_full, f_X3_refuseBadAs, Option.bind_some, n10, ↓reduceIte, gd_t, if_pos h1, if_pos h2, A, if_pos h3]; rfl), (by simp only [f_X4_envelope, in_0_96, in_1_4, in_0_5, in_1_3, in_0_127, in_0_2, in_0_999, in_1_6, in_m1_96, in_0_7, in_0_1, in_0_10, in_0_990, in_0_999999, in_0_60, in_0_100, w_isWhat, w_bad, w_no, w_full, Option.bind_some, n10, ↓reduceIte, gd_t, i27_0, i27_1, i27_5, i27_6, i27_7, i27_8, cl_0, cl_1, cl_5, cl_6, cl_7, cl_8, if_pos h1, if_pos h2, B, if_pos k1]; rfl), ?_, ?_⟩
          · rfl
          · exact ⟨hS.mono (by omega), hI0.mono (by omega), hI1.mono (by omega), hT, ⟨hb, hn, hf⟩, ha, he⟩
        · refine ⟨_, _, (by rw [b3, b2, b1]; simp only [f_X3_envelope, v_isWithin, v_isDay, v_isImage, v_bad, v_no, v_full, f_X3_refuseBadAs, Option.bind_some, n10, ↓reduceIte, gd_t, if_pos h1, if_pos h2, A, if_neg h3]; rfl), (by simp only [f_X4_envelope, in_0_96, in_1_4, in_0_5, in_1_3, in_0_127, in_0_2, in_0_999, in_1_6, in_m1_96, in_0_7, in_0_1, in_0_10, in_0_990, in_0_999999, in_0_60, in_0_100, w_isWhat, w_bad, w_no, w_full, Option.bind_some, n10, ↓reduceIte, gd_t, i27_0, i27_1, i27_5, i27_6, i27_7, i27_8, cl_0, cl_1, cl_5, cl_6, cl_7, cl_8, if_pos h1, if_pos h2, B, if_pos k1]; rfl), ?_, ?_⟩
          · rfl
          · exact ⟨hS.mono (by omega), hI0.mono (by omega), hI1.mono (by omega), hT, ⟨hb, hn, hf⟩, ha, he⟩
      · rw [c] at A B
        have k1 : ¬ nI x < 0 := nI_pos (by omega)
        by_cases h3 : p2 = 0
        · refine ⟨_, _, (by rw [b3, b2, b1]; simp only [f_X3_envelope, v_isWithin, v_isDay, v_isImage, v_bad, v_no, v_full, f_X3_refuseBadAs, Option.bind_some, n10, ↓reduceIte, gd_t, if_pos h1, if_pos h2, A, if_pos h3]; rfl), (by simp only [f_X4_envelope, in_0_96, in_1_4, in_0_5, in_1_3, in_0_127, in_0_2, in_0_999, in_1_6, in_m1_96, in_0_7, in_0_1, in_0_10, in_0_990, in_0_999999, in_0_60, in_0_100, w_isWhat, w_bad, w_no, w_full, Option.bind_some, n10, ↓reduceIte, gd_t, i27_0, i27_1, i27_5, i27_6, i27_7, i27_8, cl_0, cl_1, cl_5, cl_6, cl_7, cl_8, if_pos h1, if_pos h2, B, if_neg k1, if_pos h3]; rfl), ?_, ?_⟩
          · rfl
          · exact ⟨hS.mono (by omega), hI0.mono (by omega), hI1.mono (by omega), hT, ⟨hb, hn, hf⟩, ha, he⟩
        · refine ⟨_, _, (by rw [b3, b2, b1]; simp only [f_X3_envelope, v_isWithin, v_isDay, v_isImage, v_bad, v_no, v_full, f_X3_refuseBadAs, Option.bind_some, n10, ↓reduceIte, gd_t, if_pos h1, if_pos h2, A, if_neg h3]; rfl), (by simp only [f_X4_envelope, in_0_96, in_1_4, in_0_5, in_1_3, in_0_127, in_0_2, in_0_999, in_1_6, in_m1_96, in_0_7, in_0_1, in_0_10, in_0_990, in_0_999999, in_0_60, in_0_100, w_isWhat, w_bad, w_no, w_full, Option.bind_some, n10, ↓reduceIte, gd_t, i27_0, i27_1, i27_5, i27_6, i27_7, i27_8, cl_0, cl_1, cl_5, cl_6, cl_7, cl_8, if_pos h1, if_pos h2, B, if_neg k1, if_neg h3]; rfl), ?_, ?_⟩
          · rfl
          · exact ⟨hS.mono (by omega), hI0.mono (by omega), hI1.mono (by omega), hT, ⟨hb, hn, hf⟩, ha, he⟩
    · refine ⟨_, _, (by simp only [f_X3_envelope, v_isWithin, v_isDay, v_isImage, v_bad, v_no, v_full, f_X3_refuseBadAs, Option.bind_some, n10, ↓reduceIte, gd_t, if_pos h1, if_neg h2]; rfl), (by simp only [f_X4_envelope, in_0_96, in_1_4, in_0_5, in_1_3, in_0_127, in_0_2, in_0_999, in_1_6, in_m1_96, in_0_7, in_0_1, in_0_10, in_0_990, in_0_999999, in_0_60, in_0_100, w_isWhat, w_bad, w_no, w_full, Option.bind_some, n10, ↓reduceIte, gd_t, i27_0, i27_1, i27_5, i27_6, i27_7, i27_8, cl_0, cl_1, cl_5, cl_6, cl_7, cl_8, if_pos h1, if_neg h2]; rfl), ?_, ?_⟩
      · rfl
      · exact ⟨hS.mono (by omega), hI0.mono (by omega), hI1.mono (by omega), hT, bad3 hb hn hf, ha, he⟩
  · refine ⟨_, _, (by simp only [f_X3_envelope, v_isWithin, v_isDay, v_isImage, v_bad, v_no, v_full, f_X3_refuseBadAs, Option.bind_some, n10, ↓reduceIte, gd_t, if_neg h1]; rfl), (by simp only [f_X4_envelope, in_0_96, in_1_4, in_0_5, in_1_3, in_0_127, in_0_2, in_0_999, in_1_6, in_m1_96, in_0_7, in_0_1, in_0_10, in_0_990, in_0_999999, in_0_60, in_0_100, w_isWhat, w_bad, w_no, w_full, Option.bind_some, n10, ↓reduceIte, gd_t, i27_0, i27_1, i27_5, i27_6, i27_7, i27_8, cl_0, cl_1, cl_5, cl_6, cl_7, cl_8, if_neg h1]; rfl), ?_, ?_⟩
    · rfl
    · exact ⟨hS.mono (by omega), hI0.mono (by omega), hI1.mono (by omega), hT, bad3 hb hn hf, ha, he⟩
