def wf (f g : Nat → Int32) (b i : Nat) : Nat → Int32 := fun j => if b ≤ j ∧ j < b + i then f (j - b) else g j
theorem wf_0 (f g : Nat → Int32) (b : Nat) : wf f g b 0 = g := funext fun j => if_neg (by omega)
theorem wf_succ (f g : Nat → Int32) (b i : Nat) : upd (wf f g b i) (b + i) (f i) = wf f g b (i + 1) := by
  funext j
  unfold upd wf
  by_cases q : j = b + i
  · rw [if_pos q, if_pos (by omega)]
    congr 1
    omega
  · rw [if_neg q]
    by_cases z : b ≤ j ∧ j < b + i
    · rw [if_pos z, if_pos (by omega)]
    · rw [if_neg z, if_neg (by omega)]
theorem wf_in {f g : Nat → Int32} {b i j : Nat} (h : j < i) : wf f g b i (b + j) = f j := by
  unfold wf
  rw [if_pos (by omega)]
  congr 1
  omega
theorem wf_out {f g : Nat → Int32} {b i j : Nat} (h : j < b ∨ b + i ≤ j) : wf f g b i j = g j := if_neg (by omega)
theorem rem_ar : ∀ u, u < 8 → nI u * 6 = nI (6 * u) ∧ ¬ nI (6 * u) < 0 ∧ ¬ 48 < nI (6 * u) + 6 ∧ inb (nI (6 * u)) 48 = true ∧ inb (nI (6 * u) + 1) 48 = true ∧ inb (nI (6 * u) + 2) 48 = true ∧ decide (¬ (0 : Int32) < 0 ∧ ¬ (nI (6 * u) + 3) < 0 ∧ ¬ (3 : Int32) < 0 ∧ (0 : Int32).toNatClampNeg + (3 : Int32).toNatClampNeg ≤ 3 ∧ (nI (6 * u) + 3).toNatClampNeg + (3 : Int32).toNatClampNeg ≤ 48) = true ∧ decide (¬ (nI (6 * u) + 3) < 0 ∧ ¬ (0 : Int32) < 0 ∧ ¬ (3 : Int32) < 0 ∧ (nI (6 * u) + 3).toNatClampNeg + (3 : Int32).toNatClampNeg ≤ 48 ∧ (0 : Int32).toNatClampNeg + (3 : Int32).toNatClampNeg ≤ 3) = true ∧ (nI (6 * u)).toNatClampNeg = 6 * u ∧ (nI (6 * u) + 1).toNatClampNeg = 6 * u + 1 ∧ (nI (6 * u) + 2).toNatClampNeg = 6 * u + 2 ∧ (nI (6 * u) + 3).toNatClampNeg = 6 * u + 3 := by decide +kernel
theorem ite01 {s : Nat} (h : s ≤ 1) : (if nI s = 0 then some (0 : Int32) else some 1) = some (nI s) := by
  have : s = 0 ∨ s = 1 := by omega
  rcases this with rfl | rfl
  · rfl
  · rfl
/-- one more line at the end, where there is room -/
theorem note_room {k d t s u c1 c2 c3 : Nat} {fac past ahead st : Nat → Int32} (hu : u < 8) (hd : d ≤ k) (ht : t ≤ 2) (hs : s ≤ 1) (h1 : c1 < 97) (h2 : c2 < 97) (h3 : c3 < 97) (f1 : fac 0 = nI c1) (f2 : fac 1 = nI c2) (f3 : fac 2 = nI c3) (s2 : st 2 = nI c1) (s3 : st 3 = nI c2) (s4 : st 4 = nI c3) (s5 : st 5 = nI d) (s6 : st 6 = nI t) (s7 : st 7 = nI s) (hp : ∀ i, i < u → PR k past ahead i) :
    ∃ past' ahead' : Nat → Int32, past' = va_cpy fac (upd (upd (upd past (6 * u) (nI d)) (6 * u + 1) (nI t)) (6 * u + 2) (nI s)) 0 (6 * u + 3) 3 ∧ lp (b_X4_note_50 st (nI u, ahead)) 200 (0, ahead) = some ahead' ∧ ∀ i, i < u + 1 → PR k past' ahead' i := by
  have key : lp (b_X4_note_50 st (nI u, ahead)) 200 (nI 0, wf (fun j => st (2 + j)) ahead (6 * u) 0) = some (wf (fun j => st (2 + j)) ahead (6 * u) 6) := by
    refine lp_run (fun i => (nI i, wf (fun j => st (2 + j)) ahead (6 * u) i)) 6 (fun i hi => ?_) ?_ 200 (by decide)
    · have e1 : (2 : Int32) + nI i = nI (2 + i) := nI_add 2 i
      have e2 : (6 : Int32) * nI u + nI i = nI (6 * u + i) := by rw [show (6 : Int32) * nI u = nI (6 * u) from pk_mul 6 u, nI_add]
      simp only [b_X4_note_50, if_neg (i6 hi), e1, e2, inb_nI (show 2 + i < 27 by omega) (by decide), inb_nI (show 6 * u + i < 48 by omega) (by decide), gd_t, nI_clamp (show 2 + i < 2 ^ 31 by omega), nI_clamp (show 6 * u + i < 2 ^ 31 by omega), nI_1]
      rw [← wf_succ]
    · simp only [b_X4_note_50, if_pos i6e]
  rw [wf_0] at key
  refine ⟨_, _, rfl, key, fun i hi => ?_⟩
  by_cases q : i = u
  · subst q
    have w : ∀ j, j < 6 → wf (fun j => st (2 + j)) ahead (6 * i) 6 (6 * i + j) = st (2 + j) := fun j hj => wf_in hj
    refine ⟨d, t, s, c1, c2, c3, hd, ht, hs, h1, h2, h3, ?_, ?_, ?_, ?_, ?_, ?_, (w 0 (by decide)).trans s2, (w 1 (by decide)).trans s3, (w 2 (by decide)).trans s4, (w 3 (by decide)).trans s5, (w 4 (by decide)).trans s6, (w 5 (by decide)).trans s7⟩
    · rw [pk_cpy_out (by omega), pk_un (by omega), pk_un (by omega), pk_us]
    · rw [pk_cpy_out (by omega), pk_un (by omega), pk_us]
    · rw [pk_cpy_out (by omega), pk_us]
    · rw [pk_cpy_in (by omega) (by omega), show 0 + (6 * i + 3 - (6 * i + 3)) = 0 by omega, f1]
    · rw [pk_cpy_in (by omega) (by omega), show 0 + (6 * i + 4 - (6 * i + 3)) = 1 by omega, f2]
    · rw [pk_cpy_in (by omega) (by omega), show 0 + (6 * i + 5 - (6 * i + 3)) = 2 by omega, f3]
  · obtain ⟨d', t', s', c1', c2', c3', a1, a2, a3, a4, a5, a6, q0, q1, q2, q3, q4, q5, w0, w1, w2, w3, w4, w5⟩ := hp i (by omega)
    have z : ∀ j, j < 6 * u → va_cpy fac (upd (upd (upd past (6 * u) (nI d)) (6 * u + 1) (nI t)) (6 * u + 2) (nI s)) 0 (6 * u + 3) 3 j = past j := fun j hj => by rw [pk_cpy_out (by omega), pk_un (by omega), pk_un (by omega), pk_un (by omega)]
    have w : ∀ j, j < 6 * u → wf (fun j => st (2 + j)) ahead (6 * u) 6 j = ahead j := fun j hj => wf_out (by omega)
    exact ⟨d', t', s', c1', c2', c3', a1, a2, a3, a4, a5, a6, (z _ (by omega)).trans q0, (z _ (by omega)).trans q1, (z _ (by omega)).trans q2, (z _ (by omega)).trans q3, (z _ (by omega)).trans q4, (z _ (by omega)).trans q5, (w _ (by omega)).trans w0, (w _ (by omega)).trans w1, (w _ (by omega)).trans w2, (w _ (by omega)).trans w3, (w _ (by omega)).trans w4, (w _ (by omega)).trans w5⟩
theorem w_shift (ahead : Nat → Int32) : lp b_X4_note_11 200 (0, ahead) = some (fa_fill (fun j => ahead (j + 6)) ahead 42) := by
  have key : lp b_X4_note_11 200 (nI 0, fa_fill (fun j => ahead (j + 6)) ahead 0) = some (fa_fill (fun j => ahead (j + 6)) ahead 42) := by
    refine lp_run (fun i => (nI i, fa_fill (fun j => ahead (j + 6)) ahead i)) 42 (fun i hi => ?_) ?_ 200 (by decide)
    · have hnle : ¬ (42 : Int32) ≤ nI i := nI_ge (a := i) (b := 42) hi (by decide)
      have e1 : nI i + (6 : Int32) = nI (i + 6) := nI_add i 6
      simp only [b_X4_note_11, if_neg hnle, e1, inb_nI (show i + 6 < 48 by omega) (by decide), inb_nI (show i < 48 by omega) (by decide), gd_t, nI_clamp (show i + 6 < 2 ^ 31 by omega), nI_clamp (show i < 2 ^ 31 by omega), nI_1]
      rw [fa_fill_out (show i ≤ i + 6 by omega), ← fa_fill_succ]
    · simp only [b_X4_note_11]
      rw [if_pos (show (42 : Int32) ≤ nI 42 by decide)]
  rw [fa_fill_0] at key
  exact key
theorem note_both {k d t s u c1 c2 c3 : Nat} {fac past ahead st : Nat → Int32} (hu : u ≤ 8) (hd : d ≤ k) (ht : t ≤ 2) (hs : s ≤ 1) (h1 : c1 < 97) (h2 : c2 < 97) (h3 : c3 < 97) (f1 : fac 0 = nI c1) (f2 : fac 1 = nI c2) (f3 : fac 2 = nI c3) (s2 : st 2 = nI c1) (s3 : st 3 = nI c2) (s4 : st 4 = nI c3) (s5 : st 5 = nI d) (s6 : st 6 = nI t) (s7 : st 7 = nI s) (hp : ∀ i, i < u → PR k past ahead i) :
    ∃ (u' : Nat) (past' ahead' : Nat → Int32), u' ≤ 8 ∧ f_X0_remember (nI d) (nI t) (nI s) (nI u) fac past = some (nI u', past') ∧ f_X4_note (nI u) st ahead = some (nI u', ahead') ∧ ∀ i, i < u' → PR k past' ahead' i := by
  by_cases q : u = 8
  · subst q
    have hp' : ∀ i, i < 7 → PR k (va_cpy past past 6 0 42) (fa_fill (fun j => ahead (j + 6)) ahead 42) i := fun i hi => by
      obtain ⟨d', t', s', c1', c2', c3', a1, a2, a3, a4, a5, a6, q0, q1, q2, q3, q4, q5, w0, w1, w2, w3, w4, w5⟩ := hp (i + 1) (by omega)
      have z : ∀ r, r < 6 → va_cpy past past 6 0 42 (6 * i + r) = past (6 * (i + 1) + r) := fun r hr => by
        rw [pk_cpy_in (by omega) (by omega)]
        congr 1
        omega
      have w : ∀ r, r < 6 → fa_fill (fun j => ahead (j + 6)) ahead 42 (6 * i + r) = ahead (6 * (i + 1) + r) := fun r hr => by
        rw [fa_fill_in (by omega)]
        show ahead (6 * i + r + 6) = _
        congr 1
        omega
      exact ⟨d', t', s', c1', c2', c3', a1, a2, a3, a4, a5, a6, (z 0 (by omega)).trans q0, (z 1 (by omega)).trans q1, (z 2 (by omega)).trans q2, (z 3 (by omega)).trans q3, (z 4 (by omega)).trans q4, (z 5 (by omega)).trans q5, (w 0 (by omega)).trans w0, (w 1 (by omega)).trans w1, (w 2 (by omega)).trans w2, (w 3 (by omega)).trans w3, (w 4 (by omega)).trans w4, (w 5 (by omega)).trans w5⟩
    obtain ⟨past', ahead', A, B, C⟩ := note_room (u := 7) (by decide) hd ht hs h1 h2 h3 f1 f2 f3 s2 s3 s4 s5 s6 s7 hp'
    obtain ⟨r1, r2, r3, r4, r5, r6, r7, r8, r9, r10, r11, r12⟩ := rem_ar 7 (by decide)
    have k1 : ¬ nI 8 < 8 := by decide
    have k2 : decide (¬ (6 : Int32) < 0 ∧ ¬ (0 : Int32) < 0 ∧ ¬ (42 : Int32) < 0 ∧ (6 : Int32).toNatClampNeg + (42 : Int32).toNatClampNeg ≤ 48 ∧ (0 : Int32).toNatClampNeg + (42 : Int32).toNatClampNeg ≤ 48) = true := by decide
    have r1' : (7 : Int32) * 6 = nI (6 * 7) := r1
    refine ⟨8, past', ahead', by omega, ?_, ?_, C⟩
    · simp only [f_X0_remember, if_neg k1, k2, gd_t, Option.bind_some, r1', if_neg r2, if_neg r3, r4, r5, r6, r7, ite01 hs]
      simp only [r9, r10, r11, r12, show (6 : Int32).toNatClampNeg = 6 by decide, cl_0, cl_3, show (42 : Int32).toNatClampNeg = 42 by decide, ← A]
      rfl
    · have k3 : nI 8 = 8 := rfl
      have B : lp (b_X4_note_50 st ((8 : Int32) - 1, fa_fill (fun j => ahead (j + 6)) ahead 42)) 200 (0, fa_fill (fun j => ahead (j + 6)) ahead 42) = some ahead' := B
      simp only [f_X4_note, k3, ↓reduceIte, w_shift, Option.bind_some, B]
      rfl
  · obtain ⟨past', ahead', A, B, C⟩ := note_room (u := u) (by omega) hd ht hs h1 h2 h3 f1 f2 f3 s2 s3 s4 s5 s6 s7 hp
    obtain ⟨r1, r2, r3, r4, r5, r6, r7, r8, r9, r10, r11, r12⟩ := rem_ar u (by omega)
    have k1 : nI u < 8 := nI_lt (a := u) (b := 8) (by omega) (by decide)
    have k2 : ¬ nI u = 8 := nI_lit (b := 8) (by omega) (by decide) q
    refine ⟨u + 1, past', ahead', by omega, ?_, ?_, C⟩
    · simp only [f_X0_remember, if_pos k1, gd_t, Option.bind_some, r1, if_neg r2, if_neg r3, r4, r5, r6, r7, ite01 hs]
      simp only [r9, r10, r11, r12, cl_0, cl_3, ← A]
      rw [nI_1]
    · simp only [f_X4_note, if_neg k2, Option.bind_some, B, nI_1]
/-- a day, on both sides -/
theorem day_both {n e h c1 c2 c3 : Nat} {kinds extras fac st pts used row : Nat → Int32} (S : SD n e h c1 c2 c3 kinds extras fac st) {d t s who : Nat} (hd : d < 2000) (ht : t ≤ 2) (hs : s ≤ 1) (s5 : st 5 = nI d) (s6 : st 6 = nI t) (s7 : st 7 = nI s) (hw : who < 2 ^ h) :
    ∃ (r : Int32) (t' s' : Nat) (row' st' pts' used' : Nat → Int32), t' ≤ 2 ∧ s' ≤ 1 ∧ f_X0_passDay (nI n) (nI e) (nI d) (nI t) (nI s) kinds extras fac row (nI who) = some (r, nI (d + 1), nI t', nI s', row') ∧ f_X4_oneDay st pts used (nI who) = some (r, st', pts', used') ∧ st' 5 = nI (d + 1) ∧ st' 6 = nI t' ∧ st' 7 = nI s' ∧ (∀ j, (j < 5 ∨ 8 ≤ j) → st' j = st j) ∧ (r = 0 ∨ r = 1 ∨ r = 2 ∨ r = 3) := by
  have x5 : ∀ f : Nat → Int32, ∀ v : Int32, (upd (upd f 7 0) 6 v) 5 = f 5 := fun f v => by rw [pk_un (by decide), pk_un (by decide)]
  have x6 : (upd st 7 0) 6 = nI t := by rw [pk_un (by decide)]; exact s6
  have x5' : (upd st 7 0) 5 = nI d := by rw [pk_un (by decide)]; exact s5
  have : s = 0 ∨ s = 1 := by omega
  rcases this with rfl | rfl
  · obtain ⟨r, hr⟩ := v_outcome S (row := row) hd hw
    obtain ⟨r1, r2, hr'⟩ := w_triedBy S (pts := pts) (used := used) hd hw
    have k0 : ¬ nI 0 = 1 := by decide
    have k1 : nI 0 = 0 := rfl
    rcases (show oc (WD n e c1 c2 c3 st d who) e n = 0 ∨ oc (WD n e c1 c2 c3 st d who) e n = 1 ∨ oc (WD n e c1 c2 c3 st d who) e n = 2 by
      unfold oc
      split
      · exact Or.inl rfl
      · split
        · exact Or.inr (Or.inl rfl)
        · exact Or.inr (Or.inr rfl)) with q | q | q
    · rw [q] at hr hr'
      refine ⟨0, t, 0, r, upd (upd st 7 0) 5 (nI (d + 1)), r1, r2, ht, by omega, ?_, ?_, pk_us, ?_, ?_, fun j hj => ?_, Or.inl rfl⟩
      · simp only [f_X0_passDay, k1, ↓reduceIte, hr, Option.bind_some, show ¬ (0 : Int32) = 1 by decide, show ¬ (0 : Int32) = 2 by decide, nI_1]
      · simp only [f_X4_oneDay, i27_7, i27_5, i27_6, cl_5, cl_6, cl_7, gd_t, s7, s5, if_neg k0, hr', Option.bind_some, show ¬ (0 : Int32) = 1 by decide, show ¬ (0 : Int32) = 2 by decide, ↓reduceIte, x5', nI_1]
      · rw [pk_un (by decide), x6]
      · rw [pk_un (by decide), pk_us]; rfl
      · rw [pk_un (by omega), pk_un (by omega)]
    · rw [q] at hr hr'
      refine ⟨1, 0, 0, r, upd (upd (upd st 7 0) 6 0) 5 (nI (d + 1)), r1, r2, by omega, by omega, ?_, ?_, pk_us, ?_, ?_, fun j hj => ?_, Or.inr (Or.inl rfl)⟩
      · simp only [f_X0_passDay, k1, ↓reduceIte, hr, Option.bind_some, show ¬ (1 : Int32) = 2 by decide, nI_1]
      · simp only [f_X4_oneDay, i27_7, i27_5, i27_6, cl_5, cl_6, cl_7, gd_t, s7, s5, if_neg k0, hr', Option.bind_some, show ¬ (1 : Int32) = 2 by decide, ↓reduceIte, x5, nI_1]
      · rw [pk_un (by decide), pk_us]; rfl
      · rw [pk_un (by decide), pk_un (by decide), pk_us]; rfl
      · rw [pk_un (by omega), pk_un (by omega), pk_un (by omega)]
    · rw [q] at hr hr'
      by_cases h3 : t = 2
      · subst h3
        have y : (upd (upd st 7 0) 6 (nI 2 + 1)) 6 = 3 := by rw [pk_us]; rfl
        refine ⟨2, 0, 1, r, upd (upd (upd (upd (upd st 7 0) 6 (nI 2 + 1)) 6 0) 7 1) 5 (nI (d + 1)), r1, r2, by omega, by omega, ?_, ?_, pk_us, ?_, ?_, fun j hj => ?_, Or.inr (Or.inr (Or.inl rfl))⟩
        · simp only [f_X0_passDay, k1, ↓reduceIte, hr, Option.bind_some, show ¬ (2 : Int32) = 1 by decide, f_X0_countWrongTry, show ¬ nI 2 + 1 < 3 by decide, nI_1]
          rfl
        · simp only [f_X4_oneDay, i27_7, i27_5, i27_6, cl_5, cl_6, cl_7, gd_t, s7, s5, if_neg k0, hr', Option.bind_some, show ¬ (2 : Int32) = 1 by decide, ↓reduceIte, x6, y]
          have : (upd (upd (upd (upd st 7 0) 6 (nI 2 + 1)) 6 0) 7 1) 5 = nI d := by rw [pk_un (by decide), pk_un (by decide), x5, s5]
          rw [this, nI_1 d]
        · rw [pk_un (by decide), pk_un (by decide), pk_us]; rfl
        · rw [pk_un (by decide), pk_us]; rfl
        · rw [pk_un (by omega), pk_un (by omega), pk_un (by omega), pk_un (by omega), pk_un (by omega)]
      · have k3 : nI (t + 1) < 3 := nI_lt (a := t + 1) (b := 3) (by omega) (by decide)
        have y : ¬ (upd (upd st 7 0) 6 (nI (t + 1))) 6 = 3 := by rw [pk_us]; exact nI_lit (b := 3) (by omega) (by decide) (by omega)
        refine ⟨2, t + 1, 0, r, upd (upd (upd st 7 0) 6 (nI (t + 1))) 5 (nI (d + 1)), r1, r2, by omega, by omega, ?_, ?_, pk_us, ?_, ?_, fun j hj => ?_, Or.inr (Or.inr (Or.inl rfl))⟩
        · simp only [f_X0_passDay, k1, ↓reduceIte, hr, Option.bind_some, show ¬ (2 : Int32) = 1 by decide, f_X0_countWrongTry, nI_1, if_pos k3]
        · simp only [f_X4_oneDay, i27_7, i27_5, i27_6, cl_5, cl_6, cl_7, gd_t, s7, s5, if_neg k0, hr', Option.bind_some, show ¬ (2 : Int32) = 1 by decide, ↓reduceIte, x6, nI_1, if_neg y, x5]
        · rw [pk_un (by decide), pk_us]
        · rw [pk_un (by decide), pk_un (by decide), pk_us]; rfl
        · rw [pk_un (by omega), pk_un (by omega), pk_un (by omega)]
  · have k1 : ¬ nI 1 = 0 := by decide
    have k2 : nI 1 = 1 := rfl
    refine ⟨3, t, 0, row, upd (upd st 7 0) 5 (nI (d + 1)), pts, used, ht, by omega, ?_, ?_, pk_us, ?_, ?_, fun j hj => ?_, Or.inr (Or.inr (Or.inr rfl))⟩
    · simp only [f_X0_passDay, if_neg k1, ↓reduceIte, Option.bind_some, show ¬ (3 : Int32) = 1 by decide, show ¬ (3 : Int32) = 2 by decide, nI_1]
      rfl
    · simp only [f_X4_oneDay, i27_7, i27_5, i27_6, cl_5, cl_6, cl_7, gd_t, s7, k2, Option.bind_some, show ¬ (3 : Int32) = 1 by decide, show ¬ (3 : Int32) = 2 by decide, ↓reduceIte, x5', nI_1]
    · rw [pk_un (by decide), x6]
    · rw [pk_un (by decide), pk_us]; rfl
    · rw [pk_un (by omega), pk_un (by omega)]
