/-- a pass over the text, on both sides -/
theorem pass_both {n : Nat} {C : Nat → Nat} {B T : Nat → Int32} (X : TX n C B T) {does : Nat} (hdoes : does = 0 ∨ does = 1) (past ahd : Nat → Int32) {kinds extras fac told st row : Nat → Int32} (um pn pe ph pd pt ps pp ts te tk : Int32) (pl tok0 vl bg th : Int32) :
    (∃ (q' : Nat) (z : Int32 × Int32 × Int32 × Int32 × Int32 × Int32 × Int32 × Int32 × Int32 × (Nat → Int32) × (Nat → Int32) × (Nat → Int32) × (Nat → Int32)) (a b c d e : Int32) (f g : Nat → Int32), q' ≤ n ∧ (does = 0 → f = st ∧ e = um) ∧ f_X1_parseInto (nI n) ts te tk B pn pe ph pd pt ps pp kinds extras fac told = some (-1, nI q', z) ∧ f_X4_readText (nI n) pl tok0 vl bg th um st T row (nI does) = some (-1, a, b, c, nI q', d, e, f, g)) ∨
    (∃ (m h N E : Nat) (a b c a' b' c' d' um' : Int32) (kinds' extras' fac' told' st' row' : Nat → Int32), 1 ≤ m ∧ m ≤ 151 ∧ f_X1_parseInto (nI n) ts te tk B pn pe ph pd pt ps pp kinds extras fac told = some (nI m, a, b, c, nI N, nI E, nI h, 0, 0, 0, 0, kinds', extras', fac', told') ∧ f_X4_readText (nI n) pl tok0 vl bg th um st T row (nI does) = some (nI m, a', b', c', d', nI h, um', st', row') ∧ DR does st N E h kinds' extras' fac' told' past ahd st' ∧ ((does = 0 ∧ um' = um) ∨ (does = 1 ∧ um' = 0))) := by
  have hn := X.1
  obtain ⟨q, r, rt, vt, T0, S⟩ := safe_item X hdoes (kinds := kinds) (extras := extras) (fac := fac) (told := told) (past := past) (ahd := ahd) (st := st) (row := row) um pn pe ph pd pt ps pp
  rcases S with ⟨q', z, a, b, c, d, e, f, g, p1, pz, p2, p3⟩ | ⟨q', r', N, E, ct, um', st', row', p1, p2, p3, p4, p5, p6, p7, p8, p9⟩
  · left
    refine ⟨q', (z.1, z.2.1, z.2.2.1, z.2.2.2.1, z.2.2.2.2.1, z.2.2.2.2.2.1, z.2.2.2.2.2.2.1, z.2.2.2.2.2.2.2.1, z.2.2.2.2.2.2.2.2.1, kinds, extras, z.2.2.2.2.2.2.2.2.2.1, z.2.2.2.2.2.2.2.2.2.2), a, b, c, d, e, f, g, p1, pz, ?_, ?_⟩
    · simp only [f_X1_parseInto, p2, Option.bind_some, ↓reduceIte]
    · have L : lp (b_X4_readText_16 (nI n) T (nI does)) 200 (0, nI r, rt, vt, nI q, 0, um, st, row) = some (.inr (-1, a, b, c, nI q', d, e, f, g)) := lp_o 199 (by rw [body_first rfl]; exact p3)
      simp only [f_X4_readText, T0, Option.bind_some, L, Sum.elim_inr]
  · obtain ⟨q2, r2, k4, v2, t1, t2, t3, t4, A, F, _, t5, _, _⟩ := tok X p2
    obtain ⟨res, res', L1, L2, h⟩ := loop_both X um' (1, nI q', nI r', ct, nI N, nI E, 0, 0, 0, 0, 0, fa_fill (fun _ => 0) fac 3, fa_fill (fun _ => -1) told 6) (v := v2) (row := row') t2 t3 t4 t5 p7
    have L : lp (b_X4_readText_16 (nI n) T (nI does)) 200 (0, nI r, rt, vt, nI q, 0, um, st, row) = some res' := by
      have s1 : b_X4_readText_16 (nI n) T (nI does) (0, nI r, rt, vt, nI q, 0, um, st, row) = some (.inl (1, nI r2, nI (kr k4 q2 r2), nI v2, nI q2, 0, um', st', row')) := by
        rw [body_first rfl]
        exact p9 q2 r2 (kr k4 q2 r2) v2 F
      rw [lp_i 199 s1]
      exact L2
    rcases h with ⟨m, h, a, b, c, a', b', c', d', kinds', extras', fac', st2, row2, m1, m2, e1, e2, D⟩ | ⟨q3, z, a, b, c, d, e, f, g, q4, qz, e1, e2⟩
    · right
      subst e1 e2
      refine ⟨m, h, N, E, a, b, c, a', b', c', d', um', kinds', extras', fac', fa_fill (fun _ => -1) told 6, st2, row2, m1, m2, ?_, ?_, D, p8⟩
      · simp only [f_X1_parseInto, p6, Option.bind_some, n10, ↓reduceIte, A, L1, Sum.elim_inl]
      · simp only [f_X4_readText, T0, Option.bind_some, L, Sum.elim_inl]
    · left
      subst e1 e2
      refine ⟨q3, z, a, b, c, d, e, f, g, q4, fun z => ⟨(qz z).1, (qz z).2.trans (um_0 p8 z)⟩, ?_, ?_⟩
      · simp only [f_X1_parseInto, p6, Option.bind_some, n10, ↓reduceIte, A, L1, Sum.elim_inr]
      · simp only [f_X4_readText, T0, Option.bind_some, L, Sum.elim_inr]
