theorem TR.tx {tx : TextT} {txt : Nat → Int32} {byt : Int32} (h : TR tx txt byt) : ∃ (n : Nat) (C : Nat → Nat), TX n C tx.2.2.2.2 txt ∧ tx.1 = nI n ∧ byt = nI n := by
  obtain ⟨n, h1, h2, h3, h4⟩ := h
  refine ⟨n, fun j => (txt j).toNatClampNeg, ⟨h1, fun j hj => ?_⟩, h2, h3⟩
  obtain ⟨c, c1, c2, c3⟩ := h4 j hj
  have e1 : (txt j).toNatClampNeg = c := by rw [c3, nI_clamp (by omega)]
  show (txt j).toNatClampNeg < 128 ∧ tx.2.2.2.2 j = nI (txt j).toNatClampNeg ∧ txt j = nI (txt j).toNatClampNeg
  rw [e1]
  exact ⟨c1, c2, c3⟩
theorem L2_read (k : Nat) (hk : k ≤ 256) (x : CX) (y : MX) (hR : RR k x y) : ∃ (o : Int32 × Int32 × Int32 × Int32 × Int32 × Int32 × Int32 × Int32 × (Nat → Int32) × (Nat → Int32) × (Nat → Int32) × (Nat → Int32) × (Nat → Int32) × Int32 × Int32 × Int32 × Int32 × Int32 × Int32 × Int32 × (Nat → Int32) × (Nat → Int32) × (Nat → Int32) × (Nat → Int32) × Int32 × Int32 × Int32) (u : Int32 × Int32 × Int32 × Int32 × Int32 × Int32 × Int32 × (Nat → Int32) × (Nat → Int32)), f_X3_read x.1.1 x.1.2.1 x.1.2.2.1 x.1.2.2.2.1 x.1.2.2.2.2.1 x.1.2.2.2.2.2.1 x.1.2.2.2.2.2.2.1 x.1.2.2.2.2.2.2.2.1 x.1.2.2.2.2.2.2.2.2.1 x.1.2.2.2.2.2.2.2.2.2.1 x.1.2.2.2.2.2.2.2.2.2.2.1 x.1.2.2.2.2.2.2.2.2.2.2.2 x.2.2.2.1.1 x.2.2.2.1.2.1 x.2.2.2.1.2.2.1 x.2.2.2.1.2.2.2.1 x.2.2.2.1.2.2.2.2.1 x.2.2.2.1.2.2.2.2.2.1 x.2.2.2.1.2.2.2.2.2.2.1 x.2.2.2.1.2.2.2.2.2.2.2.1 x.2.2.2.1.2.2.2.2.2.2.2.2.1 x.2.2.2.1.2.2.2.2.2.2.2.2.2.1 x.2.2.2.1.2.2.2.2.2.2.2.2.2.2.1 x.2.2.2.1.2.2.2.2.2.2.2.2.2.2.2 x.2.2.2.2.2.1.1 x.2.2.2.2.2.1.2.1 x.2.2.2.2.2.1.2.2.1 x.2.2.2.2.2.1.2.2.2.1 x.2.2.2.2.2.1.2.2.2.2 = some o ∧ f_X4_read y.2.2.2.2.2.1 y.2.2.2.2.2.2.1 y.2.2.2.2.2.2.2.1 y.2.2.2.2.2.2.2.2.1 y.2.2.2.2.2.2.2.2.2.1 y.2.2.2.2.2.2.2.2.2.2.2.1 y.2.2.2.2.2.2.2.2.2.2.2.2.2.2.2.1 y.1 y.2.2.2.2.1 y.2.2.2.2.2.2.2.2.2.2.1 = some u ∧ o.1 = u.1 ∧ RR (k + 4) ((o.2.1, o.2.2.1, o.2.2.2.1, o.2.2.2.2.1, o.2.2.2.2.2.1, o.2.2.2.2.2.2.1, o.2.2.2.2.2.2.2.1, o.2.2.2.2.2.2.2.2.1, o.2.2.2.2.2.2.2.2.2.1, o.2.2.2.2.2.2.2.2.2.2.1, o.2.2.2.2.2.2.2.2.2.2.2.1, o.2.2.2.2.2.2.2.2.2.2.2.2.1), x.2.1, x.2.2.1, (o.2.2.2.2.2.2.2.2.2.2.2.2.2.1, o.2.2.2.2.2.2.2.2.2.2.2.2.2.2.1, o.2.2.2.2.2.2.2.2.2.2.2.2.2.2.2.1, o.2.2.2.2.2.2.2.2.2.2.2.2.2.2.2.2.1, o.2.2.2.2.2.2.2.2.2.2.2.2.2.2.2.2.2.1, o.2.2.2.2.2.2.2.2.2.2.2.2.2.2.2.2.2.2.1, o.2.2.2.2.2.2.2.2.2.2.2.2.2.2.2.2.2.2.2.1, o.2.2.2.2.2.2.2.2.2.2.2.2.2.2.2.2.2.2.2.2.1, o.2.2.2.2.2.2.2.2.2.2.2.2.2.2.2.2.2.2.2.2.2.1, o.2.2.2.2.2.2.2.2.2.2.2.2.2.2.2.2.2.2.2.2.2.2.1, o.2.2.2.2.2.2.2.2.2.2.2.2.2.2.2.2.2.2.2.2.2.2.2.1, x.2.2.2.1.2.2.2.2.2.2.2.2.2.2.2), x.2.2.2.2.1, (x.2.2.2.2.2.1.1, o.2.2.2.2.2.2.2.2.2.2.2.2.2.2.2.2.2.2.2.2.2.2.2.2.1, o.2.2.2.2.2.2.2.2.2.2.2.2.2.2.2.2.2.2.2.2.2.2.2.2.2.1, o.2.2.2.2.2.2.2.2.2.2.2.2.2.2.2.2.2.2.2.2.2.2.2.2.2.2, x.2.2.2.2.2.1.2.2.2.2), x.2.2.2.2.2.2) (u.2.2.2.2.2.2.2.1, y.2.1, y.2.2.1, y.2.2.2.1, y.2.2.2.2.1, y.2.2.2.2.2.1, u.2.1, u.2.2.1, u.2.2.2.1, u.2.2.2.2.1, u.2.2.2.2.2.2.2.2, u.2.2.2.2.2.1, y.2.2.2.2.2.2.2.2.2.2.2.2.1, y.2.2.2.2.2.2.2.2.2.2.2.2.2.1, y.2.2.2.2.2.2.2.2.2.2.2.2.2.2.1, u.2.2.2.2.2.2.1, y.2.2.2.2.2.2.2.2.2.2.2.2.2.2.2.2.1, y.2.2.2.2.2.2.2.2.2.2.2.2.2.2.2.2.2.1, y.2.2.2.2.2.2.2.2.2.2.2.2.2.2.2.2.2.2.1, y.2.2.2.2.2.2.2.2.2.2.2.2.2.2.2.2.2.2.2.1, y.2.2.2.2.2.2.2.2.2.2.2.2.2.2.2.2.2.2.2.2) := by
  obtain ⟨nw, i0, i1, dr, row, tx, kp0, kp1, bc, nc, fc, ab, be⟩ := x
  obtain ⟨st, yab, ybe, rf, txt, byt, pl, tok, vlu, beg, yrow, th, pts, usd, ahd, um, drw, ik, kpt, kah, kmn⟩ := y
  obtain ⟨hS, hI0, hI1, hT, ⟨hb, hn, hf⟩, ha, he⟩ := hR
  dsimp only at hS hI0 hI1 hT hb hn hf ha he ⊢
  obtain ⟨n, C, X, q1, q2⟩ := hT.tx
  have z0 : nI 0 = (0 : Int32) := rfl
  have z1 : nI 1 = (1 : Int32) := rfl
  have P0 := pass_both X (does := 0) (Or.inl rfl) dr.2.2.2.2.2.2.2.2.2.2.2 ahd (kinds := dr.2.2.2.2.2.2.2.1) (extras := dr.2.2.2.2.2.2.2.2.1) (fac := dr.2.2.2.2.2.2.2.2.2.1) (told := dr.2.2.2.2.2.2.2.2.2.2.1) (st := st) (row := yrow) um dr.1 dr.2.1 dr.2.2.1 dr.2.2.2.1 dr.2.2.2.2.1 dr.2.2.2.2.2.1 dr.2.2.2.2.2.2.1 tx.2.1 tx.2.2.1 tx.2.2.2.1 pl tok vlu beg th
  rcases P0 with ⟨q', z, a, b, c, d, e, f, g, p1, pz, p2, p3⟩ | ⟨m, h, N, E, a, b, c, a', b', c', d', um', kinds', extras', fac', told', st', row', p1, p2, p3, p4, p5, p6⟩
  · obtain ⟨zf, ze⟩ := pz rfl
    rw [z0, zf, ze] at p3
    have nle : ¬ (0 : Int32) ≤ -1 := by decide
    refine ⟨_, _, (by simp only [f_X3_read, q1, p2, Option.bind_some, ↓reduceIte]; rfl), (by simp only [f_X4_read, q2, p3, Option.bind_some, if_neg nle]; rfl), ?_, ?_⟩
    · rfl
    · exact ⟨hS.mono (by omega), hI0.mono (by omega), hI1.mono (by omega), hT, ⟨hb, hn, hf⟩, ha, he⟩
  · have s1 : st' = st := p5.zero rfl
    have s2 : um' = um := um_0 p6 rfl
    rw [z0, s1, s2] at p4
    have P1 := pass_both X (does := 1) (Or.inr rfl) dr.2.2.2.2.2.2.2.2.2.2.2 ahd (kinds := dr.2.2.2.2.2.2.2.1) (extras := dr.2.2.2.2.2.2.2.2.1) (fac := dr.2.2.2.2.2.2.2.2.2.1) (told := dr.2.2.2.2.2.2.2.2.2.2.1) (st := st) (row := row') um dr.1 dr.2.1 dr.2.2.1 dr.2.2.2.1 dr.2.2.2.2.1 dr.2.2.2.2.2.1 dr.2.2.2.2.2.2.1 tx.2.1 tx.2.2.1 tx.2.2.2.1 a' b' c' d' (nI h)
    rcases P1 with ⟨q', z, a2, b2, c2, d2, e2, f2, g2, r1, rz, r2, r3⟩ | ⟨m2, h2, N2, E2, a2, b2, c2, a2', b2', c2', d2', um2, kinds2, extras2, fac2, told2, st2, row2, r1, r2, r3, r4, r5, r6⟩
    · rw [p3] at r2
      have w : nI m = -1 := congrArg (fun v => v.1) (Option.some.inj r2)
      exact absurd w (nm1 (by omega))
    · rw [p3] at r3
      have w := Option.some.inj r3
      have em : nI m = nI m2 := congrArg (fun v => v.1) w
      have eN : nI N = nI N2 := congrArg (fun v => v.2.2.2.2.1) w
      have eE : nI E = nI E2 := congrArg (fun v => v.2.2.2.2.2.1) w
      have eh : nI h = nI h2 := congrArg (fun v => v.2.2.2.2.2.2.1) w
      have ek : kinds' = kinds2 := congrArg (fun v => v.2.2.2.2.2.2.2.2.2.2.2.1) w
      have ex : extras' = extras2 := congrArg (fun v => v.2.2.2.2.2.2.2.2.2.2.2.2.1) w
      have ef : fac' = fac2 := congrArg (fun v => v.2.2.2.2.2.2.2.2.2.2.2.2.2.1) w
      have et : told' = told2 := congrArg (fun v => v.2.2.2.2.2.2.2.2.2.2.2.2.2.2) w
      have hD : SR 0 (nI N, nI E, nI h, 0, 0, 0, 0, kinds', extras', fac', told', dr.2.2.2.2.2.2.2.2.2.2.2) st2 ahd 0 := by
        rw [eN, eE, eh, ek, ex, ef, et]
        rcases r5 with ⟨z, _⟩ | ⟨_, z⟩
        · exact absurd z (by decide)
        · exact z
      have u2 : um2 = 0 := by
        rcases r6 with ⟨z, _⟩ | ⟨_, z⟩
        · exact absurd z (by decide)
        · exact z
      obtain ⟨o2, D, F⟩ := v_copyFrom (w := nw) hD
      dsimp only at D
      rw [z1, u2] at r4
      have nm : ¬ nI m = -1 := nm1 (by omega)
      have hle : (0 : Int32) ≤ nI m := nI_pos' (by omega)
      refine ⟨_, _, (by simp only [f_X3_read, q1, p3, Option.bind_some, if_neg nm, D]; rfl), (by simp only [f_X4_read, q2, p4, Option.bind_some, if_pos hle, r4]; rfl), ?_, ?_⟩
      · exact em
      · exact ⟨(F _ _ _ (fun _ _ => rfl) (fun _ _ => rfl) rfl).mono (by omega), hI0.mono (by omega), hI1.mono (by omega), hT, ⟨hb, hn, hf⟩, ha, he⟩
