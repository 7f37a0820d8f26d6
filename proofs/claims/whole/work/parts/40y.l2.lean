theorem um_0 {does : Nat} {um um' : Int32} (h : (does = 0 ∧ um' = um) ∨ (does = 1 ∧ um' = 0)) (z : does = 0) : um' = um := by
  rcases h with ⟨_, q⟩ | ⟨q, _⟩
  · exact q
  · omega
/-- the first item -/
theorem safe_item {n : Nat} {C : Nat → Nat} {B T : Nat → Int32} (X : TX n C B T) {does : Nat} (hdoes : does = 0 ∨ does = 1) {kinds extras fac told past ahd st row : Nat → Int32} (um pn pe ph pd pt ps pp : Int32) :
    ∃ (q r : Nat) (rt vt : Int32), (∀ tk vl bg : Int32, f_X4_nextToken (nI n) 0 tk vl bg T = some (nI r, rt, vt, nI q)) ∧
    ((∃ (q' : Nat) (z : Int32 × Int32 × Int32 × Int32 × Int32 × Int32 × Int32 × Int32 × Int32 × (Nat → Int32) × (Nat → Int32)) (a b c d e : Int32) (f g : Nat → Int32), q' ≤ n ∧ (does = 0 → f = st ∧ e = um) ∧ (∀ ts tk : Int32, f_X1_readSafeItem (nI n) ts 0 tk B pn pe ph pd pt ps pp fac told = some (0, nI q', z)) ∧ (f_X4_readItem (nI n) (nI r) rt vt (nI q) 0 um st T row 0 (nI does)).bind (TL (nI n) T 0) = some (.inr (.inr (-1, a, b, c, nI q', d, e, f, g)))) ∨
    (∃ (q' r' N E : Nat) (ct um' : Int32) (st' row' : Nat → Int32), 0 < r' ∧ r' ≤ n ∧ N < 97 ∧ 1 ≤ E ∧ E ≤ 4 ∧ (∀ ts tk : Int32, f_X1_readSafeItem (nI n) ts 0 tk B pn pe ph pd pt ps pp fac told = some (1, nI q', nI r', ct, nI N, nI E, 0, 0, 0, 0, 0, fa_fill (fun _ => 0) fac 3, fa_fill (fun _ => -1) told 6)) ∧ DR does st N E 0 kinds extras (fa_fill (fun _ => 0) fac 3) (fa_fill (fun _ => -1) told 6) past ahd st' ∧ ((does = 0 ∧ um' = um) ∨ (does = 1 ∧ um' = 0)) ∧
      ∀ q2 r2 k2 v2 : Nat, (∀ tk vl bg : Int32, f_X4_nextToken (nI n) (nI r') tk vl bg T = some (nI r2, nI k2, nI v2, nI q2)) → (f_X4_readItem (nI n) (nI r) rt vt (nI q) 0 um st T row 0 (nI does)).bind (TL (nI n) T 0) = some (.inl (0 + 1, nI r2, nI k2, nI v2, nI q2, 0, um', st', row')))) := by
  have hn := X.1
  obtain ⟨q, r, k, v, h1, hq, hr, hk, A0, D0, a0, a1, a2, a3⟩ := tok X (p := 0) (by omega)
  have A0 : ∀ ts tk : Int32, f_X1_nextToken (nI n) ts 0 tk B = some (nI q, nI r, nI k) := A0
  refine ⟨q, r, nI (kr k q r), nI v, D0, ?_⟩
  obtain ⟨b, hb, hw1, hw2⟩ := word_safe X hk hr hq
  rcases hb with rfl | rfl
  · left
    refine ⟨q, (nI r, nI k, pn, pe, ph, pd, pt, ps, pp, fac, told), nI r, nI (kr k q r), nI v, 0, um, st, row, by omega, fun _ => ⟨rfl, rfl⟩, fun ts tk => ?_, ?_⟩
    · simp only [f_X1_readSafeItem, A0, hw1, Option.bind_some, ↓reduceIte]
    · simp only [f_X4_readItem, ↓reduceIte, hw2, Option.bind_some, bz_0, gd_t]
      exact TL_0 rfl
  · rcases two_both X hr 0 96 1 4 with ⟨q1, r1, ct, rt, vt, b1, b2, b3, A, Bq⟩ | ⟨q1, r1, v1, ct, rt, vt, b1, b2, b3, b4, b5, b6, A, Bq, q2, r2, v2, ct2, rt2, vt2, c1, c2, c3, c4⟩
    · left
      obtain ⟨row', Bq'⟩ := Bq (nI (kr k q r)) (nI v) (nI q) row
      refine ⟨q1, (nI r1, ct, pn, pe, ph, pd, pt, ps, pp, fac, told), nI r1, rt, vt, 0, um, st, row', by omega, fun _ => ⟨rfl, rfl⟩, fun ts tk => ?_, ?_⟩
      · simp only [f_X1_readSafeItem, A0, hw1, Option.bind_some, n10, ↓reduceIte, A]
      · simp only [f_X4_readItem, ↓reduceIte, hw2, Option.bind_some, n10, Bq', bz_0, gd_t]
        exact TL_0 rfl
    · have hv1 : v1 ≤ 96 := by
        obtain ⟨m, m3, m4⟩ := wi_n (N := 96) (v := nI v1) rfl (by decide) ⟨b4, b5⟩
        have : v1 = m := (nI_eq (by omega) (by omega)).mp m4
        omega
      have n1 : ¬ nI v1 = -1 := nm1 (by omega)
      rcases c4 with ⟨e1, e2, e3, e4, A2, B2⟩ | ⟨A2, B2⟩
      · obtain ⟨q3, r3, ct3, rt3, vt3, s1, s2, s3, N3, s4⟩ := stop_both X c3
        have hv2 : 1 ≤ v2 ∧ v2 ≤ 4 := by
          obtain ⟨m, m1, m3, m4⟩ := wi_n1 (N := 4) (v := nI v2) rfl (by decide) ⟨e2, e3⟩
          have : v2 = m := (nI_eq (by omega) (by omega)).mp m4
          omega
        have n2 : ¬ nI v2 = -1 := nm1 (by omega)
        have PF : f_X0_begin pn pe ph pd pt ps pp fac told (nI v1) (nI v2) = some (nI v1, nI v2, 0, 0, 0, 0, 0, fa_fill (fun _ => 0) fac 3, fa_fill (fun _ => -1) told 6) := by
          simp only [f_X0_begin, v_fill (show 3 ≤ 150 by decide), v_empty, Option.bind_some]
        have w0 : (upd (upd row 0 (nI v1)) 1 (nI v2)) 0 = nI v1 := by rw [pk_un (by decide), pk_us]
        have w1 : (upd (upd row 0 (nI v1)) 1 (nI v2)) 1 = nI v2 := pk_us
        have st2 : ∃ um' st', DR does st v1 v2 0 kinds extras (fa_fill (fun _ => 0) fac 3) (fa_fill (fun _ => -1) told 6) past ahd st' ∧ ((does = 0 ∧ um' = um) ∨ (does = 1 ∧ um' = 0)) ∧ f_X4_readItem (nI n) (nI r) (nI (kr k q r)) (nI v) (nI q) 0 um st T row 0 (nI does) = some (1, nI r2, rt2, vt2, nI q2, 0, um', st', upd (upd row 0 (nI v1)) 1 (nI v2)) := by
          rcases hdoes with rfl | rfl
          · refine ⟨um, st, Or.inl ⟨rfl, rfl⟩, Or.inl ⟨rfl, rfl⟩, ?_⟩
            simp only [f_X4_readItem, ↓reduceIte, hw2, Option.bind_some, n10, Bq, B2, bz_1, gd_t, show nI 0 = 0 from rfl]
          · refine ⟨0, _, Or.inr ⟨rfl, SR.new (n := v1) (e := v2) (by omega) hv2.1 hv2.2 kinds extras fac told past st ahd⟩, Or.inr ⟨rfl, rfl⟩, ?_⟩
            simp only [f_X4_readItem, ↓reduceIte, hw2, Option.bind_some, n10, Bq, B2, bz_1, gd_t, show ¬ nI 1 = 0 by decide, show inb (0 : Int32) 2 = true by decide, show inb (1 : Int32) 2 = true by decide, cl_0, cl_1, w0, w1, w_anew]
        obtain ⟨um', st', hD', hu', RI⟩ := st2
        rcases s4 with ⟨t1, t2, t3⟩ | ⟨t2, t3⟩
        · right
          refine ⟨q3, r3, v1, v2, ct3, um', st', upd (upd row 0 (nI v1)) 1 (nI v2), by omega, s3, by omega, hv2.1, hv2.2, fun ts tk => ?_, hD', hu', fun q4 r4 k4 v4 N4 => ?_⟩
          · simp only [f_X1_readSafeItem, A0, hw1, Option.bind_some, n10, ↓reduceIte, A, if_neg n1, A2, if_neg n2, PF, t3, bz_1, gd_t]
          · rw [RI, Option.bind_some]
            exact TL_ok n10 (N3 _ _ _) t2 (N4 _ _ _)
        · left
          refine ⟨q3, (nI r3, ct3, nI v1, nI v2, 0, 0, 0, 0, 0, fa_fill (fun _ => 0) fac 3, fa_fill (fun _ => -1) told 6), nI r3, rt3, vt3, 0, um', st', upd (upd row 0 (nI v1)) 1 (nI v2), by omega, fun z => ⟨hD'.zero z, um_0 hu' z⟩, fun ts tk => ?_, ?_⟩
          · simp only [f_X1_readSafeItem, A0, hw1, Option.bind_some, n10, ↓reduceIte, A, if_neg n1, A2, if_neg n2, PF, t3, bz_0, gd_t]
          · rw [RI, Option.bind_some]
            exact TL_bad n10 (N3 _ _ _) t2
      · left
        obtain ⟨row', B2'⟩ := B2 rt vt (nI q1) (upd row 0 (nI v1))
        refine ⟨q2, (nI r2, ct2, pn, pe, ph, pd, pt, ps, pp, fac, told), nI r2, rt2, vt2, 0, um, st, row', by omega, fun _ => ⟨rfl, rfl⟩, fun ts tk => ?_, ?_⟩
        · simp only [f_X1_readSafeItem, A0, hw1, Option.bind_some, n10, ↓reduceIte, A, if_neg n1, A2]
        · simp only [f_X4_readItem, ↓reduceIte, hw2, Option.bind_some, n10, Bq, B2', bz_0, gd_t]
          exact TL_0 rfl
