/-! opening the relation -/
theorem n10 : ¬ (1 : Int32) = 0 := by decide
theorem bad3 {rf : Nat → Int32} {a b c : Int32} (h0 : rf 0 = a) (h1 : rf 1 = b) (h2 : rf 2 = c) : (upd rf 0 (rf 0 + 1)) 0 = a + 1 ∧ (upd rf 0 (rf 0 + 1)) 1 = b ∧ (upd rf 0 (rf 0 + 1)) 2 = c := ⟨by rw [pk_us, h0], by rw [pk_un (by decide), h1], by rw [pk_un (by decide), h2]⟩
theorem no3 {rf : Nat → Int32} {a b c : Int32} (h0 : rf 0 = a) (h1 : rf 1 = b) (h2 : rf 2 = c) : (upd rf 1 (rf 1 + 1)) 0 = a ∧ (upd rf 1 (rf 1 + 1)) 1 = b + 1 ∧ (upd rf 1 (rf 1 + 1)) 2 = c := ⟨by rw [pk_un (by decide), h0], by rw [pk_us, h1], by rw [pk_un (by decide), h2]⟩
theorem full3 {rf : Nat → Int32} {a b c : Int32} (h0 : rf 0 = a) (h1 : rf 1 = b) (h2 : rf 2 = c) : (upd rf 2 (rf 2 + 1)) 0 = a ∧ (upd rf 2 (rf 2 + 1)) 1 = b ∧ (upd rf 2 (rf 2 + 1)) 2 = c + 1 := ⟨by rw [pk_un (by decide), h0], by rw [pk_un (by decide), h1], by rw [pk_us, h2]⟩
theorem SR.op {k : Nat} {v : SafeT} {st ahead : Nat → Int32} {um : Int32} (h : SR k v st ahead um) : ∃ n e h d t s u c1 c2 c3 : Nat, SN k n e h d t s u c1 c2 c3 ∧
    (v.1 = nI n ∧ v.2.1 = nI e ∧ v.2.2.1 = nI h ∧ v.2.2.2.1 = nI d ∧ v.2.2.2.2.1 = nI t ∧ v.2.2.2.2.2.1 = nI s ∧ v.2.2.2.2.2.2.1 = nI u) ∧
    (st 5 = nI d ∧ st 6 = nI t ∧ st 7 = nI s ∧ um = nI u) ∧ SD n e h c1 c2 c3 v.2.2.2.2.2.2.2.1 v.2.2.2.2.2.2.2.2.1 v.2.2.2.2.2.2.2.2.2.1 st ∧
    (∀ j, j < 6 → v.2.2.2.2.2.2.2.2.2.2.1 j = st (21 + j) ∧ tv (st (21 + j))) ∧
    (∀ i, i < u → PR k v.2.2.2.2.2.2.2.2.2.2.2 ahead i) := by
  obtain ⟨n, e, h, d, t, s, u, c1, c2, c3, a, b, ⟨f1, f2, f3⟩, ⟨s0, s1, s2, s3, s4, s5, s6, s7, s8, s9⟩, hk, ht, hp⟩ := h
  refine ⟨n, e, h, d, t, s, u, c1, c2, c3, a, b, ⟨s5, s6, s7, s9⟩, ⟨⟨a.1, a.2.1, a.2.2.1, a.2.2.2.1, a.2.2.2.2.2.2.2.2.1, a.2.2.2.2.2.2.2.2.2.1, a.2.2.2.2.2.2.2.2.2.2⟩, ⟨f1, f2, f3⟩, ⟨s0, s1, s2, s3, s4, s8⟩, fun j hj => ?_⟩, ht, hp⟩
  obtain ⟨c, x, q1, q2, q3, q4, q5, q6⟩ := hk j hj
  have e1 : (st (9 + j)).toNatClampNeg = c := by rw [q4, nI_clamp (by omega)]
  have e2 : (st (15 + j)).toNatClampNeg = x := by rw [q6, nI_clamp (by omega)]
  rw [e1, e2]
  exact ⟨q1, q2, q3, q4, q5, q6⟩
/-- closing it again -/
theorem SR.cl {k n e h d t s u c1 c2 c3 : Nat} {v : SafeT} {st ahead : Nat → Int32} {um : Int32} (a : SN k n e h d t s u c1 c2 c3)
    (b : v.1 = nI n ∧ v.2.1 = nI e ∧ v.2.2.1 = nI h ∧ v.2.2.2.1 = nI d ∧ v.2.2.2.2.1 = nI t ∧ v.2.2.2.2.2.1 = nI s ∧ v.2.2.2.2.2.2.1 = nI u)
    (c : st 5 = nI d ∧ st 6 = nI t ∧ st 7 = nI s ∧ um = nI u) (S : SD n e h c1 c2 c3 v.2.2.2.2.2.2.2.1 v.2.2.2.2.2.2.2.2.1 v.2.2.2.2.2.2.2.2.2.1 st)
    (ht : ∀ j, j < 6 → v.2.2.2.2.2.2.2.2.2.2.1 j = st (21 + j) ∧ tv (st (21 + j))) (hp : ∀ i, i < u → PR k v.2.2.2.2.2.2.2.2.2.2.2 ahead i) : SR k v st ahead um := by
  obtain ⟨-, f, ⟨s0, s1, s2, s3, s4, s8⟩, H⟩ := S
  exact ⟨n, e, h, d, t, s, u, c1, c2, c3, a, b, f, ⟨s0, s1, s2, s3, s4, c.1, c.2.1, c.2.2.1, s8, c.2.2.2⟩, fun j hj => ⟨_, _, (H j hj).1, (H j hj).2.1, (H j hj).2.2.1, (H j hj).2.2.2.1, (H j hj).2.2.2.2.1, (H j hj).2.2.2.2.2⟩, ht, hp⟩
theorem SN.mono {k k' n e h d t s u c1 c2 c3 : Nat} (hk : k ≤ k') (a : SN k n e h d t s u c1 c2 c3) : SN k' n e h d t s u c1 c2 c3 := ⟨a.1, a.2.1, a.2.2.1, a.2.2.2.1, Nat.le_trans a.2.2.2.2.1 hk, a.2.2.2.2.2⟩
theorem v_fill {n : Nat} (hn : n ≤ 150) (f : Nat → Int32) (v : Int32) : f_J7_fill_53178 n f v = some (fa_fill (fun _ => v) f n) := by
  have key : lp (b_J7_fill_53178_5 v n) 200 (nI 0, fa_fill (fun _ => v) f 0) = some (fa_fill (fun _ => v) f n) := by
    refine lp_run (fun i => (nI i, fa_fill (fun _ => v) f i)) n (fun i hi => ?_) ?_ 200 (by omega)
    · have hnle : ¬ Int32.ofNat n ≤ nI i := nI_ge (a := i) (b := n) hi (by omega)
      simp only [b_J7_fill_53178_5, if_neg hnle, inb_nI hi (by omega), gd_t, nI_clamp (show i < 2 ^ 31 by omega), nI_1]
      rw [← fa_fill_succ]
    · simp only [b_J7_fill_53178_5]
      rw [if_pos (show Int32.ofNat n ≤ nI n from nI_le (a := n) (b := n) (Nat.le_refl n) (by omega))]
  rw [fa_fill_0] at key
  have key : lp (b_J7_fill_53178_5 v n) 200 (0, f) = _ := key
  simp only [f_J7_fill_53178, key, Option.bind_some]
theorem v_empty (f : Nat → Int32) : f_X2_empty f = some (fa_fill (fun _ => -1) f 6) := by
  simp only [f_X2_empty, v_fill (show 6 ≤ 150 by decide), Option.bind_some]
def anF (k : Nat) : Int32 := if 21 ≤ k then -1 else 0
theorem w_anew (um : Int32) (st : Nat → Int32) (p1 p2 : Int32) : f_X4_anew um st p1 p2 = some (0, upd (upd (fa_fill anF st 27) 0 p1) 1 p2) := by
  have key : lp b_X4_anew_2 200 (nI 0, fa_fill anF st 0) = some (fa_fill anF st 27) := by
    refine lp_run (fun i => (nI i, fa_fill anF st i)) 27 (fun i hi => ?_) ?_ 200 (by decide)
    · have hnle : ¬ (27 : Int32) ≤ nI i := nI_ge (a := i) (b := 27) hi (by decide)
      simp only [b_X4_anew_2, if_neg hnle, inb_nI hi (by decide), gd_t, nI_clamp (show i < 2 ^ 31 by omega), nI_1]
      rw [← fa_fill_succ]
      by_cases q : 21 ≤ i
      · rw [if_pos (show (21 : Int32) ≤ nI i from nI_le (a := 21) (b := i) q (by omega))]
        simp only [anF, if_pos q, Option.bind_some]
      · rw [if_neg (show ¬ (21 : Int32) ≤ nI i from nI_ge (a := i) (b := 21) (by omega) (by decide))]
        simp only [anF, if_neg q, Option.bind_some]
    · simp only [b_X4_anew_2]
      rw [if_pos (show (27 : Int32) ≤ nI 27 by decide)]
  rw [fa_fill_0] at key
  have key : lp b_X4_anew_2 200 (0, st) = _ := key
  simp only [f_X4_anew, key, Option.bind_some, i27_0, i27_1, gd_t, cl_0, cl_1]
/-- a new safe, on both sides -/
theorem SR.new {k n e : Nat} (hn : n < 97) (he : 1 ≤ e) (he4 : e ≤ 4) (kinds extras fac told past st ahead : Nat → Int32) : SR k (nI n, nI e, 0, 0, 0, 0, 0, kinds, extras, fa_fill (fun _ => 0) fac 3, fa_fill (fun _ => -1) told 6, past) (upd (upd (fa_fill anF st 27) 0 (nI n)) 1 (nI e)) ahead 0 := by
  have g : ∀ j, j < 27 → j ≠ 0 → j ≠ 1 → (upd (upd (fa_fill anF st 27) 0 (nI n)) 1 (nI e)) j = anF j := fun j h1 h2 h3 => by rw [pk_un h3, pk_un h2, fa_fill_in h1]
  refine ⟨n, e, 0, 0, 0, 0, 0, 0, 0, 0, ⟨hn, he, he4, by omega, by omega, by omega, by omega, by omega, by omega, by omega, by omega⟩, ⟨rfl, rfl, rfl, rfl, rfl, rfl, rfl⟩, ⟨rfl, rfl, rfl⟩, ⟨?_, pk_us, g 2 (by decide) (by decide) (by decide), g 3 (by decide) (by decide) (by decide), g 4 (by decide) (by decide) (by decide), g 5 (by decide) (by decide) (by decide), g 6 (by decide) (by decide) (by decide), g 7 (by decide) (by decide) (by decide), g 8 (by decide) (by decide) (by decide), rfl⟩, fun j hj => absurd hj (by omega), fun j hj => ?_, fun i hi => absurd hi (by omega)⟩
  · rw [pk_un (by decide), pk_us]
  · have e1 : (upd (upd (fa_fill anF st 27) 0 (nI n)) 1 (nI e)) (21 + j) = -1 := by
      rw [g (21 + j) (by omega) (by omega) (by omega)]
      simp [anF]
    rw [e1]
    exact ⟨fa_fill_in (f := fun _ => (-1 : Int32)) hj, Or.inl rfl⟩
