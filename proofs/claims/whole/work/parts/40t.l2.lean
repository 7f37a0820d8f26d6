theorem kr_4 {k q r : Nat} (h : k ≤ 4) : nI (kr k q r) = 4 ↔ k = 3 := by
  have : k = 0 ∨ k = 1 ∨ k = 2 ∨ k = 3 ∨ k = 4 := by omega
  rcases this with rfl | rfl | rfl | rfl | rfl
  · exact ⟨fun z => absurd z (by show ¬ nI 3 = 4; decide), fun z => absurd z (by decide)⟩
  · exact ⟨fun z => absurd z (by show ¬ nI 1 = 4; decide), fun z => absurd z (by decide)⟩
  · refine ⟨fun z => absurd z ?_, fun z => absurd z (by decide)⟩
    by_cases c : r - q ≤ 2
    · simp only [kr, if_pos c]; decide
    · simp only [kr, if_neg c]; decide
  · exact ⟨fun _ => rfl, fun _ => rfl⟩
  · exact ⟨fun z => absurd z (by show ¬ nI 0 = 4; decide), fun z => absurd z (by decide)⟩
theorem kr_3 {k q r : Nat} (h : k ≤ 4) : nI (kr k q r) = 3 ↔ k = 0 := by
  have : k = 0 ∨ k = 1 ∨ k = 2 ∨ k = 3 ∨ k = 4 := by omega
  rcases this with rfl | rfl | rfl | rfl | rfl
  · exact ⟨fun _ => rfl, fun _ => rfl⟩
  · exact ⟨fun z => absurd z (by show ¬ nI 1 = 3; decide), fun z => absurd z (by decide)⟩
  · refine ⟨fun z => absurd z ?_, fun z => absurd z (by decide)⟩
    by_cases c : r - q ≤ 2
    · simp only [kr, if_pos c]; decide
    · simp only [kr, if_neg c]; decide
  · exact ⟨fun z => absurd z (by show ¬ nI 4 = 3; decide), fun z => absurd z (by decide)⟩
  · exact ⟨fun z => absurd z (by show ¬ nI 0 = 3; decide), fun z => absurd z (by decide)⟩
/-- the stop after an item, on both sides -/
theorem stop_both {n : Nat} {C : Nat → Nat} {B T : Nat → Int32} (X : TX n C B T) {p : Nat} (hp : p ≤ n) : ∃ (q r : Nat) (ct rt vt : Int32), p ≤ q ∧ q ≤ r ∧ r ≤ n ∧ (∀ tk vl bg : Int32, f_X4_nextToken (nI n) (nI p) tk vl bg T = some (nI r, rt, vt, nI q)) ∧
    ((q < r ∧ rt = 4 ∧ ∀ ts tk : Int32, f_X1_nextIsStop (nI n) ts (nI p) tk B = some (1, nI q, nI r, ct)) ∨ (¬ rt = 4 ∧ ∀ ts tk : Int32, f_X1_nextIsStop (nI n) ts (nI p) tk B = some (0, nI q, nI r, ct))) := by
  obtain ⟨q, r, k, v, h1, h2, h3, h4, A, D, a0, a1, a2, a3⟩ := tok X hp
  refine ⟨q, r, nI k, nI (kr k q r), nI v, h1, h2, h3, D, ?_⟩
  by_cases c : k = 3
  · left
    refine ⟨a1 (by omega), (kr_4 h4).mpr c, fun ts tk => ?_⟩
    have k3 : nI k = 3 := by rw [c]; rfl
    simp only [f_X1_nextIsStop, A, Option.bind_some, if_pos k3]
  · right
    refine ⟨fun z => c ((kr_4 h4).mp z), fun ts tk => ?_⟩
    have k3 : ¬ nI k = 3 := nI_lit (b := 3) (by omega) (by decide) c
    simp only [f_X1_nextIsStop, A, Option.bind_some, if_neg k3]
/-- two numbers, on both sides: the class's pair, the reference's row -/
theorem two_both {n : Nat} {C : Nat → Nat} {B T : Nat → Int32} (X : TX n C B T) {p : Nat} (hp : p ≤ n) (lo hi lo' hi' : Int32) :
    (∃ (q r : Nat) (ct rt vt : Int32), p ≤ q ∧ q ≤ r ∧ r ≤ n ∧ (∀ ts tk : Int32, f_X1_nextNumber (nI n) ts (nI p) tk B lo hi = some (-1, nI q, nI r, ct)) ∧ (∀ (tk vl bg : Int32) (row : Nat → Int32), ∃ row', f_X4_reads (nI n) (nI p) tk vl bg T row 0 lo hi = some (0, nI r, rt, vt, nI q, row'))) ∨
    (∃ (q r v : Nat) (ct rt vt : Int32), p ≤ q ∧ q < r ∧ r ≤ n ∧ ¬ nI v < lo ∧ ¬ hi < nI v ∧ v ≤ 99 ∧ (∀ ts tk : Int32, f_X1_nextNumber (nI n) ts (nI p) tk B lo hi = some (nI v, nI q, nI r, ct)) ∧ (∀ (tk vl bg : Int32) (row : Nat → Int32), f_X4_reads (nI n) (nI p) tk vl bg T row 0 lo hi = some (1, nI r, rt, vt, nI q, upd row 0 (nI v))) ∧
      ∃ (q' r' v' : Nat) (ct' rt' vt' : Int32), r ≤ q' ∧ q' ≤ r' ∧ r' ≤ n ∧
        ((q' < r' ∧ ¬ nI v' < lo' ∧ ¬ hi' < nI v' ∧ v' ≤ 99 ∧ (∀ ts tk : Int32, f_X1_nextNumber (nI n) ts (nI r) tk B lo' hi' = some (nI v', nI q', nI r', ct')) ∧ (∀ (tk vl bg : Int32) (row : Nat → Int32), f_X4_reads (nI n) (nI r) tk vl bg T row 1 lo' hi' = some (1, nI r', rt', vt', nI q', upd row 1 (nI v')))) ∨
         ((∀ ts tk : Int32, f_X1_nextNumber (nI n) ts (nI r) tk B lo' hi' = some (-1, nI q', nI r', ct')) ∧ (∀ (tk vl bg : Int32) (row : Nat → Int32), ∃ row', f_X4_reads (nI n) (nI r) tk vl bg T row 1 lo' hi' = some (0, nI r', rt', vt', nI q', row'))))) := by
  obtain ⟨q, r, v, ct, rt, h1, h2, h3, h⟩ := num_both X hp lo hi (idx := 0) (by decide)
  rcases h with ⟨a1, a2, a3, a4, a5, a6⟩ | ⟨a1, a2⟩
  · right
    refine ⟨q, r, v, ct, rt, nI v, h1, a1, h3, a2, a3, a4, a5, a6, ?_⟩
    obtain ⟨q', r', v', ct', rt', b1, b2, b3, h'⟩ := num_both X h3 lo' hi' (idx := 1) (by decide)
    refine ⟨q', r', v', ct', rt', nI v', b1, b2, b3, ?_⟩
    rcases h' with h' | ⟨c1, c2⟩
    · exact Or.inl h'
    · exact Or.inr ⟨c1, fun tk vl bg row => ⟨_, c2 tk vl bg row⟩⟩
  · left
    exact ⟨q, r, ct, rt, nI v, h1, h2, h3, a1, fun tk vl bg row => ⟨_, a2 tk vl bg row⟩⟩
/-- one holder more, on both sides -/
theorem SR.hold {k : Nat} {v : SafeT} {st ahead : Nat → Int32} {um : Int32} {h c x : Nat} (hS : SR k v st ahead um) (hh : v.2.2.1 = nI h) (h6 : h < 6) (hc : c < 6) (hx : x < 97) (hu : v.2.2.2.2.2.2.1 = 0) : f_X4_add st (nI c) (nI x) = some (upd (upd (upd st (9 + h) (nI c)) (15 + h) (nI x)) 8 (nI (h + 1))) ∧ SR k (v.1, v.2.1, nI (h + 1), v.2.2.2.1, v.2.2.2.2.1, v.2.2.2.2.2.1, v.2.2.2.2.2.2.1, upd v.2.2.2.2.2.2.2.1 h (nI c), upd v.2.2.2.2.2.2.2.2.1 h (nI x), v.2.2.2.2.2.2.2.2.2.1, v.2.2.2.2.2.2.2.2.2.2.1, v.2.2.2.2.2.2.2.2.2.2.2) (upd (upd (upd st (9 + h) (nI c)) (15 + h) (nI x)) 8 (nI (h + 1))) ahead um := by
  obtain ⟨n, e, h', d, t, s, u, c1, c2, c3, a, ⟨b1, b2, b3, b4, b5, b6, b7⟩, f, ⟨s0, s1, s2, s3, s4, s5, s6, s7, s8, s9⟩, H, ht, hp⟩ := hS.raw
  have e0 : h' = h := (nI_eq (by have := a.2.2.2.1; omega) (by omega)).mp (b3.symm.trans hh)
  subst e0
  have z1 : (upd st (9 + h') (nI c)) 8 = nI h' := by rw [pk_un (by omega)]; exact s8
  have z2 : (upd (upd st (9 + h') (nI c)) (15 + h') (nI x)) 8 = nI h' := by rw [pk_un (by omega)]; exact z1
  refine ⟨by simp only [f_X4_add, i27_8, cl_8, gd_t, s8, a9, i9 h6, c9 h6, z1, a15, i15 h6, c15 h6, z2, nI_1], n, e, h' + 1, d, t, s, u, c1, c2, c3, ⟨a.1, a.2.1, a.2.2.1, by omega, a.2.2.2.2.1, a.2.2.2.2.2.1, a.2.2.2.2.2.2.1, a.2.2.2.2.2.2.2.1, a.2.2.2.2.2.2.2.2⟩, ⟨b1, b2, rfl, b4, b5, b6, b7⟩, f, ?_, fun j hj => ?_, fun j hj => ?_, hp⟩
  · have g : ∀ j, j < 8 → (upd (upd (upd st (9 + h') (nI c)) (15 + h') (nI x)) 8 (nI (h' + 1))) j = st j := fun j hj => by rw [pk_un (by omega), pk_un (by omega), pk_un (by omega)]
    exact ⟨(g 0 (by decide)).trans s0, (g 1 (by decide)).trans s1, (g 2 (by decide)).trans s2, (g 3 (by decide)).trans s3, (g 4 (by decide)).trans s4, (g 5 (by decide)).trans s5, (g 6 (by decide)).trans s6, (g 7 (by decide)).trans s7, pk_us, s9⟩
  · show ∃ c' x' : Nat, c' < 6 ∧ x' < 97 ∧ (upd v.2.2.2.2.2.2.2.1 h' (nI c)) j = nI c' ∧ (upd (upd (upd st (9 + h') (nI c)) (15 + h') (nI x)) 8 (nI (h' + 1))) (9 + j) = nI c' ∧ (upd v.2.2.2.2.2.2.2.2.1 h' (nI x)) j = nI x' ∧ (upd (upd (upd st (9 + h') (nI c)) (15 + h') (nI x)) 8 (nI (h' + 1))) (15 + j) = nI x'
    by_cases q : j = h'
    · subst q
      exact ⟨c, x, hc, hx, pk_us, by rw [pk_un (by omega), pk_un (by omega), pk_us], pk_us, by rw [pk_un (by omega), pk_us]⟩
    · obtain ⟨c', x', q1, q2, q3, q4, q5, q6⟩ := H j (by omega)
      exact ⟨c', x', q1, q2, by rw [pk_un q]; exact q3, by rw [pk_un (by omega), pk_un (by omega), pk_un (by omega)]; exact q4, by rw [pk_un q]; exact q5, by rw [pk_un (by omega), pk_un (by omega), pk_un (by omega)]; exact q6⟩
  · rw [pk_un (show 21 + j ≠ 8 by omega), pk_un (show 21 + j ≠ 15 + h' by omega), pk_un (show 21 + j ≠ 9 + h' by omega)]
    exact ht j hj
