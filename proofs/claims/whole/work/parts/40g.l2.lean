def CW (P : Nat → Int32) (m j : Nat) : Int32 := if m.testBit j = true then -1 else P j
theorem v_copyWithout {P : Nat → Int32} {m : Nat} (hm : m < 64) (f : Nat → Int32) : f_X2_copyWithout f P (nI m) = some (fa_fill (CW P m) f 6) := by
  have key : lp (b_X2_copyWithout_2 P (nI m)) 200 (nI 0, fa_fill (CW P m) f 0) = some (fa_fill (CW P m) f 6) := by
    refine lp_run (fun i => (nI i, fa_fill (CW P m) f i)) 6 (fun i hi => ?_) ?_ 200 (by decide)
    · simp only [b_X2_copyWithout_2, if_neg (i6 hi), v_isIn m hm i hi, Option.bind_some, v_at6t hi, inb_nI hi (by decide), gd_t, c6 (show i ≤ 6 by omega), nI_1]
      rw [← fa_fill_succ]
      by_cases q : m.testBit i = true
      · simp only [CW, if_pos q, n10, ↓reduceIte, Option.bind_some]
      · simp only [CW, if_neg q, ↓reduceIte, Option.bind_some]
    · simp only [b_X2_copyWithout_2, if_pos i6e]
  rw [fa_fill_0] at key
  have key : lp (b_X2_copyWithout_2 P (nI m)) 200 (0, f) = _ := key
  simp only [f_X2_copyWithout, key, Option.bind_some]
theorem CW0 (P : Nat → Int32) (j : Nat) : CW P 0 j = P j := by simp [CW]
theorem PR.congr {k : Nat} {past past' ahead ahead' : Nat → Int32} {i : Nat} (hi : i < 8) (h : PR k past ahead i) (h1 : ∀ j, j < 48 → past' j = past j) (h2 : ∀ j, j < 48 → ahead' j = ahead j) : PR k past' ahead' i := by
  obtain ⟨d', t', s', c1', c2', c3', a1, a2, a3, a4, a5, a6, q0, q1, q2, q3, q4, q5, w0, w1, w2, w3, w4, w5⟩ := h
  exact ⟨d', t', s', c1', c2', c3', a1, a2, a3, a4, a5, a6, (h1 _ (by omega)).trans q0, (h1 _ (by omega)).trans q1, (h1 _ (by omega)).trans q2, (h1 _ (by omega)).trans q3, (h1 _ (by omega)).trans q4, (h1 _ (by omega)).trans q5, (h2 _ (by omega)).trans w0, (h2 _ (by omega)).trans w1, (h2 _ (by omega)).trans w2, (h2 _ (by omega)).trans w3, (h2 _ (by omega)).trans w4, (h2 _ (by omega)).trans w5⟩
theorem SR.congr {k : Nat} {v v' : SafeT} {st st' ahead ahead' : Nat → Int32} {um um' : Int32} (h : SR k v st ahead um) (h1 : ∀ j, j < 27 → st' j = st j) (h2 : ∀ j, j < 48 → ahead' j = ahead j) (h3 : um' = um)
    (hv : v'.1 = v.1 ∧ v'.2.1 = v.2.1 ∧ v'.2.2.1 = v.2.2.1 ∧ v'.2.2.2.1 = v.2.2.2.1 ∧ v'.2.2.2.2.1 = v.2.2.2.2.1 ∧ v'.2.2.2.2.2.1 = v.2.2.2.2.2.1 ∧ v'.2.2.2.2.2.2.1 = v.2.2.2.2.2.2.1) (k1 : ∀ j, j < 6 → v'.2.2.2.2.2.2.2.1 j = v.2.2.2.2.2.2.2.1 j) (k2 : ∀ j, j < 6 → v'.2.2.2.2.2.2.2.2.1 j = v.2.2.2.2.2.2.2.2.1 j) (k3 : ∀ j, j < 3 → v'.2.2.2.2.2.2.2.2.2.1 j = v.2.2.2.2.2.2.2.2.2.1 j) (k4 : ∀ j, j < 6 → v'.2.2.2.2.2.2.2.2.2.2.1 j = v.2.2.2.2.2.2.2.2.2.2.1 j) (k5 : ∀ j, j < 48 → v'.2.2.2.2.2.2.2.2.2.2.2 j = v.2.2.2.2.2.2.2.2.2.2.2 j) : SR k v' st' ahead' um' := by
  obtain ⟨q1, q2, q3, q4, q5, q6, q7⟩ := hv
  obtain ⟨n, e, h, d, t, s, u, c1, c2, c3, a, b, ⟨f1, f2, f3⟩, ⟨s0, s1, s2, s3, s4, s5, s6, s7, s8, s9⟩, hk, ht, hp⟩ := h
  have a6 : h ≤ 6 := a.2.2.2.1
  have a8 : u ≤ 8 := a.2.2.2.2.2.2.2.1
  refine ⟨n, e, h, d, t, s, u, c1, c2, c3, a, by rw [q1, q2, q3, q4, q5, q6, q7]; exact b, ⟨(k3 0 (by decide)).trans f1, (k3 1 (by decide)).trans f2, (k3 2 (by decide)).trans f3⟩, ⟨(h1 0 (by decide)).trans s0, (h1 1 (by decide)).trans s1, (h1 2 (by decide)).trans s2, (h1 3 (by decide)).trans s3, (h1 4 (by decide)).trans s4, (h1 5 (by decide)).trans s5, (h1 6 (by decide)).trans s6, (h1 7 (by decide)).trans s7, (h1 8 (by decide)).trans s8, h3.trans s9⟩, fun j hj => ?_, fun j hj => ?_, fun i hi => (hp i hi).congr (by omega) k5 h2⟩
  · rw [h1 (9 + j) (by omega), h1 (15 + j) (by omega), k1 j (by omega), k2 j (by omega)]
    exact hk j hj
  · rw [h1 (21 + j) (by omega), k4 j hj]
    exact ht j hj
theorem v_copyFrom {k : Nat} {v w : SafeT} {st ahead : Nat → Int32} {um : Int32} (h : SR k v st ahead um) :
    ∃ o : SafeT, f_X0_copyFrom w.1 w.2.1 w.2.2.1 w.2.2.2.1 w.2.2.2.2.1 w.2.2.2.2.2.1 w.2.2.2.2.2.2.1 w.2.2.2.2.2.2.2.1 w.2.2.2.2.2.2.2.2.1 w.2.2.2.2.2.2.2.2.2.1 w.2.2.2.2.2.2.2.2.2.2.1 w.2.2.2.2.2.2.2.2.2.2.2 v.1 v.2.1 v.2.2.1 v.2.2.2.1 v.2.2.2.2.1 v.2.2.2.2.2.1 v.2.2.2.2.2.2.1 v.2.2.2.2.2.2.2.1 v.2.2.2.2.2.2.2.2.1 v.2.2.2.2.2.2.2.2.2.1 v.2.2.2.2.2.2.2.2.2.2.1 v.2.2.2.2.2.2.2.2.2.2.2 = some o ∧ ∀ st' ahead' um', (∀ j, j < 27 → st' j = st j) → (∀ j, j < 48 → ahead' j = ahead j) → um' = um → SR k o st' ahead' um' := by
  obtain ⟨n, e, h', d, t, s, u, c1, c2, c3, a, ⟨b1, b2, b3, b4, b5, b6, b7⟩, _⟩ := h.raw
  have k1 : bz v.2.2.2.2.2.1 = true := by rw [b6]; exact bz_n a.2.2.2.2.2.2.1
  have k2 : decide (¬ (0 : Int32) < 0 ∧ ¬ (0 : Int32) < 0 ∧ ¬ (6 : Int32) < 0 ∧ (0 : Int32).toNatClampNeg + (6 : Int32).toNatClampNeg ≤ 6 ∧ (0 : Int32).toNatClampNeg + (6 : Int32).toNatClampNeg ≤ 6) = true := by decide
  have k3 : decide (¬ (0 : Int32) < 0 ∧ ¬ (0 : Int32) < 0 ∧ ¬ (3 : Int32) < 0 ∧ (0 : Int32).toNatClampNeg + (3 : Int32).toNatClampNeg ≤ 3 ∧ (0 : Int32).toNatClampNeg + (3 : Int32).toNatClampNeg ≤ 3) = true := by decide
  have k4 : decide (¬ (0 : Int32) < 0 ∧ ¬ (0 : Int32) < 0 ∧ ¬ (48 : Int32) < 0 ∧ (0 : Int32).toNatClampNeg + (48 : Int32).toNatClampNeg ≤ 48 ∧ (0 : Int32).toNatClampNeg + (48 : Int32).toNatClampNeg ≤ 48) = true := by decide
  have k5 := v_copyWithout (P := v.2.2.2.2.2.2.2.2.2.2.1) (m := 0) (by decide) w.2.2.2.2.2.2.2.2.2.2.1
  rw [show nI 0 = (0 : Int32) from rfl] at k5
  refine ⟨(v.1, v.2.1, v.2.2.1, v.2.2.2.1, v.2.2.2.2.1, v.2.2.2.2.2.1, v.2.2.2.2.2.2.1, va_cpy v.2.2.2.2.2.2.2.1 w.2.2.2.2.2.2.2.1 0 0 6, va_cpy v.2.2.2.2.2.2.2.2.1 w.2.2.2.2.2.2.2.2.1 0 0 6, va_cpy v.2.2.2.2.2.2.2.2.2.1 w.2.2.2.2.2.2.2.2.2.1 0 0 3, fa_fill (CW v.2.2.2.2.2.2.2.2.2.2.1 0) w.2.2.2.2.2.2.2.2.2.2.1 6, va_cpy v.2.2.2.2.2.2.2.2.2.2.2 w.2.2.2.2.2.2.2.2.2.2.2 0 0 48), ?_, fun st' ahead' um' h1 h2 h3 => ?_⟩
  · simp only [f_X0_copyFrom, k1, k2, k3, k4, k5, gd_t, Option.bind_some]
    simp only [cl_0, cl_3, cl_6, show (48 : Int32).toNatClampNeg = 48 by decide]
  · have c : ∀ (f g : Nat → Int32) (N j : Nat), j < N → va_cpy f g 0 0 N j = f j := fun f g N j hj => by
      rw [pk_cpy_in (by omega) (by omega)]
      congr 1
      omega
    exact h.congr h1 h2 h3 ⟨rfl, rfl, rfl, rfl, rfl, rfl, rfl⟩ (fun j hj => c _ _ _ _ hj) (fun j hj => c _ _ _ _ hj) (fun j hj => c _ _ _ _ hj) (fun j hj => (fill6 _ _ j hj).trans (CW0 _ _)) (fun j hj => c _ _ _ _ hj)
theorem a27 (i j : Nat) : (27 : Int32) * nI i + nI j = nI (27 * i + j) := by rw [show (27 : Int32) * nI i = nI (27 * i) from pk_mul 27 i, nI_add]
theorem a48 (i j : Nat) : (48 : Int32) * nI i + nI j = nI (48 * i + j) := by rw [show (48 : Int32) * nI i = nI (48 * i) from pk_mul 48 i, nI_add]
theorem w_image1 {i : Nat} (hi : i < 2) (st kpt : Nat → Int32) : lp (b_X4_image_14 st (nI i)) 200 (0, kpt) = some (wf st kpt (27 * i) 27) := by
  have key : lp (b_X4_image_14 st (nI i)) 200 (nI 0, wf st kpt (27 * i) 0) = some (wf st kpt (27 * i) 27) := by
    refine lp_run (fun j => (nI j, wf st kpt (27 * i) j)) 27 (fun j hj => ?_) ?_ 200 (by decide)
    · have hnle : ¬ (27 : Int32) ≤ nI j := nI_ge (a := j) (b := 27) hj (by decide)
      simp only [b_X4_image_14, if_neg hnle, a27, inb_nI hj (by decide), inb_nI (show 27 * i + j < 54 by omega) (by decide), gd_t, nI_clamp (show j < 2 ^ 31 by omega), nI_clamp (show 27 * i + j < 2 ^ 31 by omega), nI_1]
      rw [← wf_succ]
    · simp only [b_X4_image_14]
      rw [if_pos (show (27 : Int32) ≤ nI 27 by decide)]
  rw [wf_0] at key
  exact key
theorem w_image2 {i : Nat} (hi : i < 2) (st kpt : Nat → Int32) : lp (b_X4_image_45 st (nI i)) 200 (0, kpt) = some (wf st kpt (48 * i) 48) := by
  have key : lp (b_X4_image_45 st (nI i)) 200 (nI 0, wf st kpt (48 * i) 0) = some (wf st kpt (48 * i) 48) := by
    refine lp_run (fun j => (nI j, wf st kpt (48 * i) j)) 48 (fun j hj => ?_) ?_ 200 (by decide)
    · have hnle : ¬ (48 : Int32) ≤ nI j := nI_ge (a := j) (b := 48) hj (by decide)
      simp only [b_X4_image_45, if_neg hnle, a48, inb_nI hj (by decide), inb_nI (show 48 * i + j < 96 by omega) (by decide), gd_t, nI_clamp (show j < 2 ^ 31 by omega), nI_clamp (show 48 * i + j < 2 ^ 31 by omega), nI_1]
      rw [← wf_succ]
    · simp only [b_X4_image_45]
      rw [if_pos (show (48 : Int32) ≤ nI 48 by decide)]
  rw [wf_0] at key
  exact key
theorem w_from1 {i : Nat} (hi : i < 2) (st kpt : Nat → Int32) : lp (b_X4_from_28 kpt (nI i)) 200 (0, st) = some (fa_fill (fun j => kpt (27 * i + j)) st 27) := by
  have key : lp (b_X4_from_28 kpt (nI i)) 200 (nI 0, fa_fill (fun j => kpt (27 * i + j)) st 0) = some (fa_fill (fun j => kpt (27 * i + j)) st 27) := by
    refine lp_run (fun j => (nI j, fa_fill (fun j => kpt (27 * i + j)) st j)) 27 (fun j hj => ?_) ?_ 200 (by decide)
    · have hnle : ¬ (27 : Int32) ≤ nI j := nI_ge (a := j) (b := 27) hj (by decide)
      simp only [b_X4_from_28, if_neg hnle, a27, inb_nI hj (by decide), inb_nI (show 27 * i + j < 54 by omega) (by decide), gd_t, nI_clamp (show j < 2 ^ 31 by omega), nI_clamp (show 27 * i + j < 2 ^ 31 by omega), nI_1]
      rw [← fa_fill_succ]
    · simp only [b_X4_from_28]
      rw [if_pos (show (27 : Int32) ≤ nI 27 by decide)]
  rw [fa_fill_0] at key
  exact key
theorem w_from2 {i : Nat} (hi : i < 2) (st kpt : Nat → Int32) : lp (b_X4_from_59 kpt (nI i)) 200 (0, st) = some (fa_fill (fun j => kpt (48 * i + j)) st 48) := by
  have key : lp (b_X4_from_59 kpt (nI i)) 200 (nI 0, fa_fill (fun j => kpt (48 * i + j)) st 0) = some (fa_fill (fun j => kpt (48 * i + j)) st 48) := by
    refine lp_run (fun j => (nI j, fa_fill (fun j => kpt (48 * i + j)) st j)) 48 (fun j hj => ?_) ?_ 200 (by decide)
    · have hnle : ¬ (48 : Int32) ≤ nI j := nI_ge (a := j) (b := 48) hj (by decide)
      simp only [b_X4_from_59, if_neg hnle, a48, inb_nI hj (by decide), inb_nI (show 48 * i + j < 96 by omega) (by decide), gd_t, nI_clamp (show j < 2 ^ 31 by omega), nI_clamp (show 48 * i + j < 2 ^ 31 by omega), nI_1]
      rw [← fa_fill_succ]
    · simp only [b_X4_from_59]
      rw [if_pos (show (48 : Int32) ≤ nI 48 by decide)]
  rw [fa_fill_0] at key
  exact key
theorem IR.congr {k : Nat} {kp f f' : Int32} {v : SafeT} {st st' ahead ahead' : Nat → Int32} {um um' : Int32} (h : IR k kp v f st ahead um) (hf : f' = f) (h1 : ∀ j, j < 27 → st' j = st j) (h2 : ∀ j, j < 48 → ahead' j = ahead j) (h3 : um' = um) : IR k kp v f' st' ahead' um' :=
  ⟨hf.trans h.1, h.2.imp id (fun q => ⟨q.1, q.2.congr h1 h2 h3 ⟨rfl, rfl, rfl, rfl, rfl, rfl, rfl⟩ (fun _ _ => rfl) (fun _ _ => rfl) (fun _ _ => rfl) (fun _ _ => rfl) (fun _ _ => rfl)⟩)⟩
theorem nar_1 : vp_nar .boolean 1 = 1 := by decide
theorem L2_image (k : Nat) (hk : k ≤ 256) (x : CX) (y : MX) (hR : RR k x y) (p1 : Int32) : ∃ (o : Int32 × Int32 × Int32 × Int32 × Int32 × Int32 × Int32 × Int32 × Int32 × Int32 × Int32 × (Nat → Int32) × (Nat → Int32) × (Nat → Int32) × (Nat → Int32) × (Nat → Int32) × Int32 × Int32 × Int32 × Int32 × Int32 × Int32 × Int32 × (Nat → Int32) × (Nat → Int32) × (Nat → Int32) × (Nat → Int32) × (Nat → Int32)) (u : Int32 × (Nat → Int32) × (Nat → Int32) × (Nat → Int32) × (Nat → Int32) × (Nat → Int32)), f_X3_image x.2.2.2.2.2.2.1 x.2.2.2.2.2.2.2.1 x.2.2.2.2.2.2.2.2.1 x.1.1 x.1.2.1 x.1.2.2.1 x.1.2.2.2.1 x.1.2.2.2.2.1 x.1.2.2.2.2.2.1 x.1.2.2.2.2.2.2.1 x.1.2.2.2.2.2.2.2.1 x.1.2.2.2.2.2.2.2.2.1 x.1.2.2.2.2.2.2.2.2.2.1 x.1.2.2.2.2.2.2.2.2.2.2.1 x.1.2.2.2.2.2.2.2.2.2.2.2 x.2.1.1 x.2.1.2.1 x.2.1.2.2.1 x.2.1.2.2.2.1 x.2.1.2.2.2.2.1 x.2.1.2.2.2.2.2.1 x.2.1.2.2.2.2.2.2.1 x.2.1.2.2.2.2.2.2.2.1 x.2.1.2.2.2.2.2.2.2.2.1 x.2.1.2.2.2.2.2.2.2.2.2.1 x.2.1.2.2.2.2.2.2.2.2.2.2.1 x.2.1.2.2.2.2.2.2.2.2.2.2.2 x.2.2.1.1 x.2.2.1.2.1 x.2.2.1.2.2.1 x.2.2.1.2.2.2.1 x.2.2.1.2.2.2.2.1 x.2.2.1.2.2.2.2.2.1 x.2.2.1.2.2.2.2.2.2.1 x.2.2.1.2.2.2.2.2.2.2.1 x.2.2.1.2.2.2.2.2.2.2.2.1 x.2.2.1.2.2.2.2.2.2.2.2.2.1 x.2.2.1.2.2.2.2.2.2.2.2.2.2.1 x.2.2.1.2.2.2.2.2.2.2.2.2.2.2 p1 = some o ∧ f_X4_image y.2.2.2.2.2.2.2.2.2.2.2.2.2.2.2.1 y.1 y.2.2.2.1 y.2.2.2.2.2.2.2.2.2.2.2.2.2.2.1 y.2.2.2.2.2.2.2.2.2.2.2.2.2.2.2.2.2.1 y.2.2.2.2.2.2.2.2.2.2.2.2.2.2.2.2.2.2.1 y.2.2.2.2.2.2.2.2.2.2.2.2.2.2.2.2.2.2.2.1 y.2.2.2.2.2.2.2.2.2.2.2.2.2.2.2.2.2.2.2.2 p1 = some u ∧ o.1 = u.1 ∧ RR (k + 4) (x.1, (o.2.2.2.2.1, o.2.2.2.2.2.1, o.2.2.2.2.2.2.1, o.2.2.2.2.2.2.2.1, o.2.2.2.2.2.2.2.2.1, o.2.2.2.2.2.2.2.2.2.1, o.2.2.2.2.2.2.2.2.2.2.1, o.2.2.2.2.2.2.2.2.2.2.2.1, o.2.2.2.2.2.2.2.2.2.2.2.2.1, o.2.2.2.2.2.2.2.2.2.2.2.2.2.1, o.2.2.2.2.2.2.2.2.2.2.2.2.2.2.1, o.2.2.2.2.2.2.2.2.2.2.2.2.2.2.2.1), (o.2.2.2.2.2.2.2.2.2.2.2.2.2.2.2.2.1, o.2.2.2.2.2.2.2.2.2.2.2.2.2.2.2.2.2.1, o.2.2.2.2.2.2.2.2.2.2.2.2.2.2.2.2.2.2.1, o.2.2.2.2.2.2.2.2.2.2.2.2.2.2.2.2.2.2.2.1, o.2.2.2.2.2.2.2.2.2.2.2.2.2.2.2.2.2.2.2.2.1, o.2.2.2.2.2.2.2.2.2.2.2.2.2.2.2.2.2.2.2.2.2.1, o.2.2.2.2.2.2.2.2.2.2.2.2.2.2.2.2.2.2.2.2.2.2.1, o.2.2.2.2.2.2.2.2.2.2.2.2.2.2.2.2.2.2.2.2.2.2.2.1, o.2.2.2.2.2.2.2.2.2.2.2.2.2.2.2.2.2.2.2.2.2.2.2.2.1, o.2.2.2.2.2.2.2.2.2.2.2.2.2.2.2.2.2.2.2.2.2.2.2.2.2.1, o.2.2.2.2.2.2.2.2.2.2.2.2.2.2.2.2.2.2.2.2.2.2.2.2.2.2.1, o.2.2.2.2.2.2.2.2.2.2.2.2.2.2.2.2.2.2.2.2.2.2.2.2.2.2.2), x.2.2.2.1, x.2.2.2.2.1, x.2.2.2.2.2.1, (o.2.1, o.2.2.1, o.2.2.2.1, x.2.2.2.2.2.2.2.2.2.1, x.2.2.2.2.2.2.2.2.2.2.1, x.2.2.2.2.2.2.2.2.2.2.2.1, x.2.2.2.2.2.2.2.2.2.2.2.2)) (y.1, y.2.1, y.2.2.1, u.2.1, y.2.2.2.2.1, y.2.2.2.2.2.1, y.2.2.2.2.2.2.1, y.2.2.2.2.2.2.2.1, y.2.2.2.2.2.2.2.2.1, y.2.2.2.2.2.2.2.2.2.1, y.2.2.2.2.2.2.2.2.2.2.1, y.2.2.2.2.2.2.2.2.2.2.2.1, y.2.2.2.2.2.2.2.2.2.2.2.2.1, y.2.2.2.2.2.2.2.2.2.2.2.2.2.1, y.2.2.2.2.2.2.2.2.2.2.2.2.2.2.1, y.2.2.2.2.2.2.2.2.2.2.2.2.2.2.2.1, y.2.2.2.2.2.2.2.2.2.2.2.2.2.2.2.2.1, u.2.2.1, u.2.2.2.1, u.2.2.2.2.1, u.2.2.2.2.2) := by
  obtain ⟨nw, i0, i1, dr, row, tx, kp0, kp1, bc, nc, fc, ab, be⟩ := x
  obtain ⟨st, yab, ybe, rf, txt, byt, pl, tok, vlu, beg, yrow, th, pts, usd, ahd, um, drw, ik, kpt, kah, kmn⟩ := y
  obtain ⟨hS, hI0, hI1, hT, ⟨hb, hn, hf⟩, ha, he⟩ := hR
  dsimp only at hS hI0 hI1 hT hb hn hf ha he ⊢
  by_cases h1 : ¬ p1 < 0 ∧ ¬ (1 : Int32) < p1
  · obtain ⟨i, hi, rfl⟩ := wi_n (N := 1) rfl (by decide) h1
    have A := w_image1 (i := i) (by omega) st kpt
    have B := w_image2 (i := i) (by omega) ahd kah
    have : i = 0 ∨ i = 1 := by omega
    rcases this with rfl | rfl
    · obtain ⟨o2, D, E⟩ := v_copyFrom (w := i0) hS
      have z0 : nI 0 = (0 : Int32) := rfl
      rw [z0] at h1 A B ⊢
      refine ⟨_, _, (by simp only [f_X3_image, v_isWithin, v_isDay, v_isImage, v_bad, v_no, v_full, f_X3_refuseBadAs, Option.bind_some, n10, ↓reduceIte, gd_t, if_pos h1, D]; rfl), (by simp only [f_X4_image, in_0_96, in_1_4, in_0_5, in_1_3, in_0_127, in_0_2, in_0_999, in_1_6, in_m1_96, in_0_7, in_0_1, in_0_10, in_0_990, in_0_999999, in_0_60, in_0_100, w_isWhat, w_bad, w_no, w_full, Option.bind_some, n10, ↓reduceIte, gd_t, i27_0, i27_1, i27_5, i27_6, i27_7, i27_8, cl_0, cl_1, cl_5, cl_6, cl_7, cl_8, if_pos h1, A, B, show inb (0 : Int32) 2 = true by decide]; rfl), ?_, ?_⟩
      · rfl
      · have J1 : IR (k + 4) kp1 i1 ((upd ik 0 (vp_nar .boolean 1)) 1) (fun j => (wf st kpt (27 * 0) 27) (27 + j)) (fun j => (wf ahd kah (48 * 0) 48) (48 + j)) ((upd kmn 0 um) 1) := (hI1.mono (by omega)).congr (pk_un (by decide)) (fun j hj => wf_out (by omega)) (fun j hj => wf_out (by omega)) (pk_un (by decide))
        have J0 : IR (k + 4) 1 o2 ((upd ik 0 (vp_nar .boolean 1)) 0) (fun j => (wf st kpt (27 * 0) 27) j) (fun j => (wf ahd kah (48 * 0) 48) j) ((upd kmn 0 um) 0) := by
          refine ⟨by rw [pk_us, nar_1], Or.inr ⟨rfl, (E _ _ _ (fun j hj => ?_) (fun j hj => ?_) pk_us).mono (by omega)⟩⟩
          · have := wf_in (f := st) (g := kpt) (b := 27 * 0) hj
            rw [show 27 * 0 + j = j by omega] at this
            exact this
          · have := wf_in (f := ahd) (g := kah) (b := 48 * 0) hj
            rw [show 48 * 0 + j = j by omega] at this
            exact this
        exact ⟨hS.mono (by omega), J0, J1, hT, ⟨hb, hn, hf⟩, ha, he⟩
    · obtain ⟨o2, D, E⟩ := v_copyFrom (w := i1) hS
      have z0 : nI 1 = (1 : Int32) := rfl
      rw [z0] at h1 A B ⊢
      refine ⟨_, _, (by simp only [f_X3_image, v_isWithin, v_isDay, v_isImage, v_bad, v_no, v_full, f_X3_refuseBadAs, Option.bind_some, n10, ↓reduceIte, gd_t, if_pos h1, D]; rfl), (by simp only [f_X4_image, in_0_96, in_1_4, in_0_5, in_1_3, in_0_127, in_0_2, in_0_999, in_1_6, in_m1_96, in_0_7, in_0_1, in_0_10, in_0_990, in_0_999999, in_0_60, in_0_100, w_isWhat, w_bad, w_no, w_full, Option.bind_some, n10, ↓reduceIte, gd_t, i27_0, i27_1, i27_5, i27_6, i27_7, i27_8, cl_0, cl_1, cl_5, cl_6, cl_7, cl_8, if_pos h1, A, B, show inb (1 : Int32) 2 = true by decide]; rfl), ?_, ?_⟩
      · rfl
      · have J0 : IR (k + 4) kp0 i0 ((upd ik 1 (vp_nar .boolean 1)) 0) (fun j => (wf st kpt (27 * 1) 27) j) (fun j => (wf ahd kah (48 * 1) 48) j) ((upd kmn 1 um) 0) := (hI0.mono (by omega)).congr (pk_un (by decide)) (fun j hj => wf_out (by omega)) (fun j hj => wf_out (by omega)) (pk_un (by decide))
        have J1 : IR (k + 4) 1 o2 ((upd ik 1 (vp_nar .boolean 1)) 1) (fun j => (wf st kpt (27 * 1) 27) (27 + j)) (fun j => (wf ahd kah (48 * 1) 48) (48 + j)) ((upd kmn 1 um) 1) := by
          refine ⟨by rw [pk_us, nar_1], Or.inr ⟨rfl, (E _ _ _ (fun j hj => ?_) (fun j hj => ?_) pk_us).mono (by omega)⟩⟩
          · exact wf_in (f := st) (g := kpt) (b := 27 * 1) hj
          · exact wf_in (f := ahd) (g := kah) (b := 48 * 1) hj
        exact ⟨hS.mono (by omega), J0, J1, hT, ⟨hb, hn, hf⟩, ha, he⟩
  · refine ⟨_, _, (by simp only [f_X3_image, v_isWithin, v_isDay, v_isImage, v_bad, v_no, v_full, f_X3_refuseBadAs, Option.bind_some, n10, ↓reduceIte, gd_t, if_neg h1]; rfl), (by simp only [f_X4_image, in_0_96, in_1_4, in_0_5, in_1_3, in_0_127, in_0_2, in_0_999, in_1_6, in_m1_96, in_0_7, in_0_1, in_0_10, in_0_990, in_0_999999, in_0_60, in_0_100, w_isWhat, w_bad, w_no, w_full, Option.bind_some, n10, ↓reduceIte, gd_t, i27_0, i27_1, i27_5, i27_6, i27_7, i27_8, cl_0, cl_1, cl_5, cl_6, cl_7, cl_8, if_neg h1]; rfl), ?_, ?_⟩
    · rfl
    · exact ⟨hS.mono (by omega), hI0.mono (by omega), hI1.mono (by omega), hT, bad3 hb hn hf, ha, he⟩
theorem L2_from (k : Nat) (hk : k ≤ 256) (x : CX) (y : MX) (hR : RR k x y) (p1 : Int32) : ∃ (o : Int32 × Int32 × Int32 × Int32 × Int32 × Int32 × Int32 × Int32 × Int32 × Int32 × (Nat → Int32) × (Nat → Int32) × (Nat → Int32) × (Nat → Int32) × (Nat → Int32)) (u : Int32 × Int32 × (Nat → Int32) × (Nat → Int32) × (Nat → Int32)), f_X3_from x.2.2.2.2.2.2.1 x.2.2.2.2.2.2.2.1 x.2.2.2.2.2.2.2.2.1 x.2.2.2.2.2.2.2.2.2.1 x.1.1 x.1.2.1 x.1.2.2.1 x.1.2.2.2.1 x.1.2.2.2.2.1 x.1.2.2.2.2.2.1 x.1.2.2.2.2.2.2.1 x.1.2.2.2.2.2.2.2.1 x.1.2.2.2.2.2.2.2.2.1 x.1.2.2.2.2.2.2.2.2.2.1 x.1.2.2.2.2.2.2.2.2.2.2.1 x.1.2.2.2.2.2.2.2.2.2.2.2 x.2.1.1 x.2.1.2.1 x.2.1.2.2.1 x.2.1.2.2.2.1 x.2.1.2.2.2.2.1 x.2.1.2.2.2.2.2.1 x.2.1.2.2.2.2.2.2.1 x.2.1.2.2.2.2.2.2.2.1 x.2.1.2.2.2.2.2.2.2.2.1 x.2.1.2.2.2.2.2.2.2.2.2.1 x.2.1.2.2.2.2.2.2.2.2.2.2.1 x.2.1.2.2.2.2.2.2.2.2.2.2.2 x.2.2.1.1 x.2.2.1.2.1 x.2.2.1.2.2.1 x.2.2.1.2.2.2.1 x.2.2.1.2.2.2.2.1 x.2.2.1.2.2.2.2.2.1 x.2.2.1.2.2.2.2.2.2.1 x.2.2.1.2.2.2.2.2.2.2.1 x.2.2.1.2.2.2.2.2.2.2.2.1 x.2.2.1.2.2.2.2.2.2.2.2.2.1 x.2.2.1.2.2.2.2.2.2.2.2.2.2.1 x.2.2.1.2.2.2.2.2.2.2.2.2.2.2 p1 = some o ∧ f_X4_from y.2.2.2.2.2.2.2.2.2.2.2.2.2.2.2.1 y.1 y.2.2.2.1 y.2.2.2.2.2.2.2.2.2.2.2.2.2.2.1 y.2.2.2.2.2.2.2.2.2.2.2.2.2.2.2.2.2.1 y.2.2.2.2.2.2.2.2.2.2.2.2.2.2.2.2.2.2.1 y.2.2.2.2.2.2.2.2.2.2.2.2.2.2.2.2.2.2.2.1 y.2.2.2.2.2.2.2.2.2.2.2.2.2.2.2.2.2.2.2.2 p1 = some u ∧ o.1 = u.1 ∧ RR (k + 4) ((o.2.2.2.1, o.2.2.2.2.1, o.2.2.2.2.2.1, o.2.2.2.2.2.2.1, o.2.2.2.2.2.2.2.1, o.2.2.2.2.2.2.2.2.1, o.2.2.2.2.2.2.2.2.2.1, o.2.2.2.2.2.2.2.2.2.2.1, o.2.2.2.2.2.2.2.2.2.2.2.1, o.2.2.2.2.2.2.2.2.2.2.2.2.1, o.2.2.2.2.2.2.2.2.2.2.2.2.2.1, o.2.2.2.2.2.2.2.2.2.2.2.2.2.2), x.2.1, x.2.2.1, x.2.2.2.1, x.2.2.2.2.1, x.2.2.2.2.2.1, (x.2.2.2.2.2.2.1, x.2.2.2.2.2.2.2.1, o.2.1, o.2.2.1, x.2.2.2.2.2.2.2.2.2.2.1, x.2.2.2.2.2.2.2.2.2.2.2.1, x.2.2.2.2.2.2.2.2.2.2.2.2)) (u.2.2.1, y.2.1, y.2.2.1, u.2.2.2.1, y.2.2.2.2.1, y.2.2.2.2.2.1, y.2.2.2.2.2.2.1, y.2.2.2.2.2.2.2.1, y.2.2.2.2.2.2.2.2.1, y.2.2.2.2.2.2.2.2.2.1, y.2.2.2.2.2.2.2.2.2.2.1, y.2.2.2.2.2.2.2.2.2.2.2.1, y.2.2.2.2.2.2.2.2.2.2.2.2.1, y.2.2.2.2.2.2.2.2.2.2.2.2.2.1, u.2.2.2.2, u.2.1, y.2.2.2.2.2.2.2.2.2.2.2.2.2.2.2.2.1, y.2.2.2.2.2.2.2.2.2.2.2.2.2.2.2.2.2.1, y.2.2.2.2.2.2.2.2.2.2.2.2.2.2.2.2.2.2.1, y.2.2.2.2.2.2.2.2.2.2.2.2.2.2.2.2.2.2.2.1, y.2.2.2.2.2.2.2.2.2.2.2.2.2.2.2.2.2.2.2.2) := by
  obtain ⟨nw, i0, i1, dr, row, tx, kp0, kp1, bc, nc, fc, ab, be⟩ := x
  obtain ⟨st, yab, ybe, rf, txt, byt, pl, tok, vlu, beg, yrow, th, pts, usd, ahd, um, drw, ik, kpt, kah, kmn⟩ := y
  obtain ⟨hS, hI0, hI1, hT, ⟨hb, hn, hf⟩, ha, he⟩ := hR
  dsimp only at hS hI0 hI1 hT hb hn hf ha he ⊢
  by_cases h1 : ¬ p1 < 0 ∧ ¬ (1 : Int32) < p1
  · obtain ⟨i, hi, rfl⟩ := wi_n (N := 1) rfl (by decide) h1
    have A := w_from1 (i := i) (by omega) st kpt
    have B := w_from2 (i := i) (by omega) ahd kah
    have : i = 0 ∨ i = 1 := by omega
    rcases this with rfl | rfl
    · have z0 : nI 0 = (0 : Int32) := rfl
      rw [z0] at h1 A B ⊢
      obtain ⟨hk0, hk⟩ := hI0
      rcases hk with z | ⟨z, hI⟩
      · subst z
        refine ⟨_, _, (by simp only [f_X3_from, v_isWithin, v_isDay, v_isImage, v_bad, v_no, v_full, f_X3_refuseBadAs, Option.bind_some, n10, ↓reduceIte, gd_t, if_pos h1, f_X3_isKept, bz_0]; rfl), (by simp only [f_X4_from, in_0_96, in_1_4, in_0_5, in_1_3, in_0_127, in_0_2, in_0_999, in_1_6, in_m1_96, in_0_7, in_0_1, in_0_10, in_0_990, in_0_999999, in_0_60, in_0_100, w_isWhat, w_bad, w_no, w_full, Option.bind_some, n10, ↓reduceIte, gd_t, i27_0, i27_1, i27_5, i27_6, i27_7, i27_8, cl_0, cl_1, cl_5, cl_6, cl_7, cl_8, if_pos h1, show inb (0 : Int32) 2 = true by decide, hk0]; rfl), ?_, ?_⟩
        · rfl
        · exact ⟨hS.mono (by omega), ⟨hk0, Or.inl rfl⟩, hI1.mono (by omega), hT, no3 hb hn hf, ha, he⟩
      · subst z
        obtain ⟨o2, D, E⟩ := v_copyFrom (w := nw) hI
        refine ⟨_, _, (by simp only [f_X3_from, v_isWithin, v_isDay, v_isImage, v_bad, v_no, v_full, f_X3_refuseBadAs, Option.bind_some, n10, ↓reduceIte, gd_t, if_pos h1, f_X3_isKept, bz_1, D]; rfl), (by simp only [f_X4_from, in_0_96, in_1_4, in_0_5, in_1_3, in_0_127, in_0_2, in_0_999, in_1_6, in_m1_96, in_0_7, in_0_1, in_0_10, in_0_990, in_0_999999, in_0_60, in_0_100, w_isWhat, w_bad, w_no, w_full, Option.bind_some, n10, ↓reduceIte, gd_t, i27_0, i27_1, i27_5, i27_6, i27_7, i27_8, cl_0, cl_1, cl_5, cl_6, cl_7, cl_8, if_pos h1, show inb (0 : Int32) 2 = true by decide, hk0, A, B]; rfl), ?_, ?_⟩
        · rfl
        · have JS : SR (k + 4) o2 (fa_fill (fun j => kpt (27 * 0 + j)) st 27) (fa_fill (fun j => kah (48 * 0 + j)) ahd 48) (kmn 0) := by
            refine (E _ _ _ (fun j hj => ?_) (fun j hj => ?_) rfl).mono (by omega)
            · rw [fa_fill_in hj]
              show kpt (27 * 0 + j) = kpt j
              rw [show 27 * 0 + j = j by omega]
            · rw [fa_fill_in hj]
              show kah (48 * 0 + j) = kah j
              rw [show 48 * 0 + j = j by omega]
          exact ⟨JS, ⟨hk0, Or.inr ⟨rfl, hI.mono (by omega)⟩⟩, hI1.mono (by omega), hT, ⟨hb, hn, hf⟩, ha, he⟩
    · have z0 : nI 1 = (1 : Int32) := rfl
      rw [z0] at h1 A B ⊢
      obtain ⟨hk0, hk⟩ := hI1
      rcases hk with z | ⟨z, hI⟩
      · subst z
        refine ⟨_, _, (by simp only [f_X3_from, v_isWithin, v_isDay, v_isImage, v_bad, v_no, v_full, f_X3_refuseBadAs, Option.bind_some, n10, ↓reduceIte, gd_t, if_pos h1, f_X3_isKept, bz_0]; rfl), (by simp only [f_X4_from, in_0_96, in_1_4, in_0_5, in_1_3, in_0_127, in_0_2, in_0_999, in_1_6, in_m1_96, in_0_7, in_0_1, in_0_10, in_0_990, in_0_999999, in_0_60, in_0_100, w_isWhat, w_bad, w_no, w_full, Option.bind_some, n10, ↓reduceIte, gd_t, i27_0, i27_1, i27_5, i27_6, i27_7, i27_8, cl_0, cl_1, cl_5, cl_6, cl_7, cl_8, if_pos h1, show inb (1 : Int32) 2 = true by decide, hk0]; rfl), ?_, ?_⟩
        · rfl
        · exact ⟨hS.mono (by omega), hI0.mono (by omega), ⟨hk0, Or.inl rfl⟩, hT, no3 hb hn hf, ha, he⟩
      · subst z
        obtain ⟨o2, D, E⟩ := v_copyFrom (w := nw) hI
        refine ⟨_, _, (by simp only [f_X3_from, v_isWithin, v_isDay, v_isImage, v_bad, v_no, v_full, f_X3_refuseBadAs, Option.bind_some, n10, ↓reduceIte, gd_t, if_pos h1, f_X3_isKept, bz_1, D]; rfl), (by simp only [f_X4_from, in_0_96, in_1_4, in_0_5, in_1_3, in_0_127, in_0_2, in_0_999, in_1_6, in_m1_96, in_0_7, in_0_1, in_0_10, in_0_990, in_0_999999, in_0_60, in_0_100, w_isWhat, w_bad, w_no, w_full, Option.bind_some, n10, ↓reduceIte, gd_t, i27_0, i27_1, i27_5, i27_6, i27_7, i27_8, cl_0, cl_1, cl_5, cl_6, cl_7, cl_8, if_pos h1, show inb (1 : Int32) 2 = true by decide, hk0, A, B]; rfl), ?_, ?_⟩
        · rfl
        · have JS : SR (k + 4) o2 (fa_fill (fun j => kpt (27 * 1 + j)) st 27) (fa_fill (fun j => kah (48 * 1 + j)) ahd 48) (kmn 1) := SR.mono (k := k) (by omega) (E _ _ _ (fun j hj => fa_fill_in hj) (fun j hj => fa_fill_in hj) rfl)
          exact ⟨JS, hI0.mono (by omega), ⟨hk0, Or.inr ⟨rfl, hI.mono (by omega)⟩⟩, hT, ⟨hb, hn, hf⟩, ha, he⟩
  · refine ⟨_, _, (by simp only [f_X3_from, v_isWithin, v_isDay, v_isImage, v_bad, v_no, v_full, f_X3_refuseBadAs, Option.bind_some, n10, ↓reduceIte, gd_t, if_neg h1]; rfl), (by simp only [f_X4_from, in_0_96, in_1_4, in_0_5, in_1_3, in_0_127, in_0_2, in_0_999, in_1_6, in_m1_96, in_0_7, in_0_1, in_0_10, in_0_990, in_0_999999, in_0_60, in_0_100, w_isWhat, w_bad, w_no, w_full, Option.bind_some, n10, ↓reduceIte, gd_t, i27_0, i27_1, i27_5, i27_6, i27_7, i27_8, cl_0, cl_1, cl_5, cl_6, cl_7, cl_8, if_neg h1]; rfl), ?_, ?_⟩
    · rfl
    · exact ⟨hS.mono (by omega), hI0.mono (by omega), hI1.mono (by omega), hT, bad3 hb hn hf, ha, he⟩
