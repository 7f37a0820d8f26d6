/-! the reference's share, and what a holder tells, on both sides -/
theorem w_hstep {g : Nat → Int32} {b N1 e h pw v c j : Nat} (hb : b + 27 ≤ N1) (hN : N1 ≤ 54) (hge : g (b + 1) = nI e) (hg : g (b + 1 + j) = nI c) (hj0 : 1 ≤ j) (hj : j < e) (he4 : e ≤ 4) (hpw : pw < 97) (hv : v < 97) (hc : c < 97) (hh : h < 6) : b_X4_shareOf_18 g (nI b) (nI h) N1 (nI pw, nI v, nI j) = some (.inl (nI (pw * (h + 1) % 97), nI ((v + c * (pw * (h + 1) % 97)) % 97), nI (j + 1))) := by
  have h1 : pw * (h + 1) < 2 ^ 31 := by
    have : pw * (h + 1) ≤ 97 * 6 := Nat.mul_le_mul (by omega) (by omega)
    omega
  have h2 : c * (pw * (h + 1) % 97) ≤ 97 * 97 := Nat.mul_le_mul (by omega) (by have := Nat.mod_lt (pw * (h + 1)) (show 0 < 97 by decide); omega)
  have e1 : nI b + 1 = nI (b + 1) := nI_1 b
  have e2 : (nI b + 2 + nI j) - 1 = nI (b + 1 + j) := by
    rw [show (2 : Int32) = nI 2 from rfl, nI_add, nI_add, show b + 2 + j = (b + 1 + j) + 1 by omega, nI_pred]
  have c1 : (nI (b + 1)).toNatClampNeg = b + 1 := nI_clamp (by omega)
  have c2 : (nI (b + 1 + j)).toNatClampNeg = b + 1 + j := nI_clamp (by omega)
  have hle : ¬ nI e ≤ nI j := nI_ge hj (by omega)
  simp only [b_X4_shareOf_18, e1, e2, c1, c2, hge, hg, inb_nI (show b + 1 < N1 by omega) (by omega), inb_nI (show b + 1 + j < N1 by omega) (by omega), gd_t, if_neg hle, nI_1, pk_mul, jr97 h1, nI_add, nm]
  rw [jr97 (by omega)]
theorem w_shareOf {g : Nat → Int32} {b N1 n e c1 c2 c3 h : Nat} (hb : b + 27 ≤ N1) (hN : N1 ≤ 54) (hn : n < 97) (he : 1 ≤ e) (he4 : e ≤ 4) (h0 : g b = nI n) (hge : g (b + 1) = nI e) (h1 : g (b + 2) = nI c1) (h2 : g (b + 3) = nI c2) (h3 : g (b + 4) = nI c3) (hc1 : c1 < 97) (hc2 : c2 < 97) (hc3 : c3 < 97) (hh : h < 6) : f_X4_shareOf N1 g (nI b) (nI h) = some (nI (sh n e c1 c2 c3 h)) := by
  have m97 : ∀ z : Nat, z % 97 < 97 := fun z => Nat.mod_lt z (by decide)
  have e0 : nI b + 0 = nI b := nI_add b 0
  have e1 : nI b + 1 = nI (b + 1) := nI_1 b
  have cb : (nI b).toNatClampNeg = b := nI_clamp (by omega)
  have cb1 : (nI (b + 1)).toNatClampNeg = b + 1 := nI_clamp (by omega)
  have ex : ∀ pw v : Int32, b_X4_shareOf_18 g (nI b) (nI h) N1 (pw, v, nI e) = some (.inr v) := fun pw v => by
    simp only [b_X4_shareOf_18, e1, cb1, hge, inb_nI (show b + 1 < N1 by omega) (by omega), gd_t]
    rw [if_pos (nI_le (Nat.le_refl e) (by omega))]
  unfold f_X4_shareOf
  simp only [e0, cb, h0, inb_nI (show b < N1 by omega) (by omega), gd_t]
  rcases (show e = 1 ∨ e = 2 ∨ e = 3 ∨ e = 4 by omega) with rfl | rfl | rfl | rfl
  · have L : lp (b_X4_shareOf_18 g (nI b) (nI h) N1) 200 (1, nI n, 1) = some _ := lp_o 199 (ex 1 (nI n))
    rw [L]
    simp only [Option.bind_some]
    congr 2
    simp [sh]
    omega
  · have s1 := w_hstep (pw := 1) (v := n) (j := 1) (h := h) hb hN hge h1 (by decide) (by decide) (by decide) (by decide) hn hc1 hh
    have L : lp (b_X4_shareOf_18 g (nI b) (nI h) N1) 200 (1, nI n, 1) = some _ := (lp_i 199 s1).trans (lp_o 198 (ex _ _))
    rw [L]
    simp only [Option.bind_some]
    congr 2
    simp only [sh]
    rcases (show h = 0 ∨ h = 1 ∨ h = 2 ∨ h = 3 ∨ h = 4 ∨ h = 5 by omega) with rfl | rfl | rfl | rfl | rfl | rfl <;> simp <;> omega
  · have s1 := w_hstep (pw := 1) (v := n) (j := 1) (h := h) hb hN hge h1 (by decide) (by decide) (by decide) (by decide) hn hc1 hh
    have s2 := w_hstep (j := 2) (h := h) hb hN hge h2 (by decide) (by decide) (by decide) (m97 (1 * (h + 1))) (m97 (n + c1 * (1 * (h + 1) % 97))) hc2 hh
    have L : lp (b_X4_shareOf_18 g (nI b) (nI h) N1) 200 (1, nI n, 1) = some _ := (lp_i 199 s1).trans ((lp_i 198 s2).trans (lp_o 197 (ex _ _)))
    rw [L]
    simp only [Option.bind_some]
    congr 2
    simp only [sh]
    rcases (show h = 0 ∨ h = 1 ∨ h = 2 ∨ h = 3 ∨ h = 4 ∨ h = 5 by omega) with rfl | rfl | rfl | rfl | rfl | rfl <;> simp <;> omega
  · have s1 := w_hstep (pw := 1) (v := n) (j := 1) (h := h) hb hN hge h1 (by decide) (by decide) (by decide) (by decide) hn hc1 hh
    have s2 := w_hstep (j := 2) (h := h) hb hN hge h2 (by decide) (by decide) (by decide) (m97 (1 * (h + 1))) (m97 (n + c1 * (1 * (h + 1) % 97))) hc2 hh
    have s3 := w_hstep (j := 3) (h := h) hb hN hge h3 (by decide) (by decide) (by decide) (m97 (1 * (h + 1) % 97 * (h + 1))) (m97 ((n + c1 * (1 * (h + 1) % 97)) % 97 + c2 * (1 * (h + 1) % 97 * (h + 1) % 97))) hc3 hh
    have L : lp (b_X4_shareOf_18 g (nI b) (nI h) N1) 200 (1, nI n, 1) = some _ := (lp_i 199 s1).trans ((lp_i 198 s2).trans ((lp_i 197 s3).trans (lp_o 196 (ex _ _))))
    rw [L]
    simp only [Option.bind_some]
    congr 2
    simp only [sh]
    rcases (show h = 0 ∨ h = 1 ∨ h = 2 ∨ h = 3 ∨ h = 4 ∨ h = 5 by omega) with rfl | rfl | rfl | rfl | rfl | rfl <;> simp <;> omega
/-- what a holder of kind c, number x tells of the share s on day d if m come -/
def wd (c x s d m : Nat) : Int32 := if c = 1 then (if d % (x % 5 + 2) = 0 then -1 else nI s) else if c = 2 then nI ((s + x) % 97) else if c = 3 then (if 3 ≤ m then nI s else nI ((s + x) % 97)) else if c = 4 then (if d % (x % 5 + 2) = 0 ∨ d % 2 = 1 then -1 else nI s) else if c = 5 then nI ((s + x + d) % 97) else nI s
theorem wd_tv {c x s d m : Nat} (hs : s < 97) : tv (wd c x s d m) := by
  have m97 : ∀ z : Nat, z % 97 < 97 := fun z => Nat.mod_lt z (by decide)
  unfold wd
  repeat' split
  all_goals first | exact Or.inl rfl | exact Or.inr ⟨_, hs, rfl⟩ | exact Or.inr ⟨_, m97 _, rfl⟩
theorem v_floorMod5 : ∀ x, x < 97 → f_J9_floorMod_7cf53 (nI x) 5 = some (nI (x % 5)) := by decide +kernel
theorem jr_n {a d : Nat} (ha : a < 2 ^ 31) (h0 : 0 < d) (hd : d < 2 ^ 31) : jrem (nI a) (nI d) = nI (a % d) := pk_rem ha h0 hd
theorem v_isForgotten {x d : Nat} (hx : x < 97) (hd : d < 2 ^ 31) : f_X0_isForgotten (nI x) (nI d) = some (if d % (x % 5 + 2) = 0 then 1 else 0) := by
  have e1 : nI (x % 5) + 2 = nI (x % 5 + 2) := nI_add (x % 5) 2
  have hp : x % 5 + 2 < 2 ^ 31 := by omega
  simp only [f_X0_isForgotten, v_floorMod5 x hx, Option.bind_some, e1]
  rw [if_neg (nI_nle (by omega) hp), show decide (¬ nI (x % 5 + 2) = 0) = true from decide_eq_true (nI_ne0 (by omega) hp), gd_t, jr_n hd (by omega) hp]
  have hm : d % (x % 5 + 2) < 2 ^ 31 := Nat.lt_of_le_of_lt (Nat.mod_le _ _) hd
  by_cases h : d % (x % 5 + 2) = 0
  · rw [if_pos h, if_pos (by rw [h]; rfl)]
  · rw [if_neg h, if_neg (nI_ne0 (by omega) hm)]
theorem v_at6 {f : Nat → Int32} {j : Nat} (hj : j < 6) : f_X0_kindOf f (nI j) = some (f j) := by
  simp only [f_X0_kindOf, if_neg (nI_pos (show j < 2 ^ 31 by omega)), if_neg (show ¬ (6 : Int32) ≤ nI j from nI_ge hj (by decide)), inb_nI hj (by decide), gd_t, nI_clamp (show j < 2 ^ 31 by omega)]
theorem v_at6x {f : Nat → Int32} {j : Nat} (hj : j < 6) : f_X0_extraOf f (nI j) = some (f j) := by
  simp only [f_X0_extraOf, if_neg (nI_pos (show j < 2 ^ 31 by omega)), if_neg (show ¬ (6 : Int32) ≤ nI j from nI_ge hj (by decide)), inb_nI hj (by decide), gd_t, nI_clamp (show j < 2 ^ 31 by omega)]
theorem v_at6t {f : Nat → Int32} {j : Nat} (hj : j < 6) : f_X2_numberAt f (nI j) = some (f j) := by
  simp only [f_X2_numberAt, if_neg (nI_pos (show j < 2 ^ 31 by omega)), if_neg (show ¬ (6 : Int32) ≤ nI j from nI_ge hj (by decide)), inb_nI hj (by decide), gd_t, nI_clamp (show j < 2 ^ 31 by omega)]
theorem v_put6 {f : Nat → Int32} {j : Nat} {v : Int32} (hj : j < 6) : f_X2_put f (nI j) v = some (upd f j v) := by
  simp only [f_X2_put, if_neg (nI_pos (show j < 2 ^ 31 by omega)), if_neg (show ¬ (6 : Int32) ≤ nI j from nI_ge hj (by decide)), inb_nI hj (by decide), gd_t, nI_clamp (show j < 2 ^ 31 by omega)]
theorem nI_lit {a b : Nat} (ha : a < 2 ^ 31) (hb : b < 2 ^ 31) (h : a ≠ b) : ¬ nI a = nI b := fun q => h ((nI_eq ha hb).mp q)
theorem v_wordOf {fac kinds extras : Nat → Int32} {n e c1 c2 c3 h c x d m : Nat} (hn : n < 97) (he : 1 ≤ e) (he4 : e ≤ 4) (h1 : fac 0 = nI c1) (h2 : fac 1 = nI c2) (h3 : fac 2 = nI c3) (hc1 : c1 < 97) (hc2 : c2 < 97) (hc3 : c3 < 97) (hh : h < 6) (hk : kinds h = nI c) (hx : extras h = nI x) (hc : c < 6) (hxx : x < 97) (hd : d < 2000) (hm : m ≤ 6) :
    f_X0_wordOf (nI n) (nI e) kinds extras fac (nI h) (nI d) (nI m) = some (wd c x (sh n e c1 c2 c3 h) d m) := by
  have hs := sh_lt n e c1 c2 c3 h
  generalize hS : sh n e c1 c2 c3 h = s at hs
  have e1 : nI s + nI x = nI (s + x) := nI_add s x
  have e2 : nI (s + x) + nI d = nI (s + x + d) := nI_add (s + x) d
  have j2 : jrem (nI d) 2 = nI (d % 2) := jr_n (by omega) (by decide) (by decide)
  simp only [f_X0_wordOf, v_shareOf hn he he4 h1 h2 h3 hc1 hc2 hc3 hh, hS, v_at6 hh, v_at6x hh, hk, hx, Option.bind_some, v_isForgotten hxx (show d < 2 ^ 31 by omega), e1, e2, v_leftOver (show s + x < 2 ^ 31 by omega), v_leftOver (show s + x + d < 2 ^ 31 by omega), j2]
  rcases (show c = 0 ∨ c = 1 ∨ c = 2 ∨ c = 3 ∨ c = 4 ∨ c = 5 by omega) with rfl | rfl | rfl | rfl | rfl | rfl
  · rfl
  · show (if (if d % (x % 5 + 2) = 0 then (1 : Int32) else 0) = 0 then some (nI s) else some (-1)) = _
    simp only [wd]
    by_cases q : d % (x % 5 + 2) = 0
    · simp only [if_pos q]; rfl
    · simp only [if_neg q]; rfl
  · rfl
  · show (if (3 : Int32) ≤ nI m then _ else _) = _
    simp only [wd]
    by_cases q : 3 ≤ m
    · rw [if_pos (show (3 : Int32) ≤ nI m from nI_le q (by omega))]; simp [q]
    · rw [if_neg (show ¬ (3 : Int32) ≤ nI m from nI_ge (a := m) (b := 3) (by omega) (by decide))]; simp [q]
  · show (if (if d % (x % 5 + 2) = 0 then (1 : Int32) else 0) = 0 then _ else _) = _
    simp only [wd]
    by_cases q : d % (x % 5 + 2) = 0
    · simp only [if_pos q]; simp [q]
    · simp only [if_neg q]
      rcases (show d % 2 = 0 ∨ d % 2 = 1 by omega) with r | r
      · simp [r, q, show nI 0 = (0 : Int32) from rfl]
      · simp [r, q, show ¬ nI 1 = (0 : Int32) from by decide]
  · rfl
theorem w_toldOf {st : Nat → Int32} {h c x d m s : Nat} (hs : s < 97) (hh : h < 6) (hk : st (9 + h) = nI c) (hx : st (15 + h) = nI x) (hc : c < 6) (hxx : x < 97) (hd : d < 2000) (hm : m ≤ 6) :
    f_X4_toldOf st (nI h) (nI s) (nI d) (nI m) = some (wd c x s d m) := by
  have e9 : (9 : Int32) + nI h = nI (9 + h) := nI_add 9 h
  have e15 : (15 : Int32) + nI h = nI (15 + h) := nI_add 15 h
  have k9 : (nI (9 + h)).toNatClampNeg = 9 + h := nI_clamp (by omega)
  have k15 : (nI (15 + h)).toNatClampNeg = 15 + h := nI_clamp (by omega)
  have j5 : jrem (nI x) 5 = nI (x % 5) := jr_n (by omega) (by decide) (by decide)
  have e2 : nI (x % 5) + 2 = nI (x % 5 + 2) := nI_add (x % 5) 2
  have hp : x % 5 + 2 < 2 ^ 31 := by omega
  have jd : jrem (nI d) (nI (x % 5 + 2)) = nI (d % (x % 5 + 2)) := jr_n (by omega) (by omega) hp
  have j2 : jrem (nI d) 2 = nI (d % 2) := jr_n (by omega) (by decide) (by decide)
  have nz : decide (¬ nI (x % 5 + 2) = 0) = true := decide_eq_true (nI_ne0 (by omega) hp)
  have s1 : nI s + nI x = nI (s + x) := nI_add s x
  have s2 : nI (s + x) + nI d = nI (s + x + d) := nI_add (s + x) d
  have s3 : nI (s + x) + 0 = nI (s + x) := nI_add (s + x) 0
  simp only [f_X4_toldOf, e9, e15, k9, k15, hk, hx, inb_nI (show 9 + h < 27 by omega) (by decide), inb_nI (show 15 + h < 27 by omega) (by decide), gd_t, j5, e2, jd, j2, nz, s1, s2, s3, jr97 (show s + x < 2 ^ 31 by omega), jr97 (show s + x + d < 2 ^ 31 by omega)]
  have hm1 : d % (x % 5 + 2) < 2 ^ 31 := Nat.lt_of_le_of_lt (Nat.mod_le _ _) (by omega)
  rcases (show c = 0 ∨ c = 1 ∨ c = 2 ∨ c = 3 ∨ c = 4 ∨ c = 5 by omega) with rfl | rfl | rfl | rfl | rfl | rfl
  · rfl
  · show ((if nI (d % (x % 5 + 2)) = 0 then (some (1 : Int32)) else (some (0 : Int32))).bind (fun y1 => if y1 = (0 : Int32) then (some (nI s)) else (some (-1 : Int32)))) = _
    simp only [wd]
    by_cases q : d % (x % 5 + 2) = 0
    · rw [if_pos (by rw [q]; rfl)]; simp [q]
    · rw [if_neg (nI_ne0 (by omega) hm1)]; simp [q]
  · rfl
  · show (if nI m ≤ (2 : Int32) then _ else _) = _
    simp only [wd]
    by_cases q : 3 ≤ m
    · rw [if_neg (show ¬ nI m ≤ (2 : Int32) from nI_ge (a := 2) (b := m) (by omega) (by omega))]; simp [q]
    · rw [if_pos (show nI m ≤ (2 : Int32) from nI_le (a := m) (b := 2) (by omega) (by decide))]; simp [q, show ¬ nI 3 = (5 : Int32) from by decide]
  · show ((if nI (d % (x % 5 + 2)) = 0 then (some (1 : Int32)) else (if nI (d % 2) = 1 then (some (1 : Int32)) else (some (0 : Int32)))).bind (fun y1 => if y1 = (0 : Int32) then (some (nI s)) else (some (-1 : Int32)))) = _
    simp only [wd]
    by_cases q : d % (x % 5 + 2) = 0
    · rw [if_pos (by rw [q]; rfl)]; simp [q]
    · rw [if_neg (nI_ne0 (by omega) hm1)]
      rcases (show d % 2 = 0 ∨ d % 2 = 1 by omega) with r | r
      · simp [r, q, show ¬ nI 0 = (1 : Int32) from by decide]
      · simp [r, q, show nI 1 = (1 : Int32) from rfl]
  · rfl
