/-! shares and what a holder tells -/
theorem lp_i {σ ρ : Type} {body : σ → Option (σ ⊕ ρ)} {s s' : σ} (N : Nat) (h : body s = some (.inl s')) : lp body (N + 1) s = lp body N s' := by
  show (body s).bind _ = _
  rw [h]; rfl
theorem lp_o {σ ρ : Type} {body : σ → Option (σ ⊕ ρ)} {s : σ} {r : ρ} (N : Nat) (h : body s = some (.inr r)) : lp body (N + 1) s = some r := by
  show (body s).bind _ = _
  rw [h]; rfl
/-- two loops side by side -/
theorem lp_rel {σ τ ρ ρ' : Type} {b1 : σ → Option (σ ⊕ ρ)} {b2 : τ → Option (τ ⊕ ρ')} (R : σ → τ → Prop) (Q : ρ → ρ' → Prop) (μ : σ → Nat) (step : ∀ s t, R s t → (∃ s' t', b1 s = some (.inl s') ∧ b2 t = some (.inl t') ∧ R s' t' ∧ μ s' < μ s) ∨ ∃ r r', b1 s = some (.inr r) ∧ b2 t = some (.inr r') ∧ Q r r') : ∀ (N M : Nat) (s : σ) (t : τ), R s t → μ s < N → μ s < M → ∃ r r', lp b1 N s = some r ∧ lp b2 M t = some r' ∧ Q r r' := by
  intro N
  induction N with
  | zero => intro M s t _ h; omega
  | succ N ih =>
    intro M s t hR h1 h2
    obtain ⟨K, rfl⟩ : ∃ K, M = K + 1 := ⟨M - 1, by omega⟩
    rcases step s t hR with ⟨s', t', q1, q2, q3, q4⟩ | ⟨r, r', q1, q2, q3⟩
    · obtain ⟨r, r', p1, p2, p3⟩ := ih K s' t' q3 (by omega) (by omega)
      exact ⟨r, r', (lp_i N q1).trans p1, (lp_i K q2).trans p2, p3⟩
    · exact ⟨r, r', lp_o N q1, lp_o K q2, q3⟩
theorem jr97 {a : Nat} (h : a < 2 ^ 31) : jrem (nI a) 97 = nI (a % 97) := pk_rem h (by decide) (by decide)
theorem v_leftOver {a : Nat} (h : a < 2 ^ 31) : f_X3_leftOver (nI a) = some (nI (a % 97)) := by
  have h2 : a % 97 < 2 ^ 31 := by omega
  simp only [f_X3_leftOver, jr97 h]
  rw [if_pos (nI_pos' h2)]
theorem v_factor1 (f : Nat → Int32) : f_X0_factor f 1 = some (f 0) := rfl
theorem v_factor2 (f : Nat → Int32) : f_X0_factor f 2 = some (f 1) := rfl
theorem v_factor3 (f : Nat → Int32) : f_X0_factor f 3 = some (f 2) := rfl
/-- the share of holder h -/
def sh (n e c1 c2 c3 h : Nat) : Nat := (n + (if 2 ≤ e then c1 * (h + 1) else 0) + (if 3 ≤ e then c2 * ((h + 1) * (h + 1)) else 0) + (if 4 ≤ e then c3 * ((h + 1) * (h + 1) * (h + 1)) else 0)) % 97
theorem sh_lt (n e c1 c2 c3 h : Nat) : sh n e c1 c2 c3 h < 97 := Nat.mod_lt _ (by decide)
theorem v_hstep {f : Nat → Int32} {h v c : Nat} {p q : Int32} (hp : ¬ p < 1) (hf : f_X0_factor f p = some (nI c)) (hq : p + (-1) = q) (hv : v < 97) (hc : c < 97) (hh : h < 6) : b_X0_shareOf_9 f (nI h) (nI v, p) = some (.inl (nI ((v + c) * (h + 1) % 97), q)) := by
  have hb : (v + c) * (h + 1) < 2 ^ 31 := by
    have : (v + c) * (h + 1) ≤ 200 * 6 := Nat.mul_le_mul (by omega) (by omega)
    omega
  simp only [b_X0_shareOf_9, if_neg hp, hf, Option.bind_some, nI_add, nI_1, pk_mul, v_leftOver hb, hq]
theorem v_shareOf {f : Nat → Int32} {n e c1 c2 c3 h : Nat} (hn : n < 97) (he : 1 ≤ e) (he4 : e ≤ 4) (h1 : f 0 = nI c1) (h2 : f 1 = nI c2) (h3 : f 2 = nI c3) (hc1 : c1 < 97) (hc2 : c2 < 97) (hc3 : c3 < 97) (hh : h < 6) : f_X0_shareOf (nI n) (nI e) f (nI h) = some (nI (sh n e c1 c2 c3 h)) := by
  have f1 := v_factor1 f
  have f2 := v_factor2 f
  have f3 := v_factor3 f
  rw [h1] at f1; rw [h2] at f2; rw [h3] at f3
  have m97 : ∀ z : Nat, z % 97 < 97 := fun z => Nat.mod_lt z (by decide)
  have ex : ∀ v : Int32, b_X0_shareOf_9 f (nI h) (v, 0) = some (.inr v) := fun v => rfl
  have fin : ∀ v : Nat, v < 97 → f_X3_leftOver (nI v + nI n) = some (nI ((v + n) % 97)) := fun v hv => by rw [nI_add]; exact v_leftOver (by omega)
  unfold f_X0_shareOf
  rcases (show e = 1 ∨ e = 2 ∨ e = 3 ∨ e = 4 by omega) with rfl | rfl | rfl | rfl
  · have L : lp (b_X0_shareOf_9 f (nI h)) 200 (0, nI 1 - 1) = some (nI 0) := lp_o 199 (ex 0)
    rw [L]
    simp only [Option.bind_some, fin 0 (by decide)]
    simp [sh]
  · have s1 := v_hstep (f := f) (h := h) (v := 0) (p := 1) (q := 0) (by decide) f1 (by decide) (by decide) hc1 hh
    have L : lp (b_X0_shareOf_9 f (nI h)) 200 (0, nI 2 - 1) = some _ := (lp_i 199 s1).trans (lp_o 198 (ex _))
    rw [L]
    simp only [Option.bind_some, fin _ (m97 _)]
    congr 2
    simp only [sh]
    rcases (show h = 0 ∨ h = 1 ∨ h = 2 ∨ h = 3 ∨ h = 4 ∨ h = 5 by omega) with rfl | rfl | rfl | rfl | rfl | rfl <;> simp <;> omega
  · have s1 := v_hstep (f := f) (h := h) (v := 0) (p := 2) (q := 1) (by decide) f2 (by decide) (by decide) hc2 hh
    have s2 := v_hstep (f := f) (h := h) (p := 1) (q := 0) (by decide) f1 (by decide) (m97 ((0 + c2) * (h + 1))) hc1 hh
    have L : lp (b_X0_shareOf_9 f (nI h)) 200 (0, nI 3 - 1) = some _ := (lp_i 199 s1).trans ((lp_i 198 s2).trans (lp_o 197 (ex _)))
    rw [L]
    simp only [Option.bind_some, fin _ (m97 _)]
    congr 2
    simp only [sh]
    rcases (show h = 0 ∨ h = 1 ∨ h = 2 ∨ h = 3 ∨ h = 4 ∨ h = 5 by omega) with rfl | rfl | rfl | rfl | rfl | rfl <;> simp <;> omega
  · have s1 := v_hstep (f := f) (h := h) (v := 0) (p := 3) (q := 2) (by decide) f3 (by decide) (by decide) hc3 hh
    have s2 := v_hstep (f := f) (h := h) (p := 2) (q := 1) (by decide) f2 (by decide) (m97 ((0 + c3) * (h + 1))) hc2 hh
    have s3 := v_hstep (f := f) (h := h) (p := 1) (q := 0) (by decide) f1 (by decide) (m97 (((0 + c3) * (h + 1) % 97 + c2) * (h + 1))) hc1 hh
    have L : lp (b_X0_shareOf_9 f (nI h)) 200 (0, nI 4 - 1) = some _ := (lp_i 199 s1).trans ((lp_i 198 s2).trans ((lp_i 197 s3).trans (lp_o 196 (ex _))))
    rw [L]
    simp only [Option.bind_some, fin _ (m97 _)]
    congr 2
    simp only [sh]
    rcases (show h = 0 ∨ h = 1 ∨ h = 2 ∨ h = 3 ∨ h = 4 ∨ h = 5 by omega) with rfl | rfl | rfl | rfl | rfl | rfl <;> simp <;> omega
