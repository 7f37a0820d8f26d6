/-! how the class's state and the reference's go together, k: how many days there can have been -/
def tv (x : Int32) : Prop := x = -1 ∨ ∃ c : Nat, c < 97 ∧ x = nI c
def PR (k : Nat) (past ahead : Nat → Int32) (i : Nat) : Prop := ∃ d t s c1 c2 c3 : Nat, d ≤ k ∧ t ≤ 2 ∧ s ≤ 1 ∧ c1 < 97 ∧ c2 < 97 ∧ c3 < 97 ∧ past (6 * i) = nI d ∧ past (6 * i + 1) = nI t ∧ past (6 * i + 2) = nI s ∧ past (6 * i + 3) = nI c1 ∧ past (6 * i + 4) = nI c2 ∧ past (6 * i + 5) = nI c3 ∧ ahead (6 * i) = nI c1 ∧ ahead (6 * i + 1) = nI c2 ∧ ahead (6 * i + 2) = nI c3 ∧ ahead (6 * i + 3) = nI d ∧ ahead (6 * i + 4) = nI t ∧ ahead (6 * i + 5) = nI s
/-- a safe by its numbers: number, enough, holders, day, tries, shut, how many may be undone, c1 c2 c3 -/
def SN (k n e h d t s u c1 c2 c3 : Nat) : Prop := n < 97 ∧ 1 ≤ e ∧ e ≤ 4 ∧ h ≤ 6 ∧ d ≤ k ∧ t ≤ 2 ∧ s ≤ 1 ∧ u ≤ 8 ∧ c1 < 97 ∧ c2 < 97 ∧ c3 < 97
/-- the same safe on both sides -/
def SR (k : Nat) (v : SafeT) (st ahead : Nat → Int32) (um : Int32) : Prop :=
  ∃ n e h d t s u c1 c2 c3 : Nat, SN k n e h d t s u c1 c2 c3 ∧
    (v.1 = nI n ∧ v.2.1 = nI e ∧ v.2.2.1 = nI h ∧ v.2.2.2.1 = nI d ∧ v.2.2.2.2.1 = nI t ∧ v.2.2.2.2.2.1 = nI s ∧ v.2.2.2.2.2.2.1 = nI u) ∧
    (v.2.2.2.2.2.2.2.2.2.1 0 = nI c1 ∧ v.2.2.2.2.2.2.2.2.2.1 1 = nI c2 ∧ v.2.2.2.2.2.2.2.2.2.1 2 = nI c3) ∧
    (st 0 = nI n ∧ st 1 = nI e ∧ st 2 = nI c1 ∧ st 3 = nI c2 ∧ st 4 = nI c3 ∧ st 5 = nI d ∧ st 6 = nI t ∧ st 7 = nI s ∧ st 8 = nI h ∧ um = nI u) ∧
    (∀ j, j < h → ∃ c x : Nat, c < 6 ∧ x < 97 ∧ v.2.2.2.2.2.2.2.1 j = nI c ∧ st (9 + j) = nI c ∧ v.2.2.2.2.2.2.2.2.1 j = nI x ∧ st (15 + j) = nI x) ∧
    (∀ j, j < 6 → v.2.2.2.2.2.2.2.2.2.2.1 j = st (21 + j) ∧ tv (st (21 + j))) ∧
    (∀ i, i < u → PR k v.2.2.2.2.2.2.2.2.2.2.2 ahead i)
/-- an image on both sides -/
def IR (k : Nat) (kp : Int32) (v : SafeT) (f : Int32) (st ahead : Nat → Int32) (um : Int32) : Prop := f = kp ∧ (kp = 0 ∨ (kp = 1 ∧ SR k v st ahead um))
def TR (v : TextT) (text : Nat → Int32) (bytes : Int32) : Prop := ∃ n : Nat, n ≤ 150 ∧ v.1 = nI n ∧ bytes = nI n ∧ ∀ j, j < n → ∃ c : Nat, c < 128 ∧ v.2.2.2.2 j = nI c ∧ text j = nI c
/-- the class's object and the reference's -/
def RR (k : Nat) (x : CX) (y : MX) : Prop :=
  SR k x.1 y.1 y.2.2.2.2.2.2.2.2.2.2.2.2.2.2.1 y.2.2.2.2.2.2.2.2.2.2.2.2.2.2.2.1 ∧
  IR k x.2.2.2.2.2.2.1 x.2.1 (y.2.2.2.2.2.2.2.2.2.2.2.2.2.2.2.2.2.1 0) (fun j => y.2.2.2.2.2.2.2.2.2.2.2.2.2.2.2.2.2.2.1 j) (fun j => y.2.2.2.2.2.2.2.2.2.2.2.2.2.2.2.2.2.2.2.1 j) (y.2.2.2.2.2.2.2.2.2.2.2.2.2.2.2.2.2.2.2.2 0) ∧
  IR k x.2.2.2.2.2.2.2.1 x.2.2.1 (y.2.2.2.2.2.2.2.2.2.2.2.2.2.2.2.2.2.1 1) (fun j => y.2.2.2.2.2.2.2.2.2.2.2.2.2.2.2.2.2.2.1 (27 + j)) (fun j => y.2.2.2.2.2.2.2.2.2.2.2.2.2.2.2.2.2.2.2.1 (48 + j)) (y.2.2.2.2.2.2.2.2.2.2.2.2.2.2.2.2.2.2.2.2 1) ∧
  TR x.2.2.2.2.2.1 y.2.2.2.2.1 y.2.2.2.2.2.1 ∧
  (y.2.2.2.1 0 = x.2.2.2.2.2.2.2.2.1 ∧ y.2.2.2.1 1 = x.2.2.2.2.2.2.2.2.2.1 ∧ y.2.2.2.1 2 = x.2.2.2.2.2.2.2.2.2.2.1) ∧ y.2.1 = x.2.2.2.2.2.2.2.2.2.2.2.1 ∧ y.2.2.1 = x.2.2.2.2.2.2.2.2.2.2.2.2
theorem PR.mono {k k' : Nat} {past ahead : Nat → Int32} {i : Nat} (hk : k ≤ k') (h : PR k past ahead i) : PR k' past ahead i := by
  obtain ⟨d, t, s, c1, c2, c3, h1, h2⟩ := h
  exact ⟨d, t, s, c1, c2, c3, Nat.le_trans h1 hk, h2⟩
theorem SR.mono {k k' : Nat} {v : SafeT} {st ahead : Nat → Int32} {um : Int32} (hk : k ≤ k') (h : SR k v st ahead um) : SR k' v st ahead um := by
  obtain ⟨n, e, h, d, t, s, u, c1, c2, c3, ⟨a1, a2, a3, a4, a5, a6⟩, b, c, d9, e9, f, g⟩ := h
  exact ⟨n, e, h, d, t, s, u, c1, c2, c3, ⟨a1, a2, a3, a4, Nat.le_trans a5 hk, a6⟩, b, c, d9, e9, f, fun i hi => (g i hi).mono hk⟩
theorem IR.mono {k k' : Nat} {kp f : Int32} {v : SafeT} {st ahead : Nat → Int32} {um : Int32} (hk : k ≤ k') (h : IR k kp v f st ahead um) : IR k' kp v f st ahead um :=
  ⟨h.1, h.2.imp id (fun q => ⟨q.1, q.2.mono hk⟩)⟩
theorem RR.mono {k k' : Nat} {x : CX} {y : MX} (hk : k ≤ k') (h : RR k x y) : RR k' x y := ⟨h.1.mono hk, h.2.1.mono hk, h.2.2.1.mono hk, h.2.2.2⟩
