/-! the numbers of a launch: classes, slots, array classes, the table of inverses, the texts -/
abbrev GG : Type := va_G × ClassId × ClassId × ClassId × Nat × (Nat → Nat) × (Nat → Nat)
abbrev gI (g : GG) : ClassId := g.2.1
abbrev gB (g : GG) : ClassId := g.2.2.1
abbrev gZ (g : GG) : ClassId := g.2.2.2.1
abbrev gT (g : GG) : Nat := g.2.2.2.2.1
abbrev gK (g : GG) : Nat → Nat := g.2.2.2.2.2.1
abbrev gV (g : GG) : Nat → Nat := g.2.2.2.2.2.2
abbrev K3 (g : GG) : List (ClassId × FieldType) := [(gI g, .int), (gB g, .byte), (gZ g, .boolean)]
def nestF : List (String × Nat × String × String × String) := [(RX3, 109, "SafeShares$Text", "tokenStart", "I"), (RX3, 140, "SafeShares$Safe", "day", "I"), (RX3, 169, "SafeShares$Safe", "enough", "I"), (RX3, 184, "SafeShares$Safe", "told", "LSafeShares$Told;"), (RX3, 256, "SafeShares$Safe", "tries", "I"), (RX3, 259, "SafeShares$Safe", "shut", "Z"), (RX3, 266, "SafeShares$Safe", "number", "I"), (RX3, 71, "SafeShares$Safe", "holders", "I"), (RX3, 88, "SafeShares$Safe", "pastCount", "I"), (RX3, 98, "SafeShares$Text", "length", "I")]
def nestM : List (String × Nat × MethodName) := [(RX3, 9, yX0_init), (RX3, 34, yX1_init), (RX1, 81, yX3_isWithin), (RX2, 31, yX3_isIn), (RX0, 97, yX3_isIn), (RX0, 81, yX3_leftOver), (RX2, 57, yX3_leftOver), (RX0, 127, yX3_nextX), (RX0, 131, yX3_drawn)]
def invF (j : Nat) : Int32 := [0, 1, 49, 65, 73, 39].getD j 0
def strL : List Nat := [4, 3, 6]
def strB : List (List Int32) := [[115, 97, 102, 101], [119, 97, 121], [104, 111, 108, 100, 101, 114]]
/-- what stays true in every state of the run -/
def EV (g : GG) (A : Nat → Prop) (U : State) : Prop :=
  va_K g.1 vwCl (K3 g) U ∧ ((∀ q ∈ nestF, va_Nw (.fieldLinkNest q.1 q.2.1 q.2.2.1 q.2.2.2.1 q.2.2.2.2 "SafeShares") U) ∧ ∀ q ∈ nestM, va_Nw (.methodLinkNest q.1 q.2.1 q.2.2 "SafeShares") U) ∧ va_Z "SafeShares$Told" "INVERSES" "[I" (.ref (gT g)) A U U.heap ∧ va_T .int (gT g) 6 (fun j => .int (invF j)) A U U.heap ∧ va_Z "java/lang/String" "COMPACT_STRINGS" "Z" (.int 1) A U U.heap ∧ va_Zq "jdk/internal/util/Preconditions" "SIOOBE_FORMATTER" "Ljava/util/function/BiFunction;" A U U.heap ∧ vk_S 3 strL strB (gK g) (gV g) A U U.heap ∧ (vk_R "SafeShares$Text" 38 "safe" (gK g 0) U ∧ vk_R "SafeShares$Text" 58 "way" (gK g 1) U ∧ vk_R "SafeShares$Text" 63 "holder" (gK g 2) U)
theorem EV.next {g : GG} {A A' : Nat → Prop} {s U : State} {H : Heap} {locs : List Loc} (h : EV g A s) (hS : va_S A s.heap H locs) (hU : U.heap = H) (hW : s.WarmedH U.vm) (hA : ∀ q, A' q → A q) : EV g A' U := by
  subst hU
  obtain ⟨h1, ⟨h2, h3⟩, h4, h5, h6, h7, h8, h9, h10, h11⟩ := h
  exact ⟨va_K.moved hW.alike h1, ⟨fun q hq => va_Nw.warmF hW (h2 q hq), fun q hq => va_Nw.warmM hW (h3 q hq)⟩, (va_Z.moved hW.alike (h4.kept hS.2.1)).narrow hA, (va_T.moved hW.alike (h5.kept hS.2.1)).narrow hA, (va_Z.moved hW.alike (h6.kept hS.2.1)).narrow hA, (va_Zq.moved hW.alike (h7.kept hS.2.1)).narrow hA, (vk_S.moved hW.alike (h8.kept hS.2.1)).narrow hA, vk_R.warm hW h9, vk_R.warm hW h10, vk_R.warm hW h11⟩
theorem EV.call {g : GG} {A : Nat → Prop} {U : State} (h : EV g A U) (f : JFrame) (mk : MethodId) (a : Array Value) : EV g A (U.calling f mk a) := by
  obtain ⟨h1, ⟨h2, h3⟩, h4, h5, h6, h7, h8, h9, h10, h11⟩ := h
  exact ⟨va_K.moved (u := U) (U := U.calling f mk a) (Vm.Alike.refl U.vm) h1, ⟨fun q hq => va_Nw.same rfl (u := U) rfl (h2 q hq), fun q hq => va_Nw.same rfl (u := U) rfl (h3 q hq)⟩, va_Z.moved (u := U) (U := U.calling f mk a) (Vm.Alike.refl U.vm) h4, va_T.moved (u := U) (U := U.calling f mk a) (Vm.Alike.refl U.vm) h5, va_Z.moved (u := U) (U := U.calling f mk a) (Vm.Alike.refl U.vm) h6, va_Zq.moved (u := U) (U := U.calling f mk a) (Vm.Alike.refl U.vm) h7, vk_S.moved (u := U) (U := U.calling f mk a) (Vm.Alike.refl U.vm) h8, vk_R.same (u := U) rfl h9, vk_R.same (u := U) rfl h10, vk_R.same (u := U) rfl h11⟩
/-! a contract's start and end -/
def Pst (g : GG) (ws : va_W) (av : List Value) (sz : Nat) : Array Value → State → Prop := va_Pc av (fun U => U.heap.size = sz ∧ va_P g.1 vwCl ws U.heap ∧ va_D (fun _ => True) ws ∧ EV g (va_A ws sz) U)
def Qst (g : GG) (w1 : va_W) (ov : Option Value) (A : Nat → Prop) : Array Value → State → Outcome → State → Prop := fun _ st oc t => (oc = .returned ov ∧ va_P g.1 vwCl w1 t.heap ∧ va_D A w1) ∧ va_F A st t
theorem zs_blind (g : GG) (ws : va_W) (av : List Value) (sz : Nat) : FrameBlind (Pst g ws av sz) := by
  intro a U f mk h
  obtain ⟨h1, h2, h3, h4, h5⟩ := h
  exact ⟨h1, h2, h3, h4, h5.call f mk a⟩
theorem zs_ofW {l : Launch} {y : MethodName} {ws ws' : List Cond} {rm : Room} {Pc : Array Value → State → Prop} {Qc : Array Value → State → Outcome → State → Prop} {mc ms : Nat} {free : Addr → Prop} {cc : ByteArray} {maxL : Nat} {ret : Option FieldType}
    (hy : plainFor y = true) (hw : ws = Cond.code y cc maxL ret :: ws')
    (body : ∀ p e s m args below meth c s₁, BodyLoose p l y (headSpec ws rm) cc maxL ret e s m args below meth c s₁ → c.maxLocals = maxL → Pc args s →
      W p l e (headSpec ws rm).room s m args below meth c s.heap [] 0 0 (MQ below Qc args s mc ms free) (entryFrame m args maxL)) : Met l y ws rm Pc Qc mc ms free := by
  refine MetFree.of_bodySF (code := cc) (maxLocals := maxL) (ret := ret) hy ?_ ?_
  · intro args s m h hn
    obtain ⟨meth, c, h1, h2, h3, h4, h5, h6, -, -⟩ := Cond.code_spec hn (atoms_spec (ws := ws) h _ (by rw [hw]; exact List.mem_cons_self))
    exact ⟨meth, c, h1, h2, h3, h4, h5, h6⟩
  · intro p e s m args below meth c s₁ B hml hP _
    have hh0 : s₁.heap = s.heap := by rw [B.state]; rfl
    obtain ⟨t, a1, o, b1, b2, b3⟩ := body p e s m args below meth c s₁ B hml hP s₁ hh0 (Stand.of_body B)
    exact ⟨t, o, a1, b1, b2, ⟨b3.1, b3.2⟩⟩
/-- a method's contract out of a walk of its body -/
theorem zs_met {l : Launch} {g : GG} {y : MethodName} {cc : ByteArray} {maxL : Nat} {ret : Option FieldType} {rm : Room} {ws w1 : va_W} {av : List Value} {ov : Option Value} {sz : Nat} {own : String} (hy : plainFor y = true) (hown : y.cls = own) (hlen : (lg_sl av).length ≤ maxL)
    (body : ∀ (p : Program) (e : Env) (s : State) (m : MethodId) (below : List Frame) (meth : Method) (c : Code) (A : Nat → Prop) (ls : Array Slot), p.tables.exec = Jvm.exec → c.code = cc → meth.sig.returnType = ret → c.maxLocals = maxL → (∀ w ∈ TB, w.before av.toArray s = true) → s.vm.findClass own = some m.cls → meth.locks = false → meth.name = y.name → (∀ q : Nat, s.heap.size ≤ q → A q) → EV g A s → va_P g.1 vwCl ws s.heap → va_D A ws → va_S A s.heap s.heap [] → lv_has ls maxL (lv_args 0 av) → W p l e rm s m av.toArray below meth c s.heap [] 0 0 (MQ below (Qst g w1 ov A) av.toArray s 0 0 A) (F0 m 0 ls [])) :
    Met l y (Cond.code y cc maxL ret :: TB) rm (Pst g ws av sz) (Qst g w1 ov (va_A ws sz)) 0 0 (va_A ws sz) := by
  refine zs_ofW (cc := cc) (maxL := maxL) (ret := ret) hy rfl ?_
  intro p e s m args below meth c s₁ B hml hv
  obtain ⟨rfl, hsz, hP, hD0, hE⟩ := hv
  have hts := atoms_spec (ws := Cond.code y cc maxL ret :: TB) B.pre
  subst hsz
  subst hown
  rw [lg_entry_eq]
  exact body p e s m below meth c _ _ B.exec B.bytes B.returns hml (fun w h => hts w (List.mem_cons_of_mem _ h)) (findClass_of_methodNamed B.named) B.notSynchronized (name_of_methodNamed B.named B.method).1 (fun q h => Or.inr h) hE hP hD0.self va_S.rf (lv_entry av hlen)
theorem zs_fm {is : List Nat} {ws ws' : va_W} (h : is.map (fun i => ws[i]?) = ws'.map some) : is.filterMap (fun i => ws[i]?) = ws' := by
  have e : is.filterMap (fun i => ws[i]?) = (is.map (fun i => ws[i]?)).filterMap id := by rw [List.filterMap_map]; rfl
  rw [e, h, List.filterMap_map]
  simp
/-! pure pieces of the pictures -/
def gd {α : Type} (b : Bool) (k : Option α) : Option α := match b with
  | true => k
  | false => none
def inb (i : Int32) (n : Nat) : Bool := decide (¬ i < 0) && decide (i.toNatClampNeg < n)
def bz (v : Int32) : Bool := decide (v = 0) || decide (v = 1)
def jrem (x y : Int32) : Int32 := x - x / y * y
def jlrem (x y : Int64) : Int64 := x - x / y * y
def jshl (x y : Int32) : Int32 := x <<< (y &&& 31)
def jshr (x y : Int32) : Int32 := x >>> (y &&& 31)
def jushr (x y : Int32) : Int32 := (x.toUInt32 >>> (y.toUInt32 &&& Int32.toUInt32 31)).toInt32
def lp {σ ρ : Type} (body : σ → Option (σ ⊕ ρ)) : Nat → σ → Option ρ
  | 0, _ => none
  | n + 1, s => (body s).bind (fun q => Sum.elim (fun s' => lp body n s') (fun r => some r) q)
theorem zs_gd {α : Type} {b : Bool} {k : Option α} {o : α} (h : gd b k = some o) : b = true ∧ k = some o := by
  cases b with
  | true => exact ⟨rfl, h⟩
  | false => cases h
theorem zs_inb {i : Int32} {n : Nat} (h : inb i n = true) : vp_in i n := by
  simp only [inb, Bool.and_eq_true, decide_eq_true_eq] at h
  exact fun q => q.elim h.1 (fun q => Nat.not_le.mpr h.2 q)
theorem zs_bz {v : Int32} (h : bz v = true) : narrow .boolean (.int v) = .int v ∧ fits .boolean (.int v) = true := by
  simp only [bz, Bool.or_eq_true, decide_eq_true_eq] at h
  rcases h with rfl | rfl <;> exact ⟨rfl, rfl⟩
theorem zs_bind {α β : Type} {t : Option α} {k : α → Option β} {o : β} (h : t.bind k = some o) : ∃ x, t = some x ∧ k x = some o := by
  cases t with
  | none => cases h
  | some x => exact ⟨x, rfl, h⟩
theorem zs_ip {α : Type} {c : Prop} [Decidable c] {a b : Option α} {o : α} (h : (if c then a else b) = some o) (hc : c) : a = some o := by rw [if_pos hc] at h; exact h
theorem zs_in {α : Type} {c : Prop} [Decidable c] {a b : Option α} {o : α} (h : (if c then a else b) = some o) (hc : ¬ c) : b = some o := by rw [if_neg hc] at h; exact h
theorem zs_lp {σ ρ : Type} {body : σ → Option (σ ⊕ ρ)} {n : Nat} {x : σ} {out : ρ} (h : lp body (n + 1) x = some out) : ∃ q, body x = some q ∧ Sum.elim (fun x' => lp body n x' = some out) (fun r => r = out) q := by
  obtain ⟨q, h1, h2⟩ := zs_bind (t := body x) h
  refine ⟨q, h1, ?_⟩
  cases q with
  | inl x' => exact h2
  | inr r => exact Option.some.inj h2
theorem zs_el {α β γ : Type} {f : α → Option γ} {k : β → Option γ} {e : α} {o : γ} (h : Sum.elim f k (.inl e) = some o) : f e = some o := h
theorem zs_er {α β γ : Type} {f : α → Option γ} {k : β → Option γ} {e : β} {o : γ} (h : Sum.elim f k (.inr e) = some o) : k e = some o := h
def nm {α β : Type} (x : α) (k : α → β) : β := k x
theorem zs_nm {α β : Type} {x : α} {k : α → Option β} {o : β} (h : nm x k = some o) : ∃ y, y = x ∧ k y = some o := ⟨x, rfl, h⟩
/-- a place in a method: the cells and the locals there -/
def CC (g : GG) (A : Nat → Prop) (H0 : Heap) (nL : Nat) (ws : va_W) (lv : List (Nat × Value)) (H : Heap) (locs : List Loc) (ls : Array Slot) : Prop := va_P g.1 vwCl ws H ∧ va_D A ws ∧ va_S A H0 H locs ∧ lv_has ls nL lv
section ZS
variable {p : Program} {l : Launch} {e : Env} {R : Room} {s : State} {m : MethodId} {args : Array Value} {below : List Frame} {meth : Method} {c : Code} {H : Heap} {locs : List Loc} {cells slots : Nat} {Q : State → Prop} {cc : ByteArray} {pc : Nat} {ls : Array Slot} {rest : List Value} {A : Nat → Prop} {g : GG} {ws : va_W}
theorem zs_then {f : JFrame} {α : Type} (C2 : α → Heap → List Loc → Array Slot → Prop) (f2 : α → Array Slot → JFrame) (h1 : ∀ x H locs ls, C2 x H locs ls → W p l e R s m args below meth c H locs cells slots Q (f2 x ls)) (h2 : (∀ x H locs ls, C2 x H locs ls → W p l e R s m args below meth c H locs cells slots Q (f2 x ls)) → W p l e R s m args below meth c H locs cells slots Q f) : W p l e R s m args below meth c H locs cells slots Q f := h2 h1
theorem zs_loop {σ ρ : Type} {body : σ → Option (σ ⊕ ρ)} {out : ρ} {n0 : Nat} {x0 : σ} (C : σ → Heap → List Loc → Array Slot → Prop) (hl : lp body n0 x0 = some out)
    (step : ∀ (n : Nat) (x : σ) (q : σ ⊕ ρ), body x = some q → Sum.elim (fun x' => lp body n x' = some out) (fun r => r = out) q → (∀ x', lp body n x' = some out → ∀ H locs ls, C x' H locs ls → W p l e R s m args below meth c H locs cells slots Q (F0 m pc ls [])) → ∀ H locs ls, C x H locs ls → W p l e R s m args below meth c H locs cells slots Q (F0 m pc ls []))
    (h0 : C x0 H locs ls) : W p l e R s m args below meth c H locs cells slots Q (F0 m pc ls []) := by
  have key : ∀ (n : Nat) (x : σ), lp body n x = some out → ∀ H locs ls, C x H locs ls → W p l e R s m args below meth c H locs cells slots Q (F0 m pc ls []) := by
    intro n
    induction n with
    | zero => intro x h; cases h
    | succ n ih =>
      intro x h
      obtain ⟨q, h1, h2⟩ := zs_lp h
      exact step n x q h1 h2 ih
  exact key n0 x0 hl H locs ls h0
theorem zs_iret {w1 : va_W} {v : Int32} (hx : p.tables.exec = Jvm.exec) (hb : c.code = cc) (hr : meth.sig.returnType = some .int) (hk : meth.locks = false) (hP : va_P g.1 vwCl w1 H) (hD : va_D A w1) (hS : va_S A s.heap H locs) (hdg : decode cc pc = .ok (.ireturn, 1)) : W p l e R s m args below meth c H locs 0 0 (MQ below (Qst g w1 (some (.int v)) A) args s 0 0 A) (F0 m pc ls [.int v]) :=
  W.iret hx hb hr (fun t ht _ => ⟨⟨rfl, by rw [ht]; exact hP, hD⟩, hS.F ht⟩) hS.2.2 hdg hk
theorem zs_zret {w1 : va_W} {v : Int32} {ty : FieldType} (hx : p.tables.exec = Jvm.exec) (hb : c.code = cc) (hr : meth.sig.returnType = some ty) (hk : meth.locks = false) (hn : narrow ty (.int v) = .int v) (hP : va_P g.1 vwCl w1 H) (hD : va_D A w1) (hS : va_S A s.heap H locs) (hdg : decode cc pc = .ok (.ireturn, 1)) : W p l e R s m args below meth c H locs 0 0 (MQ below (Qst g w1 (some (.int v)) A) args s 0 0 A) (F0 m pc ls [.int v]) :=
  W.zret hx hb hr hn (fun t ht _ => ⟨⟨rfl, by rw [ht]; exact hP, hD⟩, hS.F ht⟩) hS.2.2 hdg hk
theorem zs_lret {w1 : va_W} {v : Int64} (hx : p.tables.exec = Jvm.exec) (hb : c.code = cc) (hr : meth.sig.returnType = some .long) (hk : meth.locks = false) (hP : va_P g.1 vwCl w1 H) (hD : va_D A w1) (hS : va_S A s.heap H locs) (hdg : decode cc pc = .ok (.lreturn, 1)) : W p l e R s m args below meth c H locs 0 0 (MQ below (Qst g w1 (some (.long v)) A) args s 0 0 A) (F0 m pc ls [.long v]) :=
  W.lret hx hb hr (fun t ht _ => ⟨⟨rfl, by rw [ht]; exact hP, hD⟩, hS.F ht⟩) hS.2.2 hdg hk
theorem zs_vret {w1 : va_W} (hx : p.tables.exec = Jvm.exec) (hb : c.code = cc) (hr : meth.sig.returnType = none) (hk : meth.locks = false) (hP : va_P g.1 vwCl w1 H) (hD : va_D A w1) (hS : va_S A s.heap H locs) (hdg : decode cc pc = .ok (.return_, 1)) : W p l e R s m args below meth c H locs 0 0 (MQ below (Qst g w1 none A) args s 0 0 A) (F0 m pc ls []) :=
  W.vret hx hb hr (fun t ht _ => ⟨⟨rfl, by rw [ht]; exact hP, hD⟩, hS.F ht⟩) hS.2.2 hdg hk
theorem zs_aret {w1 : va_W} {a : Nat} {rt : FieldType} (hx : p.tables.exec = Jvm.exec) (hb : c.code = cc) (hr : meth.sig.returnType = some rt) (hrt : (∃ n, rt = .object n) ∨ ∃ t, rt = .array t) (hk : meth.locks = false) (hP : va_P g.1 vwCl w1 H) (hD : va_D A w1) (hS : va_S A s.heap H locs) (hdg : decode cc pc = .ok (.areturn, 1)) : W p l e R s m args below meth c H locs 0 0 (MQ below (Qst g w1 (some (.ref a)) A) args s 0 0 A) (F0 m pc ls [.ref a]) :=
  W.aret hx hb hr hrt (Or.inr ⟨a, rfl⟩) (fun t ht _ => ⟨⟨rfl, by rw [ht]; exact hP, hD⟩, hS.F ht⟩) hS.2.2 hdg hk
theorem zs_irem (hx : p.tables.exec = Jvm.exec) (hb : c.code = cc) {x y : Int32} (hdg : decode cc pc = .ok (.irem, 1)) (hne : ¬ y = 0) (k : W p l e R s m args below meth c H locs cells slots Q (F0 m (pc + 1) ls (.int (jrem x y) :: rest))) : W p l e R s m args below meth c H locs cells slots Q (F0 m pc ls (.int y :: .int x :: rest)) := lv_irem hx hb hdg hne k
theorem zs_lrem (hx : p.tables.exec = Jvm.exec) (hb : c.code = cc) {x y : Int64} (hdg : decode cc pc = .ok (.lrem, 1)) (hne : ¬ y = 0) (k : W p l e R s m args below meth c H locs cells slots Q (F0 m (pc + 1) ls (.long (jlrem x y) :: rest))) : W p l e R s m args below meth c H locs cells slots Q (F0 m pc ls (.long y :: .long x :: rest)) := lv_lrem hx hb hdg hne k
theorem zs_ishl (hx : p.tables.exec = Jvm.exec) (hb : c.code = cc) {x y : Int32} (hdg : decode cc pc = .ok (.ishl, 1)) (k : W p l e R s m args below meth c H locs cells slots Q (F0 m (pc + 1) ls (.int (jshl x y) :: rest))) : W p l e R s m args below meth c H locs cells slots Q (F0 m pc ls (.int y :: .int x :: rest)) := lv_ishl hx hb hdg k
theorem zs_ishr (hx : p.tables.exec = Jvm.exec) (hb : c.code = cc) {x y : Int32} (hdg : decode cc pc = .ok (.ishr, 1)) (k : W p l e R s m args below meth c H locs cells slots Q (F0 m (pc + 1) ls (.int (jshr x y) :: rest))) : W p l e R s m args below meth c H locs cells slots Q (F0 m pc ls (.int y :: .int x :: rest)) := lv_ishr hx hb hdg k
theorem zs_iushr (hx : p.tables.exec = Jvm.exec) (hb : c.code = cc) {x y : Int32} (hdg : decode cc pc = .ok (.iushr, 1)) (k : W p l e R s m args below meth c H locs cells slots Q (F0 m (pc + 1) ls (.int (jushr x y) :: rest))) : W p l e R s m args below meth c H locs cells slots Q (F0 m pc ls (.int y :: .int x :: rest)) := lv_iushr hx hb hdg rfl k
/-! calls -/
theorem zs_pre {wc : va_W} {av : List Value} (hE : EV g A s) (hP : va_P g.1 vwCl ws H) (hD : va_D A ws) (hS : va_S A s.heap H locs) (hA : ∀ q : Nat, s.heap.size ≤ q → A q) (iC : List Nat) (hC : iC.map (fun i => ws[i]?) = wc.map some) (hn : va_nd iC = true) : ∀ U : State, U.heap = H → s.WarmedH U.vm → Pst g wc av H.size av.toArray U := by
  intro U hU hW
  refine ⟨rfl, by rw [hU], ?_, ?_, ?_⟩
  · rw [hU]; exact hP.sub iC (zs_fm hC)
  · exact (hD.sub iC hn hC).weaken (fun _ _ _ _ => trivial)
  · exact hE.next hS hU hW (va_free hD hS hA iC hC)
theorem zs_call {wc wr w1 w2 : va_W} {ov : Option Value} {st0 st1 : List Value} {a : Array Value} (hr : va_Run p l e R s m args below meth c H locs cells slots 0 0 (F0 m pc ls st0) rest (Qst g w1 ov (va_A wc H.size) a) (va_A wc H.size)) (hP : va_P g.1 vwCl ws H) (hD : va_D A ws) (hS : va_S A s.heap H locs) (hA : ∀ q : Nat, s.heap.size ≤ q → A q) (iC iR iP : List Nat) (hC : iC.map (fun i => ws[i]?) = wc.map some) (hR : iR.map (fun i => ws[i]?) = wr.map some) (hn : va_nd iR = true) (hd : ∀ i ∈ iR, i ∉ iC) (hp : iP.map (fun i => (wr ++ w1)[i]?) = w2.map some) (hpn : va_nd iP = true) (hs1 : ov.toList ++ rest = st1)
    (kk : ∀ (H1 : Heap) (locs1 : List Loc), va_P g.1 vwCl w2 H1 → va_D A w2 → va_S A s.heap H1 locs1 → W p l e R s m args below meth c H1 locs1 cells slots Q (F0 m (pc + 3) ls st1)) : W p l e R s m args below meth c H locs cells slots Q (F0 m pc ls st0) := by
  subst hs1
  intro T hT X
  obtain ⟨v, st₀, t, T', L, h0, X', hL, e1, e2, ⟨⟨hv, hp1, hd1⟩, hz, hk⟩, st⟩ := hr T hT X
  cases hv
  have hF := va_free (wc := wc) hD hS hA iC hC
  rw [h0] at hz hk
  obtain ⟨q1, q2⟩ := va_join (H1 := T'.heap) hP hD iC iR hC hR hn hd (fun q a b => by rw [e1]; exact hk q a b) hF (by rw [e1]; exact hp1) hd1
  obtain ⟨t2, a1, b1⟩ := kk T'.heap (locs ++ L) (q1.sub iP (zs_fm hp)) (q2.sub iP hpn hp)
    ⟨Nat.le_trans hS.1 (by rw [e1]; exact hz), fun q h1 h2 => by rw [e1, hk q (Nat.lt_of_lt_of_le h1 hS.1) (fun z => h2 (hF q z))]; exact hS.2.1 q h1 h2, fun q hq => by
      rcases List.mem_append.mp hq with h | h
      · exact hS.2.2 q h
      · exact hF _ (hL q h)⟩ T' rfl X'
  exact ⟨t2, st t2 a1, b1⟩
theorem zs_cb {own : String} {index : Nat} {y : MethodName} {bytes : ByteArray} {maxL n : Nat} {ret : Option FieldType} {rm : Room} (lk : LkB y bytes maxL ret n) (hts : ∀ w ∈ TB, w.before args s = true) (hl : Cond.methodLink own index y ∈ TB) (hrm : rm.cells = 0 ∧ rm.slots = 0) (hR : rm.frames + 1 ≤ R.frames ∧ 8 + (maxL + 11) + rm.locals ≤ R.locals) : CallB R s args own index y bytes maxL ret (Cond.code y bytes maxL ret :: TB) rm 0 0 n :=
  callB_of n hts (tb_in lk.1) rfl hrm.1 hrm.2 (hts _ lk.2.1) (hts _ hl) lk.2.2 hR
theorem zs_cn {own : String} {index : Nat} {y : MethodName} {bytes : ByteArray} {maxL n : Nat} {ret : Option FieldType} {rm : Room} (lk : LkB y bytes maxL ret n) (hts : ∀ w ∈ TB, w.before args s = true) (hE : EV g A s) (hl : (own, index, y) ∈ nestM) (hrm : rm.cells = 0 ∧ rm.slots = 0) (hR : rm.frames + 1 ≤ R.frames ∧ 8 + (maxL + 11) + rm.locals ≤ R.locals) : va_CN R s args own index y "SafeShares" bytes maxL ret (Cond.code y bytes maxL ret :: TB) rm 0 0 n :=
  va_cnB n hts (tb_in lk.1) rfl hrm.1 hrm.2 (hE.2.1.2 (own, index, y) hl) (hts _ lk.2.1) lk.2.2 hR
/-- a call of a method of an object that lies in the world -/
theorem zs_V {own : String} {index ci q0 : Nat} {y : MethodName} {bytes : ByteArray} {maxL nL n : Nat} {ret : Option FieldType} {rm : Room} {wc wr w1 w2 : va_W} {ov : Option Value} {As st0 st1 : List Value} {b : Nat} {fs : List Value} {q : vw_C} (lk : LkB y bytes maxL ret n) (hl : Cond.methodLink own index y ∈ TB ∧ Cond.instanceMethod y ∈ TB ∧ Cond.selects q.1 y y ∈ TB)
    (hx : p.tables.exec = Jvm.exec) (hb : c.code = cc) (hml : c.maxLocals = nL) (hown : s.vm.findClass own = some m.cls) (hts : ∀ w ∈ TB, w.before args s = true) (hE : EV g A s) (hP : va_P g.1 vwCl ws H) (hD : va_D A ws) (hS : va_S A s.heap H locs) (hA : ∀ q : Nat, s.heap.size ≤ q → A q)
    (hM : Met l y (Cond.code y bytes maxL ret :: TB) rm (Pst g wc (.ref b :: As) H.size) (Qst g w1 ov (va_A wc H.size)) 0 0 (va_A wc H.size)) (hrm : rm.cells = 0 ∧ rm.slots = 0) (hR9 : rm.frames + 1 ≤ R.frames ∧ 8 + (maxL + 11) + rm.locals ≤ R.locals) (hci : vwCl[ci]? = some q) (he : ws[q0]? = some (b, .inr (ci, fs)))
    (iC iR iP : List Nat) (hC : iC.map (fun i => ws[i]?) = wc.map some) (hCn : va_nd iC = true) (hR : iR.map (fun i => ws[i]?) = wr.map some) (hn : va_nd iR = true) (hd : ∀ i ∈ iR, i ∉ iC) (hp : iP.map (fun i => (wr ++ w1)[i]?) = w2.map some) (hpn : va_nd iP = true) (hst : st0 = As.reverse ++ .ref b :: rest) (hAn : As.length = n) (hls : ls.size = nL) (hw : (rest.map fun v => v.category).sum ≤ 8) (hcs : cells ≤ R.cells ∧ slots ≤ R.slots) (hs1 : ov.toList ++ rest = st1) (hdg : decode cc pc = .ok (.invokevirtual index, 3))
    (kk : ∀ (H1 : Heap) (locs1 : List Loc), va_P g.1 vwCl w2 H1 → va_D A w2 → va_S A s.heap H1 locs1 → W p l e R s m args below meth c H1 locs1 cells slots Q (F0 m (pc + 3) ls st1)) : W p l e R s m args below meth c H locs cells slots Q (F0 m pc ls st0) := by
  subst hst
  refine zs_call (va_runV (As := As) (rest := rest) ⟨hx, hb, hml, hown, hts⟩ hM (n := n) (C := q.1) ⟨zs_cb lk hts hl.1 hrm hR9, hts _ hl.2.1, hts _ hl.2.2⟩ ⟨zs_blind _ _ _ _, va_recv hE.1 hP hci he, zs_pre hE hP hD hS hA iC hC hCn⟩ rfl hAn hls rfl (lv_room hw) hdg hcs) hP hD hS hA iC iR iP hC hR hn hd hp hpn hs1 kk
theorem zs_S {own : String} {index : Nat} {y : MethodName} {bytes : ByteArray} {maxL nL n : Nat} {ret : Option FieldType} {rm : Room} {wc wr w1 w2 : va_W} {ov : Option Value} {As st0 st1 : List Value} (lk : LkB y bytes maxL ret n) (hl : Cond.methodLink own index y ∈ TB ∧ Cond.static y ∈ TB)
    (hx : p.tables.exec = Jvm.exec) (hb : c.code = cc) (hml : c.maxLocals = nL) (hown : s.vm.findClass own = some m.cls) (hts : ∀ w ∈ TB, w.before args s = true) (hE : EV g A s) (hP : va_P g.1 vwCl ws H) (hD : va_D A ws) (hS : va_S A s.heap H locs) (hA : ∀ q : Nat, s.heap.size ≤ q → A q)
    (hM : Met l y (Cond.code y bytes maxL ret :: TB) rm (Pst g wc As H.size) (Qst g w1 ov (va_A wc H.size)) 0 0 (va_A wc H.size)) (hrm : rm.cells = 0 ∧ rm.slots = 0) (hR9 : rm.frames + 1 ≤ R.frames ∧ 8 + (maxL + 11) + rm.locals ≤ R.locals)
    (iC iR iP : List Nat) (hC : iC.map (fun i => ws[i]?) = wc.map some) (hCn : va_nd iC = true) (hR : iR.map (fun i => ws[i]?) = wr.map some) (hn : va_nd iR = true) (hd : ∀ i ∈ iR, i ∉ iC) (hp : iP.map (fun i => (wr ++ w1)[i]?) = w2.map some) (hpn : va_nd iP = true) (hst : st0 = As.reverse ++ rest) (hAn : As.length = n) (hls : ls.size = nL) (hw : (rest.map fun v => v.category).sum ≤ 8) (hcs : cells ≤ R.cells ∧ slots ≤ R.slots) (hs1 : ov.toList ++ rest = st1) (hdg : decode cc pc = .ok (.invokestatic index, 3))
    (kk : ∀ (H1 : Heap) (locs1 : List Loc), va_P g.1 vwCl w2 H1 → va_D A w2 → va_S A s.heap H1 locs1 → W p l e R s m args below meth c H1 locs1 cells slots Q (F0 m (pc + 3) ls st1)) : W p l e R s m args below meth c H locs cells slots Q (F0 m pc ls st0) := by
  subst hst
  refine zs_call (va_runS (As := As) (rest := rest) ⟨hx, hb, hml, hown, hts⟩ hM (n := n) ⟨zs_cb lk hts hl.1 hrm hR9, hts _ hl.2⟩ ⟨zs_blind _ _ _ _, zs_pre hE hP hD hS hA iC hC hCn⟩ rfl hAn hls rfl (lv_room hw) hdg hcs) hP hD hS hA iC iR iP hC hR hn hd hp hpn hs1 kk
/-- static, of a nest mate -/
theorem zs_SN {own : String} {index : Nat} {y : MethodName} {bytes : ByteArray} {maxL nL n : Nat} {ret : Option FieldType} {rm : Room} {wc wr w1 w2 : va_W} {ov : Option Value} {As st0 st1 : List Value} (lk : LkB y bytes maxL ret n) (hl : (own, index, y) ∈ nestM ∧ Cond.static y ∈ TB)
    (hx : p.tables.exec = Jvm.exec) (hb : c.code = cc) (hml : c.maxLocals = nL) (hown : s.vm.findClass own = some m.cls) (hts : ∀ w ∈ TB, w.before args s = true) (hE : EV g A s) (hP : va_P g.1 vwCl ws H) (hD : va_D A ws) (hS : va_S A s.heap H locs) (hA : ∀ q : Nat, s.heap.size ≤ q → A q)
    (hM : Met l y (Cond.code y bytes maxL ret :: TB) rm (Pst g wc As H.size) (Qst g w1 ov (va_A wc H.size)) 0 0 (va_A wc H.size)) (hrm : rm.cells = 0 ∧ rm.slots = 0) (hR9 : rm.frames + 1 ≤ R.frames ∧ 8 + (maxL + 11) + rm.locals ≤ R.locals)
    (iC iR iP : List Nat) (hC : iC.map (fun i => ws[i]?) = wc.map some) (hCn : va_nd iC = true) (hR : iR.map (fun i => ws[i]?) = wr.map some) (hn : va_nd iR = true) (hd : ∀ i ∈ iR, i ∉ iC) (hp : iP.map (fun i => (wr ++ w1)[i]?) = w2.map some) (hpn : va_nd iP = true) (hst : st0 = As.reverse ++ rest) (hAn : As.length = n) (hls : ls.size = nL) (hw : (rest.map fun v => v.category).sum ≤ 8) (hcs : cells ≤ R.cells ∧ slots ≤ R.slots) (hs1 : ov.toList ++ rest = st1) (hdg : decode cc pc = .ok (.invokestatic index, 3))
    (kk : ∀ (H1 : Heap) (locs1 : List Loc), va_P g.1 vwCl w2 H1 → va_D A w2 → va_S A s.heap H1 locs1 → W p l e R s m args below meth c H1 locs1 cells slots Q (F0 m (pc + 3) ls st1)) : W p l e R s m args below meth c H locs cells slots Q (F0 m pc ls st0) := by
  subst hst
  refine zs_call (va_runSN (As := As) (rest := rest) ⟨hx, hb, hml, hown, hts⟩ hM (n := n) ⟨zs_cn lk hts hE hl.1 hrm hR9, hts _ hl.2, trivial⟩ ⟨zs_blind _ _ _ _, zs_pre hE hP hD hS hA iC hC hCn⟩ rfl hAn hls rfl (lv_room hw) hdg hcs) hP hD hS hA iC iR iP hC hR hn hd hp hpn hs1 kk
theorem zs_iast {w2 : va_W} {a n : Nat} {f : Nat → Int32} {i x : Int32} (hx : p.tables.exec = Jvm.exec) (hb : c.code = cc) (hE : EV g A s) (hP : va_P g.1 vwCl ws H) (hD : va_D A ws) (hS : va_S A s.heap H locs) (q0 : Nat) (ha : ws[q0]? = some (a, .inl (gI g, n, .inl f))) (hin : vp_in i n) (hw : ws.set q0 (a, .inl (gI g, n, .inl (upd f i.toNatClampNeg x))) = w2) (hdg : decode cc pc = .ok (.iastore, 1)) (kk : ∀ (H1 : Heap) (locs1 : List Loc), va_P g.1 vwCl w2 H1 → va_D A w2 → va_S A s.heap H1 locs1 → W p l e R s m args below meth c H1 locs1 cells slots Q (F0 m (pc + 1) ls rest)) : W p l e R s m args below meth c H locs cells slots Q (F0 m pc ls (.int x :: .int i :: .ref a :: rest)) := by
  subst hw
  exact va_iast hx hb hE.1 hP hD hS q0 0 ha rfl hin hdg kk
theorem zs_bast {w2 : va_W} {a n : Nat} {f : Nat → Int32} {i x : Int32} (hx : p.tables.exec = Jvm.exec) (hb : c.code = cc) (hE : EV g A s) (hP : va_P g.1 vwCl ws H) (hD : va_D A ws) (hS : va_S A s.heap H locs) (q0 : Nat) (ha : ws[q0]? = some (a, .inl (gB g, n, .inl f))) (hin : vp_in i n) (hw : ws.set q0 (a, .inl (gB g, n, .inl (upd f i.toNatClampNeg (vp_nar .byte x)))) = w2) (hdg : decode cc pc = .ok (.bastore, 1)) (kk : ∀ (H1 : Heap) (locs1 : List Loc), va_P g.1 vwCl w2 H1 → va_D A w2 → va_S A s.heap H1 locs1 → W p l e R s m args below meth c H1 locs1 cells slots Q (F0 m (pc + 1) ls rest)) : W p l e R s m args below meth c H locs cells slots Q (F0 m pc ls (.int x :: .int i :: .ref a :: rest)) := by
  subst hw
  exact va_bast hx hb hE.1 hP hD hS q0 1 ha rfl hin hdg kk
theorem zs_zast {w2 : va_W} {a n : Nat} {f : Nat → Int32} {i x : Int32} (hx : p.tables.exec = Jvm.exec) (hb : c.code = cc) (hE : EV g A s) (hP : va_P g.1 vwCl ws H) (hD : va_D A ws) (hS : va_S A s.heap H locs) (q0 : Nat) (ha : ws[q0]? = some (a, .inl (gZ g, n, .inl f))) (hin : vp_in i n) (hw : ws.set q0 (a, .inl (gZ g, n, .inl (upd f i.toNatClampNeg (vp_nar .boolean x)))) = w2) (hdg : decode cc pc = .ok (.bastore, 1)) (kk : ∀ (H1 : Heap) (locs1 : List Loc), va_P g.1 vwCl w2 H1 → va_D A w2 → va_S A s.heap H1 locs1 → W p l e R s m args below meth c H1 locs1 cells slots Q (F0 m (pc + 1) ls rest)) : W p l e R s m args below meth c H locs cells slots Q (F0 m pc ls (.int x :: .int i :: .ref a :: rest)) := by
  subst hw
  exact va_zast hx hb hE.1 hP hD hS q0 2 ha rfl hin hdg kk
theorem zs_tab {dflt lo hi : Int} {offs : Array Int} {len : Nat} {x k : Int32} {off : Int} {tgt : Nat} (hx : p.tables.exec = Jvm.exec) (hb : c.code = cc) (hdg : decode cc pc = .ok (.tableswitch dflt lo hi offs, len)) (he : x = k) (h1 : ¬ k.toInt < lo) (h2 : ¬ hi < k.toInt) (ho : offs[(k.toInt - lo).toNat]? = some off) (ht : (pc : Int) + off = (tgt : Int)) (kk : W p l e R s m args below meth c H locs cells slots Q (F0 m tgt ls rest)) : W p l e R s m args below meth c H locs cells slots Q (F0 m pc ls (.int x :: rest)) := by
  subst he
  exact lv_tableIn hx hb hdg h1 h2 ho ht kk
theorem zs_copy {own : String} {index : Nat} {w2 : va_W} {a a0 n0 n1 : Nat} {f h : Nat → Int32} {sp dp n : Int32} (hx : p.tables.exec = Jvm.exec) (hb : c.code = cc) (hml : c.maxLocals = ls.size) (hown : s.vm.findClass own = some m.cls) (hts : ∀ w ∈ TB, w.before args s = true) (hl : Cond.methodLink own index arraycopyName ∈ TB) (hE : EV g A s) (hP : va_P g.1 vwCl ws H) (hD : va_D A ws) (hS : va_S A s.heap H locs) (q0 q1 : Nat) (ha0 : ws[q0]? = some (a0, .inl (gI g, n0, .inl f))) (ha1 : ws[q1]? = some (a, .inl (gI g, n1, .inl h))) (h1 : ¬ sp < 0) (h2 : ¬ dp < 0) (h3 : ¬ n < 0) (h4 : sp.toNatClampNeg + n.toNatClampNeg ≤ n0) (h5 : dp.toNatClampNeg + n.toNatClampNeg ≤ n1) (hfr : 1 ≤ R.frames) (hlo : (rest.map fun v => v.category).sum + (nativeFrameWords "java/lang/System" "arraycopy" 5 + 11) ≤ R.locals) (hw : ws.set q1 (a, .inl (gI g, n1, .inl (va_cpy f h sp.toNatClampNeg dp.toNatClampNeg n.toNatClampNeg))) = w2) (hdg : decode cc pc = .ok (.invokestatic index, 3)) (kk : ∀ (H1 : Heap) (locs1 : List Loc), va_P g.1 vwCl w2 H1 → va_D A w2 → va_S A s.heap H1 locs1 → W p l e R s m args below meth c H1 locs1 cells slots Q (F0 m (pc + 3) ls rest)) : W p l e R s m args below meth c H locs cells slots Q (F0 m pc ls (.int n :: .int dp :: .ref a :: .int sp :: .ref a0 :: rest)) := by
  subst hw
  exact va_copyi hx hb hml hown (hts _ hl) (hts _ tw_ac_n) (hts _ tw_ac_s) (hts _ tw_ac_i) hE.1 hP hD hS q0 q1 0 0 ha0 ha1 rfl rfl rfl h1 h2 h3 h4 h5 (fun _ _ => rfl) hfr hlo hdg kk
end ZS
