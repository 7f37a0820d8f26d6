theorem L2_exist : (∃ o, f_J7_fill_53178 6 (fun _ => 0) (-1) = some o) ∧ ∃ o2, f_X4_anew 0 (fun _ => 0) 0 2 = some o2 :=
  ⟨⟨_, v_fill (show 6 ≤ 150 by decide) (fun _ => 0) (-1)⟩, ⟨_, w_anew 0 (fun _ => 0) 0 2⟩⟩
theorem L2_init (o : Nat → Int32) (o2 : Int32 × (Nat → Int32)) (ho : f_J7_fill_53178 6 (fun _ => 0) (-1) = some o) (ho2 : f_X4_anew 0 (fun _ => 0) 0 2 = some o2) : RR 0 ((0, 2, 0, 0, 0, 0, 0, (fun _ => 0), (fun _ => 0), (fun _ => 0), o, (fun _ => 0)), (0, 2, 0, 0, 0, 0, 0, (fun _ => 0), (fun _ => 0), (fun _ => 0), o, (fun _ => 0)), (0, 2, 0, 0, 0, 0, 0, (fun _ => 0), (fun _ => 0), (fun _ => 0), o, (fun _ => 0)), (0, 2, 0, 0, 0, 0, 0, (fun _ => 0), (fun _ => 0), (fun _ => 0), o, (fun _ => 0)), o, (0, 0, 0, 0, (fun _ => 0)), (0, 0, 0, 0, 0, 0, 1)) (o2.2, 0, 1, (fun _ => 0), (fun _ => 0), 0, 0, 0, 0, 0, (fun _ => 0), 0, (fun _ => 0), (fun _ => 0), (fun _ => 0), o2.1, 0, (fun _ => 0), (fun _ => 0), (fun _ => 0), (fun _ => 0)) := by
  rw [v_fill (show 6 ≤ 150 by decide)] at ho
  rw [w_anew] at ho2
  have ho := Option.some.inj ho
  have ho2 := Option.some.inj ho2
  subst ho ho2
  have e1 : fa_fill (fun _ => (0 : Int32)) (fun _ => 0) 3 = fun _ => 0 := funext fun j => by
    unfold fa_fill
    split <;> rfl
  have A := SR.new (k := 0) (n := 0) (e := 2) (by decide) (by decide) (by decide) (fun _ => 0) (fun _ => 0) (fun _ => 0) (fun _ => 0) (fun _ => 0) (fun _ => 0) (fun _ => 0)
  rw [e1] at A
  exact ⟨A, ⟨rfl, Or.inl rfl⟩, ⟨rfl, Or.inl rfl⟩, ⟨0, by omega, rfl, rfl, fun j hj => absurd hj (by omega)⟩, ⟨rfl, rfl, rfl⟩, rfl, rfl⟩
