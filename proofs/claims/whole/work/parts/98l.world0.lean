/-! The law's entry: the classes -/
theorem vwCl_gw : ∀ q ∈ vwCl, (∀ w ∈ u_ws q.1 q.2.1 q.2.2, w ∈ xa_gw) ∧ Cond.instantiable q.1 q.2.2 ∈ xa_gw :=
  List.forall_mem_cons.mpr ⟨⟨wcX0, inRX0⟩, List.forall_mem_cons.mpr ⟨⟨wcX1, inRX1⟩, List.forall_mem_cons.mpr ⟨⟨wcX2, inRX2⟩, List.forall_mem_cons.mpr ⟨⟨wcX3, inRX3⟩, List.forall_mem_cons.mpr ⟨⟨wcX4, inRX4⟩, List.forall_mem_cons.mpr ⟨⟨wcX5, inRX5⟩, List.forall_mem_cons.mpr ⟨⟨wcX6, inRX6⟩, List.forall_mem_cons.mpr ⟨⟨wcX7, inRX7⟩, List.forall_mem_cons.mpr ⟨⟨wcX8, inRX8⟩, List.forall_mem_cons.mpr ⟨⟨wcX9, inRX9⟩, List.forall_mem_cons.mpr ⟨⟨wcX10, inRX10⟩, fun _ h => by cases h⟩⟩⟩⟩⟩⟩⟩⟩⟩⟩⟩
theorem va_cls {s : State} {args : Array Value} (hts : ∀ w ∈ xa_gw, w.before args s = true) : ∃ D : va_G, ∀ (c : Nat) (q : vw_C), vwCl[c]? = some q → u_Kn s q.1 q.2.1 q.2.2 (D.1 c) (D.2 c) := by
  have hall : ∀ c : Nat, ∃ (cC : ClassId) (iS : Nat → Nat), ∀ q : vw_C, vwCl[c]? = some q → u_Kn s q.1 q.2.1 q.2.2 cC iS := fun c => by
    cases hc : vwCl[c]? with
    | none => exact ⟨0, fun _ => 0, fun q hq => by cases hq⟩
    | some q0 =>
      obtain ⟨h1, h2⟩ := vwCl_gw q0 (List.mem_of_getElem? hc)
      obtain ⟨cC, iS, h3⟩ := u_known (C := q0.1) (T := q0.2.1) (N := q0.2.2) hts h1 (hts _ h2)
      exact ⟨cC, iS, fun q hq => by cases hq; exact h3⟩
  exact ⟨(fun c => (hall c).choose, fun c => (hall c).choose_spec.choose), fun c q hq => (hall c).choose_spec.choose_spec q hq⟩
/-- the kinds of rows -/
theorem rk_int {s : State} {args : Array Value} (h : (Cond.arrayClass .int).before args s = true) : ∃ cA : ClassId, ArrOfT s cA .int ∧ va_RA s cA .int := by
  obtain ⟨cA, kA, comp, h1, h2, h3⟩ := Cond.arrayClass_spec h
  exact ⟨cA, fun N z => ⟨(fun k h => by cases h), kA, h2, comp, h3⟩, h1⟩
theorem rk_obj {s : State} {args : Array Value} {C : String} (h : (Cond.arrayOver (.object C)).before args s = true) : ∃ cA : ClassId, ArrOfT s cA (.object C) ∧ va_RA s cA (.object C) := by
  obtain ⟨comp, cA, kA, h1, -, h2, h3, h4⟩ := Cond.arrayOver_spec h
  exact ⟨cA, fun N z => ⟨(fun k h => by cases h), kA, h2, comp, h3⟩, kA, comp, h2, h3, h1, h4⟩
