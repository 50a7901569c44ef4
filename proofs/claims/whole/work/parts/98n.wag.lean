/-! The law's entry: WAG_STEPS -/
theorem len_lt {args : Array Value} {s : State} {tm : Term} {v : Value} (hv : (Term.length tm).eval args s none [] s = some v) : ∃ (b : Addr) (cell : Cell), tm.eval args s none [] s = some (.ref b) ∧ s.heap[b]? = some cell ∧ cell.slots.size < 2 ^ 31 := by
  obtain ⟨b, cell, ht, harr, -⟩ := Term.length_spec hv
  have hsz : cell.slots.size < 2 ^ 31 := by
    simp only [Term.eval, ht, harr, Option.bind_eq_bind, Option.bind_some] at hv
    by_cases hlt : cell.slots.size < 2147483648
    · exact hlt
    · simp [hlt] at hv
  obtain ⟨hcell, -, -, -⟩ := State.arrayAt?_spec harr
  exact ⟨b, cell, ht, hcell, hsz⟩
theorem wag_at {args : Array Value} {s : State} (h : (Jvm.Cond.and given_1 narrow_1).before args s = true) : ∃ t : Nat, (Term.static "CatThatTurns" "WAG_STEPS" "[I").eval args s none [] s = some (.ref t) ∧ va_X t 8 (fun j => Int32.ofInt (xa_wagf j)) s s.heap ∧ t < s.heap.size := by
  have hs := flat_of_before _ h
  have e : ∀ {x : Int32} {tm : Term}, (Cond.eq tm (.int x)).before args s = true → tm.eval args s none [] s = some (.int x) := fun {x tm} z => Cond.eq_int z rfl
  have harr : (Cond.arrayOf (.static "CatThatTurns" "WAG_STEPS" "[I") .int).before args s = true := hs _ (by decide +kernel)
  have hlen := e (hs (Cond.eq (.length (.static "CatThatTurns" "WAG_STEPS" "[I")) (.int 8)) (by decide +kernel))
  obtain ⟨t, ht, hT⟩ := va_Tof (N := 8) (f := fun j => .int (Int32.ofInt (xa_wagf j))) (A := fun a => s.heap.size ≤ a) (by decide) harr hlen (fun j hj => by
    rcases (show j = 0 ∨ j = 1 ∨ j = 2 ∨ j = 3 ∨ j = 4 ∨ j = 5 ∨ j = 6 ∨ j = 7 by omega) with rfl | rfl | rfl | rfl | rfl | rfl | rfl | rfl
    · exact e (hs (Cond.eq (.elem (.static "CatThatTurns" "WAG_STEPS" "[I") (.int 0)) (.int 30)) (by decide +kernel))
    · exact e (hs (Cond.eq (.elem (.static "CatThatTurns" "WAG_STEPS" "[I") (.int 1)) (.int 36)) (by decide +kernel))
    · exact e (hs (Cond.eq (.elem (.static "CatThatTurns" "WAG_STEPS" "[I") (.int 2)) (.int 40)) (by decide +kernel))
    · exact e (hs (Cond.eq (.elem (.static "CatThatTurns" "WAG_STEPS" "[I") (.int 3)) (.int 45)) (by decide +kernel))
    · exact e (hs (Cond.eq (.elem (.static "CatThatTurns" "WAG_STEPS" "[I") (.int 4)) (.int 60)) (by decide +kernel))
    · exact e (hs (Cond.eq (.elem (.static "CatThatTurns" "WAG_STEPS" "[I") (.int 5)) (.int 72)) (by decide +kernel))
    · exact e (hs (Cond.eq (.elem (.static "CatThatTurns" "WAG_STEPS" "[I") (.int 6)) (.int 90)) (by decide +kernel))
    · exact e (hs (Cond.eq (.elem (.static "CatThatTurns" "WAG_STEPS" "[I") (.int 7)) (.int 120)) (by decide +kernel))) (fun a ha => Nat.not_le.mpr ha)
  obtain ⟨cell, t1, t2, t3, -, t5, t6, t7⟩ := hT
  obtain ⟨b, cell2, u1, u2, u3⟩ := len_lt hlen
  cases u1.symm.trans ht
  cases u2.symm.trans t1
  have t8 := congrArg Int32.toNatClampNeg t5
  have t9 : cell.slots.size = 8 := (Int32.toNatClampNeg_ofNat_of_lt u3).symm.trans (t8.trans (Int32.toNatClampNeg_ofNat_of_lt (by decide)))
  exact ⟨_, ht, ⟨_, t1, t2, t3, t9, t6⟩, Nat.not_le.mp t7⟩
