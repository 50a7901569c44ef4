/-! The law's entry: what the tables say -/
theorem xa_K_of {s : State} {b L : Nat} {xs : Nat → Int32} (hts : ∀ w ∈ lw_tbl, w.before #[Value.ref b] s = true) (hX : va_X b L xs s s.heap) (hbl : b < s.heap.size) (hL : L ≤ 2560) (hgv : (Jvm.Cond.and given_1 narrow_1).before #[Value.ref b] s = true) : ∃ (wag : Nat) (D : va_G) (cI cR : ClassId), xa_K (s.heap.size, s.heap, b, wag, D, cI, cR, L, fun j => (xs j).toInt) s := by
  have hgw : ∀ w ∈ xa_gw, w.before #[Value.ref b] s = true := fun w hw => hts w (List.mem_filter.mp hw).1
  obtain ⟨D, hD⟩ := va_cls hgw
  obtain ⟨cI, i1, i2⟩ := rk_int (hts (.arrayClass .int) (by decide +kernel))
  have hAO := hts (.arrayOver (.object "CatThatTurns$Sheet")) (by decide +kernel)
  obtain ⟨cR, r1, r2⟩ := rk_obj hAO
  obtain ⟨wag, w1, w2, w3⟩ := wag_at hgv
  refine ⟨wag, D, cI, cR, ⟨hD, fun k q h => ?_⟩, fun q hq => ?_, fun q hq => ?_, va_Zref (hts (.laysStatic "CatThatTurns" "WAG_STEPS" "[I") (by decide +kernel)) (hts (.initialized "CatThatTurns") (by decide +kernel)) w1 (fun a ha => Nat.not_le.mpr ha), ?_, w2, va_AO.of hAO, hbl, w3, ?_⟩
  · match k, h with
    | 0, h => cases h; exact ⟨i1, i2⟩
    | 1, h => cases h; exact ⟨r1, r2⟩
    | k + 2, h => simp at h
  · have z := List.all_eq_true.mp nF_mem q hq
    exact va_Nw.of rfl (hts _ (List.elem_iff.mp z))
  · have z := List.all_eq_true.mp nM_mem q hq
    exact va_Nw.of rfl (hts _ (List.elem_iff.mp z))
  · have e : (fun j => Int32.ofInt (xs j).toInt) = xs := funext fun j => Int32.ofInt_toInt _
    show va_X b L (fun j => Int32.ofInt (xs j).toInt) s s.heap
    rw [e]
    exact hX
  · show L < 2 ^ 31
    omega
