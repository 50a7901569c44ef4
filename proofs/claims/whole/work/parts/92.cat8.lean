/-! both sides' answers are one -/
/-- two sheets, as far as they are read -/
def agr (mvs les mvs' les' : Nat → Int) : Prop := (∀ i, i < 240 → mvs i = mvs' i) ∧ (∀ i, i < 4 → les i = les' i) ∧ ∀ i, 0 ≤ les i ∧ les i ≤ 60
section SQ2
variable {ld dg : Nat → Int} {pa jo : Nat} {wa sr pu ri : Int} {mvs les mvs' les' fi fi' : Nat → Int} {pc : Nat}
theorem agr.w (h : agr mvs les mvs' les') {w : Int} (hw : 0 ≤ w ∧ w ≤ 3) : (les w.toNat).toNat ≤ 60 ∧ les' w.toNat = les w.toNat ∧ ∀ i, i < (les w.toNat).toNat → wy mvs w i = wy mvs' w i := by
  obtain ⟨h1, h2, h3⟩ := h
  have h4 := h3 w.toNat
  have h5 := h2 w.toNat (by omega)
  exact ⟨by omega, h5.symm, fun i hi => h1 (60 * w.toNat + i) (by omega)⟩
section MS
variable {ms ms' : Nat → Int} {len : Nat}
theorem cr_done_e (hm : ∀ i, i < len → ms i = ms' i) {m : Nat} {c : xCf} {u : Int} (h : cr_done ld dg pa jo wa sr pu ms len m c u) : cr_done ld dg pa jo wa sr pu ms' len m c u := by
  obtain ⟨h1, h2, h3⟩ := h
  refine ⟨h1, ?_, fun q => ?_⟩
  · rw [← cr_ext m (fun i hi => hm i (by omega))]
    exact h2
  · rw [← hm m q]
    exact h3 q
theorem an_turn_e (hm : ∀ i, i < len → ms i = ms' i) {turn p r : Int} {t : Nat} (h : an_turn ld dg pa jo wa sr pu ms len turn t p r) : an_turn ld dg pa jo wa sr pu ms' len turn t p r := by
  rcases h with ⟨h1, c, u, h2, h3⟩ | ⟨h1, h2⟩
  · refine Or.inl ⟨h1, c, u, ?_, h3⟩
    rw [← cr_ext t (fun i hi => hm i (by omega))]
    exact h2
  · refine Or.inr ⟨fun q => ?_, h2⟩
    rw [← cr_ext t (fun i hi => hm i (by omega))]
    exact h1 q
theorem fl_one_e (hm : ∀ i, i < len → ms i = ms' i) (turn a b c d : Int) : fl_one ld dg pa jo wa sr pu ms len turn a b c d = fl_one ld dg pa jo wa sr pu ms' len turn a b c d := by
  unfold fl_one
  by_cases e : a ≤ (len : Int)
  · rw [if_pos e, if_pos e, cr_ext a.toNat (fun i hi => hm i (by omega))]
  · rw [if_neg e, if_neg e]
theorem fl_all_e (hm : ∀ i, i < len → ms i = ms' i) (turn : Int) : ∀ n, (∀ i, i < 4 * n → fi i = fi' i) → fl_all ld dg pa jo wa sr pu ms len fi turn n = fl_all ld dg pa jo wa sr pu ms' len fi' turn n
  | 0, _ => rfl
  | n + 1, h => by
    show (fl_all ld dg pa jo wa sr pu ms len fi turn n && fl_one ld dg pa jo wa sr pu ms len turn (fi (4 * n)) (fi (4 * n + 1)) (fi (4 * n + 2)) (fi (4 * n + 3))) = (fl_all ld dg pa jo wa sr pu ms' len fi' turn n && fl_one ld dg pa jo wa sr pu ms' len turn (fi' (4 * n)) (fi' (4 * n + 1)) (fi' (4 * n + 2)) (fi' (4 * n + 3)))
    rw [fl_all_e hm turn n (fun i hi => h i (by omega)), fl_one_e hm, h (4 * n) (by omega), h (4 * n + 1) (by omega), h (4 * n + 2) (by omega), h (4 * n + 3) (by omega)]
theorem hd_B_e (hm : ∀ i, i < len → ms i = ms' i) (x : Int) : hd_B ld dg pa jo wa sr pu ri ms len x = hd_B ld dg pa jo wa sr pu ri ms' len x := by
  unfold hd_B
  rw [cr_ext len hm]
end MS
theorem fl_P_e (hA : agr mvs les mvs' les') {w : Int} (hw : 0 ≤ w ∧ w ≤ 3) (hpc : pc ≤ 30) (hf : ∀ i, i < 120 → fi i = fi' i) (push turn : Int) : fl_P ld dg pa jo wa sr push mvs les w fi pc turn = fl_P ld dg pa jo wa sr push mvs' les' w fi' pc turn := by
  obtain ⟨a1, a2, a3⟩ := hA.w hw
  unfold fl_P
  rw [a2]
  exact fl_all_e a3 turn pc (fun i hi => hf i (by omega))
theorem sq_turn_u (hA : agr mvs les mvs' les') {w turn t p r r' : Int} (h : sq_turn ld dg pa jo wa sr pu mvs les w turn t p r) (h' : sq_turn ld dg pa jo wa sr pu mvs' les' w turn t p r') : r = r' := by
  rcases h with ⟨a1, a2⟩ | ⟨a1, a2⟩ <;> rcases h' with ⟨b1, b2⟩ | ⟨b1, b2⟩
  · omega
  · exact absurd b1 a1
  · exact absurd a1 b1
  · obtain ⟨-, c2, c3⟩ := hA.w a1.1
    rw [c2] at b2
    exact an_turn_u (an_turn_e c3 a2) b2
theorem sq_run_u (hA : agr mvs les mvs' les') {w q r r' : Int} (h : sq_run ld dg pa jo wa sr pu mvs les w q r) (h' : sq_run ld dg pa jo wa sr pu mvs' les' w q r') : r = r' := by
  rcases h with ⟨a1, a2⟩ | ⟨a1, m, c, u, a2, a3⟩ <;> rcases h' with ⟨b1, b2⟩ | ⟨b1, m', c', u', b2, b3⟩
  · omega
  · exact absurd b1 a1
  · exact absurd a1 b1
  · obtain ⟨-, c2, c3⟩ := hA.w a1.1
    rw [c2] at b2 b3
    obtain ⟨rfl, rfl, rfl⟩ := cr_done_u (cr_done_e c3 a2) b2
    rw [a3, b3]
theorem sq_spun_u (hA : agr mvs les mvs' les') {w r r' : Int} (h : sq_spun ld dg pa jo wa sr pu mvs les w r) (h' : sq_spun ld dg pa jo wa sr pu mvs' les' w r') : r = r' := by
  rcases h with ⟨a1, a2⟩ | ⟨a1, m, c, u, a2, a3⟩ <;> rcases h' with ⟨b1, b2⟩ | ⟨b1, m', c', u', b2, b3⟩
  · omega
  · exact absurd b1 a1
  · exact absurd a1 b1
  · obtain ⟨-, c2, c3⟩ := hA.w a1
    rw [c2] at b2
    obtain ⟨rfl, rfl, rfl⟩ := cr_done_u (cr_done_e c3 a2) b2
    rw [a3, b3]
theorem sq_times_u (hA : agr mvs les mvs' les') {w n r r' : Int} (h : sq_times ld dg pa jo wa sr pu mvs les w n r) (h' : sq_times ld dg pa jo wa sr pu mvs' les' w n r') : r = r' := by
  rcases h with ⟨a1, a2⟩ | ⟨a1, m, c, u, a2, a3⟩ <;> rcases h' with ⟨b1, b2⟩ | ⟨b1, m', c', u', b2, b3⟩
  · omega
  · exact absurd b1 a1
  · exact absurd a1 b1
  · obtain ⟨-, c2, c3⟩ := hA.w a1.1
    rw [c2] at b2 b3
    obtain ⟨rfl, rfl, rfl⟩ := cr_done_u (cr_done_e c3 a2) b2
    rw [a3, b3]
theorem sq_may_u (hA : agr mvs les mvs' les') (hpc : pc ≤ 30) (hf : ∀ i, i < 120 → fi i = fi' i) {w turn r r' : Int} (h : sq_may ld dg pa jo wa sr pu mvs les fi pc w turn r) (h' : sq_may ld dg pa jo wa sr pu mvs' les' fi' pc w turn r') : r = r' := by
  rcases h with ⟨a1, a2⟩ | ⟨a1, a2⟩ <;> rcases h' with ⟨b1, b2⟩ | ⟨b1, b2⟩
  · omega
  · exact absurd b1 a1
  · exact absurd a1 b1
  · rw [a2, b2, fl_P_e hA a1.1 hpc hf]
theorem sq_looked_u (hA : agr mvs les mvs' les') (hpc : pc ≤ 30) (hf : ∀ i, i < 120 → fi i = fi' i) {w q r r' : Int} (h : sq_looked ld dg pa jo wa sr pu mvs les fi pc w q r) (h' : sq_looked ld dg pa jo wa sr pu mvs' les' fi' pc w q r') : r = r' := by
  rcases h with ⟨a1, a2⟩ | ⟨a1, a2⟩ <;> rcases h' with ⟨b1, b2⟩ | ⟨b1, b2⟩
  · omega
  · exact absurd b1 a1
  · exact absurd a1 b1
  · have e : (fun t : Nat => fl_P ld dg pa jo wa sr pu mvs les w fi pc (t : Int)) = fun t : Nat => fl_P ld dg pa jo wa sr pu mvs' les' w fi' pc (t : Int) := funext fun t => fl_P_e hA a1.1 hpc hf pu t
    rw [e] at a2
    by_cases hq : q = 0
    · rw [if_pos hq] at a2 b2
      rw [a2, b2]
    · rw [if_neg hq] at a2 b2
      exact ft_u a2 b2
theorem sq_pushed_u (hA : agr mvs les mvs' les') (hpc : pc ≤ 30) (hf : ∀ i, i < 120 → fi i = fi' i) {w turn m q r r' : Int} (h : sq_pushed ld dg pa jo wa sr mvs les fi pc w turn m q r) (h' : sq_pushed ld dg pa jo wa sr mvs' les' fi' pc w turn m q r') : r = r' := by
  rcases h with ⟨a1, a2⟩ | ⟨a1, a2⟩ <;> rcases h' with ⟨b1, b2⟩ | ⟨b1, b2⟩
  · omega
  · exact absurd b1 a1
  · exact absurd a1 b1
  · have e1 : (fun i : Nat => fl_P ld dg pa jo wa sr ((i : Int) - m) mvs les w fi pc turn) = fun i : Nat => fl_P ld dg pa jo wa sr ((i : Int) - m) mvs' les' w fi' pc turn := funext fun i => fl_P_e hA a1.1 hpc hf _ turn
    have e2 : (fun l : Int => fl_P ld dg pa jo wa sr l mvs les w fi pc turn) = fun l : Int => fl_P ld dg pa jo wa sr l mvs' les' w fi' pc turn := funext fun l => fl_P_e hA a1.1 hpc hf l turn
    rw [e1, e2] at a2
    by_cases hq : q = 0
    · rw [if_pos hq] at a2 b2
      rw [a2, b2]
    · rw [if_neg hq] at a2 b2
      exact nr_u a2 b2
theorem hd_w (hA : agr mvs les mvs' les') (w : Nat) (hw : w < 4) (x : Int) : hd_B ld dg pa jo wa sr pu ri (wy mvs ((w : Nat) : Int)) (les w).toNat x = hd_B ld dg pa jo wa sr pu ri (wy mvs' ((w : Nat) : Int)) (les' w).toNat x := by
  obtain ⟨-, c2, c3⟩ := hA.w (w := ((w : Nat) : Int)) (by omega)
  rw [Int.toNat_natCast] at c2 c3
  rw [c2]
  exact hd_B_e c3 x
theorem hd_any_e (hA : agr mvs les mvs' les') (x : Int) : hd_any ld dg pa jo wa sr pu ri mvs les x = hd_any ld dg pa jo wa sr pu ri mvs' les' x := by
  have h0 := hd_w (ld := ld) (dg := dg) (pa := pa) (jo := jo) (wa := wa) (sr := sr) (pu := pu) (ri := ri) hA 0 (by decide) x
  have h1 := hd_w (ld := ld) (dg := dg) (pa := pa) (jo := jo) (wa := wa) (sr := sr) (pu := pu) (ri := ri) hA 1 (by decide) x
  have h2 := hd_w (ld := ld) (dg := dg) (pa := pa) (jo := jo) (wa := wa) (sr := sr) (pu := pu) (ri := ri) hA 2 (by decide) x
  have h3 := hd_w (ld := ld) (dg := dg) (pa := pa) (jo := jo) (wa := wa) (sr := sr) (pu := pu) (ri := ri) hA 3 (by decide) x
  unfold hd_any
  exact congr (congrArg or (congr (congrArg or (congr (congrArg or h0) h1)) h2)) h3
theorem an_head_e (hA : agr mvs les mvs' les') {x r : Int} (h : an_head ld dg pa jo wa sr pu ri mvs les x r) : an_head ld dg pa jo wa sr pu ri mvs' les' x r := by
  have k : ∀ w : Nat, w < 4 → (hd_ok ld dg pa jo wa sr pu ri (wy mvs ((w : Nat) : Int)) (les w).toNat x ↔ hd_ok ld dg pa jo wa sr pu ri (wy mvs' ((w : Nat) : Int)) (les' w).toNat x) := fun w hw => by
    unfold hd_ok
    rw [hd_w hA w hw]
  rcases h with ⟨w, h1, h2, h3, h4⟩ | ⟨h1, h2⟩
  · exact Or.inl ⟨w, h1, (k w h1).mp h2, fun w' hw' z => h3 w' hw' ((k w' (by omega)).mpr z), h4⟩
  · exact Or.inr ⟨fun w hw z => h1 w hw ((k w hw).mpr z), h2⟩
theorem sq_head_u (hA : agr mvs les mvs' les') {turn n r r' : Int} (h : sq_head ld dg pa jo wa sr pu ri mvs les turn n r) (h' : sq_head ld dg pa jo wa sr pu ri mvs' les' turn n r') : r = r' := by
  rcases h with ⟨a1, a2⟩ | ⟨a1, a2⟩ <;> rcases h' with ⟨b1, b2⟩ | ⟨b1, b2⟩
  · omega
  · exact absurd b1 a1
  · exact absurd a1 b1
  · exact an_head_u (an_head_e hA a2) b2
theorem sq_down_u (hA : agr mvs les mvs' les') {n r r' : Int} (h : sq_down ld dg pa jo wa sr pu ri mvs les n r) (h' : sq_down ld dg pa jo wa sr pu ri mvs' les' n r') : r = r' := by
  rcases h with ⟨a1, a2⟩ | ⟨a1, a2⟩ <;> rcases h' with ⟨b1, b2⟩ | ⟨b1, b2⟩
  · omega
  · exact absurd b1 a1
  · exact absurd a1 b1
  · have e : (fun t : Nat => hd_any ld dg pa jo wa sr pu ri mvs les ((t : Int) + hd_late ld pa pu n)) = fun t : Nat => hd_any ld dg pa jo wa sr pu ri mvs' les' ((t : Int) + hd_late ld pa pu n) := funext fun t => hd_any_e hA _
    rw [a2, b2, e]
end SQ2
theorem sq_soon_u {ld dg : Nat → Int} {pa jo : Nat} {wa sr pu ri t i r r' : Int} (h : sq_soon ld dg pa jo wa sr pu ri t i r) (h' : sq_soon ld dg pa jo wa sr pu ri t i r') : r = r' := by
  rcases h with ⟨a1, a2⟩ | ⟨a1, v, a2, a3⟩ <;> rcases h' with ⟨b1, b2⟩ | ⟨b1, v', b2, b3⟩
  · omega
  · exact absurd b1 a1
  · exact absurd a1 b1
  · have e := tk_u a2 b2
    subst e
    rcases a3 with ⟨c1, c2⟩ | ⟨c1, c2⟩ <;> rcases b3 with ⟨d1, d2⟩ | ⟨d1, d2⟩
    · rw [c2, d2]
    · exact absurd c1 d1
    · exact absurd d1 c1
    · exact gmv_u _ _ _ _ _ _ c2 d2
theorem sq_worth_u {ld dg : Nat → Int} {pa jo : Nat} {wa sr pu ri j t r r' : Int} (h : sq_worth ld dg pa jo wa sr pu ri j t r) (h' : sq_worth ld dg pa jo wa sr pu ri j t r') : r = r' := by
  rcases h with ⟨a1, a2⟩ | ⟨a1, v, w, a2, a3, a4⟩ <;> rcases h' with ⟨b1, b2⟩ | ⟨b1, v', w', b2, b3, b4⟩
  · omega
  · exact absurd b1 a1
  · exact absurd a1 b1
  · have e := tk_u a2 b2
    have e2 := tk_u a3 b3
    subst e
    subst e2
    rw [a4, b4]
theorem sq_free_u {ld dg : Nat → Int} {pa jo : Nat} {wa sr J r r' : Int} (h : sq_free ld dg pa jo wa sr J r) (h' : sq_free ld dg pa jo wa sr J r') : r = r' := by
  rcases h with ⟨a1, a2⟩ | ⟨a1, a2⟩ <;> rcases h' with ⟨b1, b2⟩ | ⟨b1, b2⟩
  · omega
  · exact absurd b1 a1
  · exact absurd a1 b1
  · exact fr_u a2 b2
