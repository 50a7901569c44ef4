/-! the model's methods over configurations -/
def mOk (F : Nat → Nat → Int) (ld dg : Nat → Int) (pa jo : Nat) (wa sr pu ri : Int) : Prop := vB ld dg pa jo wa sr pu ri ∧ mR F ld dg pa jo wa ∧ mBd F ∧ F 7 0 = pu ∧ F 8 0 = ri ∧ (∀ w, 0 ≤ F 9 w ∧ F 9 w ≤ 60) ∧ (∀ i, 0 ≤ F 10 i ∧ F 10 i ≤ 18)
theorem mOk.hv {F : Nat → Nat → Int} {ld dg : Nat → Int} {pa jo : Nat} {wa sr pu ri : Int} (h : mOk F ld dg pa jo wa sr pu ri) : xMv F := by
  obtain ⟨hB, hR, hb, -⟩ := h
  refine ⟨hb.2.2.2.2.1 0, hb.2.2.2.1 0, fun j hj => ?_, hb.2.2.1, hb.1⟩
  rw [hR.2.1] at hj
  rw [hR.2.2.2.1 j (by omega)]
  exact ⟨hB.2.2.2.2.1 j (by omega), (hB.2.2.2.1 j).2⟩
section KM
variable {G : xa_G} {h : xa_H} {k : Nat} {F : Nat → Nat → Int} {s : Nat → Int} {ld dg : Nat → Int} {pa jo : Nat} {wa sr pu ri : Int}
theorem mE_9 {c : xCf} (hB : vB ld dg pa jo wa sr pu ri) (hR : mR F ld dg pa jo wa) (hc : cf_ok pa jo wa sr c) : 0 ≤ mE jo wa sr c ∧ mE jo wa sr c ≤ 4000000 := by
  have a := mE_b hB hR hc
  have b := sm_shapes_b hB hR
  omega
theorem c_kMoved (ho : mOk F ld dg pa jo wa sr pu ri) (hM : xM h k F s) {c : xCf} (hc : cf_ok pa jo wa sr c) (mv : Int) (hmv : 0 ≤ mv ∧ mv ≤ 18) : xa_M G mX10_moved [xa_r k, xa_i (mE jo wa sr c), xa_i mv] h 0 0 (fun r h' => ((∃ c', cf_move pa jo wa sr c mv = some c' ∧ cf_ok pa jo wa sr c' ∧ r = some (xa_i (mE jo wa sr c'))) ∨ (cf_move pa jo wa sr c mv = none ∧ r = some (xa_i (-4)))) ∧ h' = h) := by
  refine xa_mono (c_mMoved k F s _ (mE_9 ho.1 ho.2.1 hc) mv hmv hM ho.hv) (fun r h' hq => ⟨?_, hq.2⟩)
  have e := mE_moved ho.1 ho.2.1 hc hmv
  cases hm : cf_move pa jo wa sr c mv with
  | none =>
    rw [hm] at e
    exact Or.inr ⟨rfl, by rw [hq.1, e]⟩
  | some c' =>
    rw [hm] at e
    exact Or.inl ⟨c', rfl, cf_move_ok ho.1 hc hm, by rw [hq.1, e]⟩
theorem c_kTurned (ho : mOk F ld dg pa jo wa sr pu ri) (hM : xM h k F s) {c : xCf} (hc : cf_ok pa jo wa sr c) (mv : Int) (hmv : 0 ≤ mv ∧ mv ≤ 18) (hj : mv = 3 ∨ mv = 4 → 1 < jo) (hpu : -9999 ≤ s 14 ∧ s 14 ≤ 9999) : xa_M G mX10_turnedBy [xa_r k, xa_i (mE jo wa sr c), xa_i mv] h 0 0 (fun r h' => r = some (xa_i (cf_turn ld dg pa (s 14) c mv)) ∧ h' = h) := by
  refine xa_mono (c_mTurned k F s _ (mE_9 ho.1 ho.2.1 hc) mv hmv hpu ?_ ho.2.2.1.2.1 hM ho.hv) (fun r h' hq => ⟨?_, hq.2⟩)
  · rw [(mE_from ho.1 ho.2.1 hc).1]
    have := cf_all_b ho.1 hc
    omega
  · rw [hq.1, mE_turned ho.1 ho.2.1 hc hmv hj]
theorem c_kRest (ho : mOk F ld dg pa jo wa sr pu ri) (hM : xM h k F s) : xa_M G mX10_rest [xa_r k] h 0 0 (fun r h' => r = some (xa_i (mE jo wa sr (cf_rest pa))) ∧ h' = h) :=
  xa_mono (c_mRest k F s hM ho.hv) (fun r h' hq => ⟨by rw [hq.1, mE_rest ho.1 ho.2.1], hq.2⟩)
theorem c_kStraight (ho : mOk F ld dg pa jo wa sr pu ri) (hM : xM h k F s) {c : xCf} (hc : cf_ok pa jo wa sr c) : xa_M G mX10_isStraight [xa_r k, xa_i (mE jo wa sr c)] h 0 0 (fun r h' => r = some (xa_i (xa_b (c.2.2.2.1 = 0 ∧ c.2.2.2.2 = 0))) ∧ h' = h) := by
  refine xa_mono (c_mStraight k F s _ (mE_9 ho.1 ho.2.1 hc) hM ho.hv) (fun r h' hq => ⟨?_, hq.2⟩)
  rw [hq.1, xa_bc (q := c.2.2.2.1 = 0 ∧ c.2.2.2.2 = 0) (mE_str ho.1 ho.2.1 hc)]
theorem c_kAt (ho : mOk F ld dg pa jo wa sr pu ri) (hM : xM h k F s) {c : xCf} (hc : cf_ok pa jo wa sr c) (j : Nat) (hj : j < 2) : xa_M G mX10_stepAt [xa_r k, xa_i (mE jo wa sr c), xa_i ((j : Nat) : Int)] h 0 0 (fun r h' => r = some (xa_i ((if j = 0 then c.2.2.2.1 else c.2.2.2.2) + cf_z jo wa j)) ∧ h' = h) := by
  refine xa_mono (c_mAt k F s _ (mE_9 ho.1 ho.2.1 hc) _ ⟨by omega, by omega⟩ hM ho.hv) (fun r h' hq => ⟨?_, hq.2⟩)
  obtain ⟨e0, e1⟩ := mE_at ho.1 ho.2.1 hc
  rcases (show j = 0 ∨ j = 1 by omega) with rfl | rfl
  · rw [hq.1, if_pos rfl, show sm_at F (mE jo wa sr c) ((0 : Nat) : Int) = _ from e0]
  · rw [hq.1, if_neg (by decide), show sm_at F (mE jo wa sr c) ((1 : Nat) : Int) = _ from e1]
theorem c_kZero (ho : mOk F ld dg pa jo wa sr pu ri) (hM : xM h k F s) (j : Nat) (hj : j < 2) : xa_M G mX10_straightAt [xa_r k, xa_i ((j : Nat) : Int)] h 0 0 (fun r h' => r = some (xa_i (cf_z jo wa j)) ∧ h' = h) :=
  xa_mono (c_mZero k F s _ ⟨by omega, by omega⟩ hM ho.hv) (fun r h' hq => ⟨by rw [hq.1, mR_z ho.2.1], hq.2⟩)
end KM
/-- a way that is run from rest: where it is behind n moves, and by how much part 0 has turned -/
def cr_run (ld dg : Nat → Int) (pa jo : Nat) (wa sr push : Int) (ms : Nat → Int) : Nat → Option (xCf × Int)
  | 0 => some (cf_rest pa, 0)
  | n + 1 => (cr_run ld dg pa jo wa sr push ms n).bind fun q => (cf_move pa jo wa sr q.1 (ms n)).map fun c => (c, q.2 + cf_turn ld dg pa push c (ms n))
theorem cr_run_s {ld dg : Nat → Int} {pa jo : Nat} {wa sr push : Int} {ms : Nat → Int} {n : Nat} {c c' : xCf} {u : Int} (h : cr_run ld dg pa jo wa sr push ms n = some (c, u)) (hm : cf_move pa jo wa sr c (ms n) = some c') : cr_run ld dg pa jo wa sr push ms (n + 1) = some (c', u + cf_turn ld dg pa push c' (ms n)) := by
  show (cr_run ld dg pa jo wa sr push ms n).bind _ = _
  rw [h]
  show (cf_move pa jo wa sr c (ms n)).map _ = _
  rw [hm]
  rfl
theorem tdiv_b {x y n : Int} (hx : -n ≤ x ∧ x ≤ n) (hy : 1 ≤ y) : -n ≤ x.tdiv y ∧ x.tdiv y ≤ n := by
  have key : ∀ z : Int, 0 ≤ z → 0 ≤ z.tdiv y ∧ z.tdiv y ≤ z := fun z hz => by
    rw [Int.tdiv_eq_ediv_of_nonneg hz]
    exact ⟨Int.ediv_nonneg hz (by omega), Int.ediv_le_self _ hz⟩
  by_cases h0 : 0 ≤ x
  · have := key x h0
    omega
  · have := key (-x) (by omega)
    rw [Int.neg_tdiv] at this
    omega
theorem cf_turn_b {ld dg : Nat → Int} {pa jo : Nat} {wa sr pu ri push : Int} (hB : vB ld dg pa jo wa sr pu ri) {c : xCf} (hc : cf_ok pa jo wa sr c) (hp : -9999 ≤ push ∧ push ≤ 9999) (mv : Int) : -34000 ≤ cf_turn ld dg pa push c mv ∧ cf_turn ld dg pa push c mv ≤ 34000 := by
  have a := cf_all_b hB hc
  have t1 := tdiv_b (n := 9999) hp (by omega : 1 ≤ cf_all ld pa c)
  have b : ∀ (d : Int) (j : Nat), (-120 ≤ d ∧ d ≤ 120) → -24000 ≤ (d * cf_beh ld pa c j).tdiv (cf_all ld pa c) ∧ (d * cf_beh ld pa c j).tdiv (cf_all ld pa c) ≤ 24000 := by
    intro d j hd
    refine tdiv_b ?_ (by omega)
    have e := cf_beh_b hB hc j
    have l1 : d * cf_beh ld pa c j ≤ 120 * cf_beh ld pa c j := Int.mul_le_mul_of_nonneg_right hd.2 e.1
    have l2 : (-120) * cf_beh ld pa c j ≤ d * cf_beh ld pa c j := Int.mul_le_mul_of_nonneg_right hd.1 e.1
    omega
  have d0 := hB.2.2.2.1 0
  have d1 := hB.2.2.2.1 1
  have b0 := b (dg 0) 0 (by omega)
  have b1 := b (-dg 0) 0 (by omega)
  have b2 := b (dg 1) 1 (by omega)
  have b3 := b (-dg 1) 1 (by omega)
  unfold cf_turn cf_bend
  repeat' split
  all_goals omega
