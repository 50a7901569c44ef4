/-! The model: shapes by numbers -/
theorem sm_ab {a b : Int} (ha : 1 ≤ a ∧ a ≤ 360) (hb : 1 ≤ b ∧ b ≤ 360) : 1 ≤ a * b ∧ a * b ≤ 129600 := by
  have h1 : 1 * 1 ≤ a * b := Int.mul_le_mul ha.1 hb.1 (by decide) (by omega)
  have h2 : a * b ≤ 360 * 360 := Int.mul_le_mul ha.2 hb.2 (by omega) (by decide)
  omega
theorem sm_div {x y : Int} (hx : 0 ≤ x) (hy : 0 < y) : 0 ≤ x / y ∧ x / y ≤ x := ⟨Int.ediv_nonneg hx (by omega), Int.ediv_le_self _ hx⟩
theorem sm_mod {x y : Int} (hy : 0 < y) : 0 ≤ x % y ∧ x % y < y := ⟨Int.emod_nonneg _ (by omega), Int.emod_lt_of_pos _ hy⟩
theorem sm_three_b (k : Int) : 1 ≤ sm_three k ∧ sm_three k ≤ 9 := by
  unfold sm_three
  repeat' split
  all_goals omega
def sm_pose (F : Nat → Nat → Int) (sh k : Int) : Int := sh / (sm_steps F 0 * sm_steps F 1) / sm_three k % 3
def sm_at (F : Nat → Nat → Int) (sh j : Int) : Int := if j = 0 then sh / sm_steps F 1 % sm_steps F 0 else sh % sm_steps F 1
theorem sm_pose_b (F : Nat → Nat → Int) (sh k : Int) : 0 ≤ sm_pose F sh k ∧ sm_pose F sh k ≤ 2 := by
  unfold sm_pose
  omega
theorem sm_at_b {F : Nat → Nat → Int} (hv : xMv F) (sh j : Int) : 0 ≤ sm_at F sh j ∧ sm_at F sh j < 360 := by
  have a := sm_steps_b hv 0
  have b := sm_steps_b hv 1
  unfold sm_at
  split
  · have := sm_mod (x := sh / sm_steps F 1) (y := sm_steps F 0) (by omega)
    omega
  · have := sm_mod (x := sh) (y := sm_steps F 1) (by omega)
    omega
theorem sm_zero_b (F : Nat → Nat → Int) (j : Int) : 0 ≤ sm_zero F j ∧ sm_zero F j ≤ 2 := by
  unfold sm_zero
  split <;> omega
def sm_shapes (F : Nat → Nat → Int) : Int := (if F 2 0 = 2 then 9 else 27) * sm_steps F 0 * sm_steps F 1
def sm_rest (F : Nat → Nat → Int) : Int := ((if F 2 0 = 2 then 4 else 13) * sm_steps F 0 + sm_zero F 0) * sm_steps F 1 + sm_zero F 1
def sm_ld (F : Nat → Nat → Int) (sh k : Int) : Int := F 3 (3 * k + sm_pose F sh k).toNat
def sm_from (F : Nat → Nat → Int) (sh p : Int) : Int := (if p ≤ 0 ∧ 0 < F 2 0 then sm_ld F sh 0 else 0) + (if p ≤ 1 ∧ 1 < F 2 0 then sm_ld F sh 1 else 0) + (if p ≤ 2 ∧ 2 < F 2 0 then sm_ld F sh 2 else 0)
theorem sm_ld_b {F : Nat → Nat → Int} (hv : xMv F) (sh k : Int) : 0 ≤ sm_ld F sh k ∧ sm_ld F sh k ≤ 99 := hv.2.2.2.2 _
theorem sm_from_b {F : Nat → Nat → Int} (hv : xMv F) (sh p : Int) : 0 ≤ sm_from F sh p ∧ sm_from F sh p ≤ 297 := by
  have a := sm_ld_b hv sh 0
  have b := sm_ld_b hv sh 1
  have c := sm_ld_b hv sh 2
  unfold sm_from
  repeat' split
  all_goals omega

theorem c_mShapes {G : xa_G} {h : xa_H} (k : Nat) (F : Nat → Nat → Int) (s : Nat → Int) (hM : xM h k F s) (hv : xMv F)  : xa_M G mX10_shapeMany [xa_r k] h 0 0 (fun r h' => r = some (xa_i (sm_shapes F)) ∧ h' = h) := by
  refine xa_enter (by decide +kernel) (Nat.le_of_ble_eq_true rfl) ?_
  refine xa_locals (ls' := [some (xa_r k)]) rfl ?_
  obtain ⟨hM0, hM1, hM2, hM3, hM4, hM5, hM6, hM7, hM8, hM9, hM10, hM11, hM12, hM13, hM14, hM15, hM16, hMk, hMn⟩ := hM
  obtain ⟨v1, v2, v3, v4, v5⟩ := id hv
  have sa := sm_steps_b hv 0
  have sb := sm_steps_b hv 1
  have ab := sm_ab sa sb
  refine xa_aload_n (pc := 0) dX10_shapeMany_0 rfl ?_
  refine xa_getfield (pc := 1) dX10_shapeMany_1 flRX10_13 (by omega) (by omega) hM0 rfl ?_
  refine xa_iconst (pc := 4) dX10_shapeMany_4 ?_
  refine xa_ialdw (pc := 5) 0 dX10_shapeMany_5 (by omega) hM2 (by omega) (by omega) rfl ?_
  refine xa_iconst (pc := 6) dX10_shapeMany_6 ?_
  refine xa_icmp_ne (pc := 7) (tgt := 15) dX10_shapeMany_7 (by decide) ⟨by omega, by omega⟩ (by decide) (fun c_7 => ?_) (fun c_7 => ?_)
  · skip
    refine xa_bipush (pc := 15) dX10_shapeMany_15 rfl ?_
    refine xa_aload_n (pc := 17) dX10_shapeMany_17 rfl ?_
    refine xa_iconst (pc := 18) dX10_shapeMany_18 ?_
    refine xa_callV (pc := 19) (as := [xa_i 0]) (rest := [xa_i 27]) dX10_shapeMany_19 ⟨qX10_stepMany.1, qX10_stepMany.2.1, qX10_stepMany.2.2, by decide, by decide⟩ lkRX10_123 imX10_stepMany seX10_stepMany rfl rfl (by omega) (by omega) hM0 rfl (Nat.le_of_ble_eq_true rfl) (Nat.zero_le _) (Nat.zero_le _) (c_mSteps _ _ _ _ ⟨by omega, by omega⟩ ⟨hM0, hM1, hM2, hM3, hM4, hM5, hM6, hM7, hM8, hM9, hM10, hM11, hM12, hM13, hM14, hM15, hM16, by omega, by omega⟩ hv) (fun r h' hq => ?_)
    obtain ⟨rfl, hq⟩ := hq
    have hq := hq.symm
    subst hq
    have st_19 := sm_steps_b hv 0
    refine xa_imul (pc := 22) dX10_shapeMany_22 ?_
    refine xa_aload_n (pc := 23) dX10_shapeMany_23 rfl ?_
    refine xa_iconst (pc := 24) dX10_shapeMany_24 ?_
    refine xa_callV (pc := 25) (as := [xa_i 1]) (rest := [xa_i (27 * (sm_steps F 0))]) dX10_shapeMany_25 ⟨qX10_stepMany.1, qX10_stepMany.2.1, qX10_stepMany.2.2, by decide, by decide⟩ lkRX10_123 imX10_stepMany seX10_stepMany rfl rfl (by omega) (by omega) hM0 rfl (Nat.le_of_ble_eq_true rfl) (Nat.zero_le _) (Nat.zero_le _) (c_mSteps _ _ _ _ ⟨by omega, by omega⟩ ⟨hM0, hM1, hM2, hM3, hM4, hM5, hM6, hM7, hM8, hM9, hM10, hM11, hM12, hM13, hM14, hM15, hM16, by omega, by omega⟩ hv) (fun r h' hq => ?_)
    obtain ⟨rfl, hq⟩ := hq
    have hq := hq.symm
    subst hq
    have st_25 := sm_steps_b hv 1
    refine xa_imul (pc := 28) dX10_shapeMany_28 ?_
    refine xa_ireturn (pc := 29) dX10_shapeMany_29 rfl trivial ?_
    exact ⟨congrArg (fun z => some (xa_i z)) (show (27 * (sm_steps F 0)) * (sm_steps F 1) = sm_shapes F by (unfold sm_shapes; first | (rw [if_pos (by omega)]; done) | (rw [if_neg (by omega)]; done))), rfl⟩
  · skip
    refine xa_bipush (pc := 10) dX10_shapeMany_10 rfl ?_
    refine xa_goto (pc := 12) (tgt := 17) dX10_shapeMany_12 (by decide) ?_
    refine xa_aload_n (pc := 17) dX10_shapeMany_17 rfl ?_
    refine xa_iconst (pc := 18) dX10_shapeMany_18 ?_
    refine xa_callV (pc := 19) (as := [xa_i 0]) (rest := [xa_i 9]) dX10_shapeMany_19 ⟨qX10_stepMany.1, qX10_stepMany.2.1, qX10_stepMany.2.2, by decide, by decide⟩ lkRX10_123 imX10_stepMany seX10_stepMany rfl rfl (by omega) (by omega) hM0 rfl (Nat.le_of_ble_eq_true rfl) (Nat.zero_le _) (Nat.zero_le _) (c_mSteps _ _ _ _ ⟨by omega, by omega⟩ ⟨hM0, hM1, hM2, hM3, hM4, hM5, hM6, hM7, hM8, hM9, hM10, hM11, hM12, hM13, hM14, hM15, hM16, by omega, by omega⟩ hv) (fun r h' hq => ?_)
    obtain ⟨rfl, hq⟩ := hq
    have hq := hq.symm
    subst hq
    have st_19 := sm_steps_b hv 0
    refine xa_imul (pc := 22) dX10_shapeMany_22 ?_
    refine xa_aload_n (pc := 23) dX10_shapeMany_23 rfl ?_
    refine xa_iconst (pc := 24) dX10_shapeMany_24 ?_
    refine xa_callV (pc := 25) (as := [xa_i 1]) (rest := [xa_i (9 * (sm_steps F 0))]) dX10_shapeMany_25 ⟨qX10_stepMany.1, qX10_stepMany.2.1, qX10_stepMany.2.2, by decide, by decide⟩ lkRX10_123 imX10_stepMany seX10_stepMany rfl rfl (by omega) (by omega) hM0 rfl (Nat.le_of_ble_eq_true rfl) (Nat.zero_le _) (Nat.zero_le _) (c_mSteps _ _ _ _ ⟨by omega, by omega⟩ ⟨hM0, hM1, hM2, hM3, hM4, hM5, hM6, hM7, hM8, hM9, hM10, hM11, hM12, hM13, hM14, hM15, hM16, by omega, by omega⟩ hv) (fun r h' hq => ?_)
    obtain ⟨rfl, hq⟩ := hq
    have hq := hq.symm
    subst hq
    have st_25 := sm_steps_b hv 1
    refine xa_imul (pc := 28) dX10_shapeMany_28 ?_
    refine xa_ireturn (pc := 29) dX10_shapeMany_29 rfl trivial ?_
    exact ⟨congrArg (fun z => some (xa_i z)) (show (9 * (sm_steps F 0)) * (sm_steps F 1) = sm_shapes F by (unfold sm_shapes; first | (rw [if_pos (by omega)]; done) | (rw [if_neg (by omega)]; done))), rfl⟩
theorem c_mPose {G : xa_G} {h : xa_H} (k : Nat) (F : Nat → Nat → Int) (s : Nat → Int) (sh : Int) (hsh : 0 ≤ sh ∧ sh ≤ 4000000) (q : Int) (hq : xa_ok q) (hM : xM h k F s) (hv : xMv F)  : xa_M G mX10_poseOf [xa_r k, xa_i sh, xa_i q] h 0 0 (fun r h' => r = some (xa_i (sm_pose F sh q)) ∧ h' = h) := by
  refine xa_enter (by decide +kernel) (Nat.le_of_ble_eq_true rfl) ?_
  refine xa_locals (ls' := [some (xa_r k), some (xa_i sh), some (xa_i q)]) rfl ?_
  obtain ⟨hM0, hM1, hM2, hM3, hM4, hM5, hM6, hM7, hM8, hM9, hM10, hM11, hM12, hM13, hM14, hM15, hM16, hMk, hMn⟩ := hM
  obtain ⟨v1, v2, v3, v4, v5⟩ := id hv
  have sa := sm_steps_b hv 0
  have sb := sm_steps_b hv 1
  have ab := sm_ab sa sb
  refine xa_iload_n (pc := 0) dX10_poseOf_0 rfl ?_
  refine xa_aload_n (pc := 1) dX10_poseOf_1 rfl ?_
  refine xa_iconst (pc := 2) dX10_poseOf_2 ?_
  refine xa_callV (pc := 3) (as := [xa_i 0]) (rest := [xa_i sh]) dX10_poseOf_3 ⟨qX10_stepMany.1, qX10_stepMany.2.1, qX10_stepMany.2.2, by decide, by decide⟩ lkRX10_123 imX10_stepMany seX10_stepMany rfl rfl (by omega) (by omega) hM0 rfl (Nat.le_of_ble_eq_true rfl) (Nat.zero_le _) (Nat.zero_le _) (c_mSteps _ _ _ _ ⟨by omega, by omega⟩ ⟨hM0, hM1, hM2, hM3, hM4, hM5, hM6, hM7, hM8, hM9, hM10, hM11, hM12, hM13, hM14, hM15, hM16, by omega, by omega⟩ hv) (fun r h' hq => ?_)
  obtain ⟨rfl, hq⟩ := hq
  have hq := hq.symm
  subst hq
  have st_3 := sm_steps_b hv 0
  refine xa_aload_n (pc := 6) dX10_poseOf_6 rfl ?_
  refine xa_iconst (pc := 7) dX10_poseOf_7 ?_
  refine xa_callV (pc := 8) (as := [xa_i 1]) (rest := [xa_i (sm_steps F 0), xa_i sh]) dX10_poseOf_8 ⟨qX10_stepMany.1, qX10_stepMany.2.1, qX10_stepMany.2.2, by decide, by decide⟩ lkRX10_123 imX10_stepMany seX10_stepMany rfl rfl (by omega) (by omega) hM0 rfl (Nat.le_of_ble_eq_true rfl) (Nat.zero_le _) (Nat.zero_le _) (c_mSteps _ _ _ _ ⟨by omega, by omega⟩ ⟨hM0, hM1, hM2, hM3, hM4, hM5, hM6, hM7, hM8, hM9, hM10, hM11, hM12, hM13, hM14, hM15, hM16, by omega, by omega⟩ hv) (fun r h' hq => ?_)
  obtain ⟨rfl, hq⟩ := hq
  have hq := hq.symm
  subst hq
  have st_8 := sm_steps_b hv 1
  refine xa_imul (pc := 11) dX10_poseOf_11 ?_
  refine xa_idivn (pc := 12) dX10_poseOf_12 ⟨by omega, by omega⟩ ⟨by omega, by omega⟩ (by omega) (by omega) ?_
  have q1 := sm_div (x := sh) (y := (sm_steps F 0 * sm_steps F 1)) hsh.1 (by omega)
  refine xa_iload_n (pc := 13) dX10_poseOf_13 rfl ?_
  refine xa_callS (pc := 14) (as := [xa_i q]) (rest := [xa_i (sh / ((sm_steps F 0) * (sm_steps F 1)))]) dX10_poseOf_14 ⟨qX10_threes.1, qX10_threes.2.1, qX10_threes.2.2, by decide, by decide⟩ lkRX10_126 smX10_threes rfl rfl (Nat.le_of_ble_eq_true rfl) (Nat.zero_le _) (Nat.zero_le _) (c_threes _ ⟨by omega, by omega⟩) (fun r h' hq => ?_)
  obtain ⟨rfl, hq⟩ := hq
  have hq := hq.symm
  subst hq
  have t3 := sm_three_b q
  refine xa_idivn (pc := 17) dX10_poseOf_17 ⟨by omega, by omega⟩ ⟨by omega, by omega⟩ (by omega) (by omega) ?_
  have q2 := sm_div (x := sh / (sm_steps F 0 * sm_steps F 1)) (y := sm_three q) q1.1 (by omega)
  refine xa_iconst (pc := 18) dX10_poseOf_18 ?_
  refine xa_iremn (pc := 19) dX10_poseOf_19 ⟨by omega, by omega⟩ (by decide) (by omega) (by omega) ?_
  refine xa_ireturn (pc := 20) dX10_poseOf_20 rfl trivial ?_
  exact ⟨congrArg (fun z => some (xa_i z)) (show ((sh / ((sm_steps F 0) * (sm_steps F 1))) / (sm_three q)) % 3 = sm_pose F sh q by rfl), rfl⟩
theorem c_mAt {G : xa_G} {h : xa_H} (k : Nat) (F : Nat → Nat → Int) (s : Nat → Int) (sh : Int) (hsh : 0 ≤ sh ∧ sh ≤ 4000000) (j : Int) (hj : xa_ok j) (hM : xM h k F s) (hv : xMv F)  : xa_M G mX10_stepAt [xa_r k, xa_i sh, xa_i j] h 0 0 (fun r h' => r = some (xa_i (sm_at F sh j)) ∧ h' = h) := by
  refine xa_enter (by decide +kernel) (Nat.le_of_ble_eq_true rfl) ?_
  refine xa_locals (ls' := [some (xa_r k), some (xa_i sh), some (xa_i j)]) rfl ?_
  obtain ⟨hM0, hM1, hM2, hM3, hM4, hM5, hM6, hM7, hM8, hM9, hM10, hM11, hM12, hM13, hM14, hM15, hM16, hMk, hMn⟩ := hM
  obtain ⟨v1, v2, v3, v4, v5⟩ := id hv
  have sa := sm_steps_b hv 0
  have sb := sm_steps_b hv 1
  have ab := sm_ab sa sb
  refine xa_iload_n (pc := 0) dX10_stepAt_0 rfl ?_
  refine xa_if_ne (pc := 1) (tgt := 20) dX10_stepAt_1 (by decide) ⟨by omega, by omega⟩ (fun c_1 => ?_) (fun c_1 => ?_)
  · skip
    refine xa_iload_n (pc := 20) dX10_stepAt_20 rfl ?_
    refine xa_aload_n (pc := 21) dX10_stepAt_21 rfl ?_
    refine xa_iconst (pc := 22) dX10_stepAt_22 ?_
    refine xa_callV (pc := 23) (as := [xa_i 1]) (rest := [xa_i sh]) dX10_stepAt_23 ⟨qX10_stepMany.1, qX10_stepMany.2.1, qX10_stepMany.2.2, by decide, by decide⟩ lkRX10_123 imX10_stepMany seX10_stepMany rfl rfl (by omega) (by omega) hM0 rfl (Nat.le_of_ble_eq_true rfl) (Nat.zero_le _) (Nat.zero_le _) (c_mSteps _ _ _ _ ⟨by omega, by omega⟩ ⟨hM0, hM1, hM2, hM3, hM4, hM5, hM6, hM7, hM8, hM9, hM10, hM11, hM12, hM13, hM14, hM15, hM16, by omega, by omega⟩ hv) (fun r h' hq => ?_)
    obtain ⟨rfl, hq⟩ := hq
    have hq := hq.symm
    subst hq
    have st_23 := sm_steps_b hv 1
    refine xa_iremn (pc := 26) dX10_stepAt_26 ⟨by omega, by omega⟩ ⟨by omega, by omega⟩ (by omega) (by omega) ?_
    refine xa_ireturn (pc := 27) dX10_stepAt_27 rfl trivial ?_
    exact ⟨congrArg (fun z => some (xa_i z)) (show sh % (sm_steps F 1) = sm_at F sh j by (unfold sm_at; first | (rw [if_pos (by omega)]; done) | (rw [if_neg (by omega)]; done))), rfl⟩
  · skip
    refine xa_iload_n (pc := 4) dX10_stepAt_4 rfl ?_
    refine xa_aload_n (pc := 5) dX10_stepAt_5 rfl ?_
    refine xa_iconst (pc := 6) dX10_stepAt_6 ?_
    refine xa_callV (pc := 7) (as := [xa_i 1]) (rest := [xa_i sh]) dX10_stepAt_7 ⟨qX10_stepMany.1, qX10_stepMany.2.1, qX10_stepMany.2.2, by decide, by decide⟩ lkRX10_123 imX10_stepMany seX10_stepMany rfl rfl (by omega) (by omega) hM0 rfl (Nat.le_of_ble_eq_true rfl) (Nat.zero_le _) (Nat.zero_le _) (c_mSteps _ _ _ _ ⟨by omega, by omega⟩ ⟨hM0, hM1, hM2, hM3, hM4, hM5, hM6, hM7, hM8, hM9, hM10, hM11, hM12, hM13, hM14, hM15, hM16, by omega, by omega⟩ hv) (fun r h' hq => ?_)
    obtain ⟨rfl, hq⟩ := hq
    have hq := hq.symm
    subst hq
    have st_7 := sm_steps_b hv 1
    refine xa_idivn (pc := 10) dX10_stepAt_10 ⟨by omega, by omega⟩ ⟨by omega, by omega⟩ (by omega) (by omega) ?_
    have q1 := sm_div (x := sh) (y := sm_steps F 1) hsh.1 (by omega)
    refine xa_aload_n (pc := 11) dX10_stepAt_11 rfl ?_
    refine xa_iconst (pc := 12) dX10_stepAt_12 ?_
    refine xa_callV (pc := 13) (as := [xa_i 0]) (rest := [xa_i (sh / (sm_steps F 1))]) dX10_stepAt_13 ⟨qX10_stepMany.1, qX10_stepMany.2.1, qX10_stepMany.2.2, by decide, by decide⟩ lkRX10_123 imX10_stepMany seX10_stepMany rfl rfl (by omega) (by omega) hM0 rfl (Nat.le_of_ble_eq_true rfl) (Nat.zero_le _) (Nat.zero_le _) (c_mSteps _ _ _ _ ⟨by omega, by omega⟩ ⟨hM0, hM1, hM2, hM3, hM4, hM5, hM6, hM7, hM8, hM9, hM10, hM11, hM12, hM13, hM14, hM15, hM16, by omega, by omega⟩ hv) (fun r h' hq => ?_)
    obtain ⟨rfl, hq⟩ := hq
    have hq := hq.symm
    subst hq
    have st_13 := sm_steps_b hv 0
    refine xa_iremn (pc := 16) dX10_stepAt_16 ⟨by omega, by omega⟩ ⟨by omega, by omega⟩ (by omega) (by omega) ?_
    refine xa_goto (pc := 17) (tgt := 27) dX10_stepAt_17 (by decide) ?_
    refine xa_ireturn (pc := 27) dX10_stepAt_27 rfl trivial ?_
    exact ⟨congrArg (fun z => some (xa_i z)) (show (sh / (sm_steps F 1)) % (sm_steps F 0) = sm_at F sh j by (unfold sm_at; first | (rw [if_pos (by omega)]; done) | (rw [if_neg (by omega)]; done))), rfl⟩
theorem c_mRest {G : xa_G} {h : xa_H} (k : Nat) (F : Nat → Nat → Int) (s : Nat → Int) (hM : xM h k F s) (hv : xMv F)  : xa_M G mX10_rest [xa_r k] h 0 0 (fun r h' => r = some (xa_i (sm_rest F)) ∧ h' = h) := by
  refine xa_enter (by decide +kernel) (Nat.le_of_ble_eq_true rfl) ?_
  refine xa_locals (ls' := [some (xa_r k), none]) rfl ?_
  obtain ⟨hM0, hM1, hM2, hM3, hM4, hM5, hM6, hM7, hM8, hM9, hM10, hM11, hM12, hM13, hM14, hM15, hM16, hMk, hMn⟩ := hM
  obtain ⟨v1, v2, v3, v4, v5⟩ := id hv
  have sa := sm_steps_b hv 0
  have sb := sm_steps_b hv 1
  have ab := sm_ab sa sb
  refine xa_aload_n (pc := 0) dX10_rest_0 rfl ?_
  refine xa_getfield (pc := 1) dX10_rest_1 flRX10_13 (by omega) (by omega) hM0 rfl ?_
  refine xa_iconst (pc := 4) dX10_rest_4 ?_
  refine xa_ialdw (pc := 5) 0 dX10_rest_5 (by omega) hM2 (by omega) (by omega) rfl ?_
  refine xa_iconst (pc := 6) dX10_rest_6 ?_
  refine xa_icmp_ne (pc := 7) (tgt := 14) dX10_rest_7 (by decide) ⟨by omega, by omega⟩ (by decide) (fun c_7 => ?_) (fun c_7 => ?_)
  · skip
    refine xa_bipush (pc := 14) dX10_rest_14 rfl ?_
    refine xa_istoren (pc := 16) [some (xa_r k), some (xa_i 13)] dX10_rest_16 (by decide) (Nat.le_of_ble_eq_true rfl) rfl rfl ?_
    refine xa_iload_n (pc := 17) dX10_rest_17 rfl ?_
    refine xa_aload_n (pc := 18) dX10_rest_18 rfl ?_
    refine xa_iconst (pc := 19) dX10_rest_19 ?_
    refine xa_callV (pc := 20) (as := [xa_i 0]) (rest := [xa_i 13]) dX10_rest_20 ⟨qX10_stepMany.1, qX10_stepMany.2.1, qX10_stepMany.2.2, by decide, by decide⟩ lkRX10_123 imX10_stepMany seX10_stepMany rfl rfl (by omega) (by omega) hM0 rfl (Nat.le_of_ble_eq_true rfl) (Nat.zero_le _) (Nat.zero_le _) (c_mSteps _ _ _ _ ⟨by omega, by omega⟩ ⟨hM0, hM1, hM2, hM3, hM4, hM5, hM6, hM7, hM8, hM9, hM10, hM11, hM12, hM13, hM14, hM15, hM16, by omega, by omega⟩ hv) (fun r h' hq => ?_)
    obtain ⟨rfl, hq⟩ := hq
    have hq := hq.symm
    subst hq
    have st_20 := sm_steps_b hv 0
    refine xa_imul (pc := 23) dX10_rest_23 ?_
    refine xa_aload_n (pc := 24) dX10_rest_24 rfl ?_
    refine xa_iconst (pc := 25) dX10_rest_25 ?_
    refine xa_callV (pc := 26) (as := [xa_i 0]) (rest := [xa_i (13 * (sm_steps F 0))]) dX10_rest_26 ⟨qX10_straightAt.1, qX10_straightAt.2.1, qX10_straightAt.2.2, by decide, by decide⟩ lkRX10_129 imX10_straightAt seX10_straightAt rfl rfl (by omega) (by omega) hM0 rfl (Nat.le_of_ble_eq_true rfl) (Nat.zero_le _) (Nat.zero_le _) (c_mZero _ _ _ _ ⟨by omega, by omega⟩ ⟨hM0, hM1, hM2, hM3, hM4, hM5, hM6, hM7, hM8, hM9, hM10, hM11, hM12, hM13, hM14, hM15, hM16, by omega, by omega⟩ hv) (fun r h' hq => ?_)
    obtain ⟨rfl, hq⟩ := hq
    have hq := hq.symm
    subst hq
    have zz_26 := sm_zero_b F 0
    refine xa_iadd (pc := 29) dX10_rest_29 ?_
    refine xa_aload_n (pc := 30) dX10_rest_30 rfl ?_
    refine xa_iconst (pc := 31) dX10_rest_31 ?_
    refine xa_callV (pc := 32) (as := [xa_i 1]) (rest := [xa_i ((13 * (sm_steps F 0)) + (sm_zero F 0))]) dX10_rest_32 ⟨qX10_stepMany.1, qX10_stepMany.2.1, qX10_stepMany.2.2, by decide, by decide⟩ lkRX10_123 imX10_stepMany seX10_stepMany rfl rfl (by omega) (by omega) hM0 rfl (Nat.le_of_ble_eq_true rfl) (Nat.zero_le _) (Nat.zero_le _) (c_mSteps _ _ _ _ ⟨by omega, by omega⟩ ⟨hM0, hM1, hM2, hM3, hM4, hM5, hM6, hM7, hM8, hM9, hM10, hM11, hM12, hM13, hM14, hM15, hM16, by omega, by omega⟩ hv) (fun r h' hq => ?_)
    obtain ⟨rfl, hq⟩ := hq
    have hq := hq.symm
    subst hq
    have st_32 := sm_steps_b hv 1
    refine xa_imul (pc := 35) dX10_rest_35 ?_
    refine xa_aload_n (pc := 36) dX10_rest_36 rfl ?_
    refine xa_iconst (pc := 37) dX10_rest_37 ?_
    refine xa_callV (pc := 38) (as := [xa_i 1]) (rest := [xa_i (((13 * (sm_steps F 0)) + (sm_zero F 0)) * (sm_steps F 1))]) dX10_rest_38 ⟨qX10_straightAt.1, qX10_straightAt.2.1, qX10_straightAt.2.2, by decide, by decide⟩ lkRX10_129 imX10_straightAt seX10_straightAt rfl rfl (by omega) (by omega) hM0 rfl (Nat.le_of_ble_eq_true rfl) (Nat.zero_le _) (Nat.zero_le _) (c_mZero _ _ _ _ ⟨by omega, by omega⟩ ⟨hM0, hM1, hM2, hM3, hM4, hM5, hM6, hM7, hM8, hM9, hM10, hM11, hM12, hM13, hM14, hM15, hM16, by omega, by omega⟩ hv) (fun r h' hq => ?_)
    obtain ⟨rfl, hq⟩ := hq
    have hq := hq.symm
    subst hq
    have zz_38 := sm_zero_b F 1
    refine xa_iadd (pc := 41) dX10_rest_41 ?_
    refine xa_ireturn (pc := 42) dX10_rest_42 rfl trivial ?_
    exact ⟨congrArg (fun z => some (xa_i z)) (show (((13 * (sm_steps F 0)) + (sm_zero F 0)) * (sm_steps F 1)) + (sm_zero F 1) = sm_rest F by (unfold sm_rest; first | (rw [if_pos (by omega)]; done) | (rw [if_neg (by omega)]; done))), rfl⟩
  · skip
    refine xa_iconst (pc := 10) dX10_rest_10 ?_
    refine xa_goto (pc := 11) (tgt := 16) dX10_rest_11 (by decide) ?_
    refine xa_istoren (pc := 16) [some (xa_r k), some (xa_i 4)] dX10_rest_16 (by decide) (Nat.le_of_ble_eq_true rfl) rfl rfl ?_
    refine xa_iload_n (pc := 17) dX10_rest_17 rfl ?_
    refine xa_aload_n (pc := 18) dX10_rest_18 rfl ?_
    refine xa_iconst (pc := 19) dX10_rest_19 ?_
    refine xa_callV (pc := 20) (as := [xa_i 0]) (rest := [xa_i 4]) dX10_rest_20 ⟨qX10_stepMany.1, qX10_stepMany.2.1, qX10_stepMany.2.2, by decide, by decide⟩ lkRX10_123 imX10_stepMany seX10_stepMany rfl rfl (by omega) (by omega) hM0 rfl (Nat.le_of_ble_eq_true rfl) (Nat.zero_le _) (Nat.zero_le _) (c_mSteps _ _ _ _ ⟨by omega, by omega⟩ ⟨hM0, hM1, hM2, hM3, hM4, hM5, hM6, hM7, hM8, hM9, hM10, hM11, hM12, hM13, hM14, hM15, hM16, by omega, by omega⟩ hv) (fun r h' hq => ?_)
    obtain ⟨rfl, hq⟩ := hq
    have hq := hq.symm
    subst hq
    have st_20 := sm_steps_b hv 0
    refine xa_imul (pc := 23) dX10_rest_23 ?_
    refine xa_aload_n (pc := 24) dX10_rest_24 rfl ?_
    refine xa_iconst (pc := 25) dX10_rest_25 ?_
    refine xa_callV (pc := 26) (as := [xa_i 0]) (rest := [xa_i (4 * (sm_steps F 0))]) dX10_rest_26 ⟨qX10_straightAt.1, qX10_straightAt.2.1, qX10_straightAt.2.2, by decide, by decide⟩ lkRX10_129 imX10_straightAt seX10_straightAt rfl rfl (by omega) (by omega) hM0 rfl (Nat.le_of_ble_eq_true rfl) (Nat.zero_le _) (Nat.zero_le _) (c_mZero _ _ _ _ ⟨by omega, by omega⟩ ⟨hM0, hM1, hM2, hM3, hM4, hM5, hM6, hM7, hM8, hM9, hM10, hM11, hM12, hM13, hM14, hM15, hM16, by omega, by omega⟩ hv) (fun r h' hq => ?_)
    obtain ⟨rfl, hq⟩ := hq
    have hq := hq.symm
    subst hq
    have zz_26 := sm_zero_b F 0
    refine xa_iadd (pc := 29) dX10_rest_29 ?_
    refine xa_aload_n (pc := 30) dX10_rest_30 rfl ?_
    refine xa_iconst (pc := 31) dX10_rest_31 ?_
    refine xa_callV (pc := 32) (as := [xa_i 1]) (rest := [xa_i ((4 * (sm_steps F 0)) + (sm_zero F 0))]) dX10_rest_32 ⟨qX10_stepMany.1, qX10_stepMany.2.1, qX10_stepMany.2.2, by decide, by decide⟩ lkRX10_123 imX10_stepMany seX10_stepMany rfl rfl (by omega) (by omega) hM0 rfl (Nat.le_of_ble_eq_true rfl) (Nat.zero_le _) (Nat.zero_le _) (c_mSteps _ _ _ _ ⟨by omega, by omega⟩ ⟨hM0, hM1, hM2, hM3, hM4, hM5, hM6, hM7, hM8, hM9, hM10, hM11, hM12, hM13, hM14, hM15, hM16, by omega, by omega⟩ hv) (fun r h' hq => ?_)
    obtain ⟨rfl, hq⟩ := hq
    have hq := hq.symm
    subst hq
    have st_32 := sm_steps_b hv 1
    refine xa_imul (pc := 35) dX10_rest_35 ?_
    refine xa_aload_n (pc := 36) dX10_rest_36 rfl ?_
    refine xa_iconst (pc := 37) dX10_rest_37 ?_
    refine xa_callV (pc := 38) (as := [xa_i 1]) (rest := [xa_i (((4 * (sm_steps F 0)) + (sm_zero F 0)) * (sm_steps F 1))]) dX10_rest_38 ⟨qX10_straightAt.1, qX10_straightAt.2.1, qX10_straightAt.2.2, by decide, by decide⟩ lkRX10_129 imX10_straightAt seX10_straightAt rfl rfl (by omega) (by omega) hM0 rfl (Nat.le_of_ble_eq_true rfl) (Nat.zero_le _) (Nat.zero_le _) (c_mZero _ _ _ _ ⟨by omega, by omega⟩ ⟨hM0, hM1, hM2, hM3, hM4, hM5, hM6, hM7, hM8, hM9, hM10, hM11, hM12, hM13, hM14, hM15, hM16, by omega, by omega⟩ hv) (fun r h' hq => ?_)
    obtain ⟨rfl, hq⟩ := hq
    have hq := hq.symm
    subst hq
    have zz_38 := sm_zero_b F 1
    refine xa_iadd (pc := 41) dX10_rest_41 ?_
    refine xa_ireturn (pc := 42) dX10_rest_42 rfl trivial ?_
    exact ⟨congrArg (fun z => some (xa_i z)) (show (((4 * (sm_steps F 0)) + (sm_zero F 0)) * (sm_steps F 1)) + (sm_zero F 1) = sm_rest F by (unfold sm_rest; first | (rw [if_pos (by omega)]; done) | (rw [if_neg (by omega)]; done))), rfl⟩
theorem c_mStraight {G : xa_G} {h : xa_H} (k : Nat) (F : Nat → Nat → Int) (s : Nat → Int) (sh : Int) (hsh : 0 ≤ sh ∧ sh ≤ 4000000) (hM : xM h k F s) (hv : xMv F)  : xa_M G mX10_isStraight [xa_r k, xa_i sh] h 0 0 (fun r h' => r = some (xa_i (xa_b (sm_at F sh 0 = sm_zero F 0 ∧ sm_at F sh 1 = sm_zero F 1))) ∧ h' = h) := by
  refine xa_enter (by decide +kernel) (Nat.le_of_ble_eq_true rfl) ?_
  refine xa_locals (ls' := [some (xa_r k), some (xa_i sh)]) rfl ?_
  obtain ⟨hM0, hM1, hM2, hM3, hM4, hM5, hM6, hM7, hM8, hM9, hM10, hM11, hM12, hM13, hM14, hM15, hM16, hMk, hMn⟩ := hM
  obtain ⟨v1, v2, v3, v4, v5⟩ := id hv
  have sa := sm_steps_b hv 0
  have sb := sm_steps_b hv 1
  have ab := sm_ab sa sb
  refine xa_aload_n (pc := 0) dX10_isStraight_0 rfl ?_
  refine xa_iload_n (pc := 1) dX10_isStraight_1 rfl ?_
  refine xa_iconst (pc := 2) dX10_isStraight_2 ?_
  refine xa_callV (pc := 3) (as := [xa_i sh, xa_i 0]) (rest := []) dX10_isStraight_3 ⟨qX10_stepAt.1, qX10_stepAt.2.1, qX10_stepAt.2.2, by decide, by decide⟩ lkRX10_132 imX10_stepAt seX10_stepAt rfl rfl (by omega) (by omega) hM0 rfl (Nat.le_of_ble_eq_true rfl) (Nat.zero_le _) (Nat.zero_le _) (c_mAt _ _ _ _ (by omega) _ ⟨by omega, by omega⟩ ⟨hM0, hM1, hM2, hM3, hM4, hM5, hM6, hM7, hM8, hM9, hM10, hM11, hM12, hM13, hM14, hM15, hM16, by omega, by omega⟩ hv) (fun r h' hq => ?_)
  obtain ⟨rfl, hq⟩ := hq
  have hq := hq.symm
  subst hq
  have at_3 := sm_at_b hv sh 0
  refine xa_aload_n (pc := 6) dX10_isStraight_6 rfl ?_
  refine xa_iconst (pc := 7) dX10_isStraight_7 ?_
  refine xa_callV (pc := 8) (as := [xa_i 0]) (rest := [xa_i (sm_at F sh 0)]) dX10_isStraight_8 ⟨qX10_straightAt.1, qX10_straightAt.2.1, qX10_straightAt.2.2, by decide, by decide⟩ lkRX10_129 imX10_straightAt seX10_straightAt rfl rfl (by omega) (by omega) hM0 rfl (Nat.le_of_ble_eq_true rfl) (Nat.zero_le _) (Nat.zero_le _) (c_mZero _ _ _ _ ⟨by omega, by omega⟩ ⟨hM0, hM1, hM2, hM3, hM4, hM5, hM6, hM7, hM8, hM9, hM10, hM11, hM12, hM13, hM14, hM15, hM16, by omega, by omega⟩ hv) (fun r h' hq => ?_)
  obtain ⟨rfl, hq⟩ := hq
  have hq := hq.symm
  subst hq
  have zz_8 := sm_zero_b F 0
  refine xa_icmp_ne (pc := 11) (tgt := 32) dX10_isStraight_11 (by decide) ⟨by omega, by omega⟩ ⟨by omega, by omega⟩ (fun c_11 => ?_) (fun c_11 => ?_)
  · skip
    refine xa_iconst (pc := 32) dX10_isStraight_32 ?_
    refine xa_ireturn (pc := 33) dX10_isStraight_33 rfl (Or.inl rfl) ?_
    exact ⟨congrArg (fun z => some (xa_i z)) (xa_bf (by omega)), rfl⟩
  · skip
    refine xa_aload_n (pc := 14) dX10_isStraight_14 rfl ?_
    refine xa_iload_n (pc := 15) dX10_isStraight_15 rfl ?_
    refine xa_iconst (pc := 16) dX10_isStraight_16 ?_
    refine xa_callV (pc := 17) (as := [xa_i sh, xa_i 1]) (rest := []) dX10_isStraight_17 ⟨qX10_stepAt.1, qX10_stepAt.2.1, qX10_stepAt.2.2, by decide, by decide⟩ lkRX10_132 imX10_stepAt seX10_stepAt rfl rfl (by omega) (by omega) hM0 rfl (Nat.le_of_ble_eq_true rfl) (Nat.zero_le _) (Nat.zero_le _) (c_mAt _ _ _ _ (by omega) _ ⟨by omega, by omega⟩ ⟨hM0, hM1, hM2, hM3, hM4, hM5, hM6, hM7, hM8, hM9, hM10, hM11, hM12, hM13, hM14, hM15, hM16, by omega, by omega⟩ hv) (fun r h' hq => ?_)
    obtain ⟨rfl, hq⟩ := hq
    have hq := hq.symm
    subst hq
    have at_17 := sm_at_b hv sh 1
    refine xa_aload_n (pc := 20) dX10_isStraight_20 rfl ?_
    refine xa_iconst (pc := 21) dX10_isStraight_21 ?_
    refine xa_callV (pc := 22) (as := [xa_i 1]) (rest := [xa_i (sm_at F sh 1)]) dX10_isStraight_22 ⟨qX10_straightAt.1, qX10_straightAt.2.1, qX10_straightAt.2.2, by decide, by decide⟩ lkRX10_129 imX10_straightAt seX10_straightAt rfl rfl (by omega) (by omega) hM0 rfl (Nat.le_of_ble_eq_true rfl) (Nat.zero_le _) (Nat.zero_le _) (c_mZero _ _ _ _ ⟨by omega, by omega⟩ ⟨hM0, hM1, hM2, hM3, hM4, hM5, hM6, hM7, hM8, hM9, hM10, hM11, hM12, hM13, hM14, hM15, hM16, by omega, by omega⟩ hv) (fun r h' hq => ?_)
    obtain ⟨rfl, hq⟩ := hq
    have hq := hq.symm
    subst hq
    have zz_22 := sm_zero_b F 1
    refine xa_icmp_ne (pc := 25) (tgt := 32) dX10_isStraight_25 (by decide) ⟨by omega, by omega⟩ ⟨by omega, by omega⟩ (fun c_25 => ?_) (fun c_25 => ?_)
    · skip
      refine xa_iconst (pc := 32) dX10_isStraight_32 ?_
      refine xa_ireturn (pc := 33) dX10_isStraight_33 rfl (Or.inl rfl) ?_
      exact ⟨congrArg (fun z => some (xa_i z)) (xa_bf (by omega)), rfl⟩
    · skip
      refine xa_iconst (pc := 28) dX10_isStraight_28 ?_
      refine xa_goto (pc := 29) (tgt := 33) dX10_isStraight_29 (by decide) ?_
      refine xa_ireturn (pc := 33) dX10_isStraight_33 rfl (Or.inr rfl) ?_
      exact ⟨congrArg (fun z => some (xa_i z)) (xa_bt (by omega)), rfl⟩
theorem c_mFrom0 {G : xa_G} {h : xa_H} (k : Nat) (F : Nat → Nat → Int) (s : Nat → Int) (sh : Int) (hsh : 0 ≤ sh ∧ sh ≤ 4000000) (hM : xM h k F s) (hv : xMv F)  : xa_M G mX10_loadsFrom [xa_r k, xa_i sh, xa_i 0] h 0 0 (fun r h' => r = some (xa_i (sm_from F sh 0)) ∧ h' = h) := by
  refine xa_enter (by decide +kernel) (Nat.le_of_ble_eq_true rfl) ?_
  refine xa_locals (ls' := [some (xa_r k), some (xa_i sh), some (xa_i 0), none, none]) rfl ?_
  obtain ⟨hM0, hM1, hM2, hM3, hM4, hM5, hM6, hM7, hM8, hM9, hM10, hM11, hM12, hM13, hM14, hM15, hM16, hMk, hMn⟩ := hM
  obtain ⟨v1, v2, v3, v4, v5⟩ := id hv
  have sa := sm_steps_b hv 0
  have sb := sm_steps_b hv 1
  have ab := sm_ab sa sb
  refine xa_iconst (pc := 0) dX10_loadsFrom_0 ?_
  refine xa_istoren (pc := 1) [some (xa_r k), some (xa_i sh), some (xa_i 0), some (xa_i 0), none] dX10_loadsFrom_1 (by decide) (Nat.le_of_ble_eq_true rfl) rfl rfl ?_
  refine xa_iload_n (pc := 2) dX10_loadsFrom_2 rfl ?_
  refine xa_istorew (pc := 3) [some (xa_r k), some (xa_i sh), some (xa_i 0), some (xa_i 0), some (xa_i 0)] dX10_loadsFrom_3 (by decide) (Nat.le_of_ble_eq_true rfl) rfl rfl ?_
  refine xa_iload (pc := 5) dX10_loadsFrom_5 rfl ?_
  refine xa_aload_n (pc := 7) dX10_loadsFrom_7 rfl ?_
  refine xa_getfield (pc := 8) dX10_loadsFrom_8 flRX10_13 (by omega) (by omega) hM0 rfl ?_
  refine xa_iconst (pc := 11) dX10_loadsFrom_11 ?_
  refine xa_ialdw (pc := 12) 0 dX10_loadsFrom_12 (by omega) hM2 (by omega) (by omega) rfl ?_
  refine xa_icmp_ge (pc := 13) (tgt := 42) dX10_loadsFrom_13 (by decide) (by decide) ⟨by omega, by omega⟩ (fun c_13 => ?_) (fun c_13 => ?_)
  · skip
    refine xa_iload_n (pc := 42) dX10_loadsFrom_42 rfl ?_
    refine xa_ireturn (pc := 43) dX10_loadsFrom_43 rfl trivial ?_
    exact ⟨congrArg (fun z => some (xa_i z)) (show 0 = sm_from F sh 0 by unfold sm_from sm_ld; (repeat' split) <;> omega), rfl⟩
  · skip
    refine xa_iload_n (pc := 16) dX10_loadsFrom_16 rfl ?_
    refine xa_aload_n (pc := 17) dX10_loadsFrom_17 rfl ?_
    refine xa_getfield (pc := 18) dX10_loadsFrom_18 flRX10_16 (by omega) (by omega) hM0 rfl ?_
    refine xa_iconst (pc := 21) dX10_loadsFrom_21 ?_
    refine xa_iload (pc := 22) dX10_loadsFrom_22 rfl ?_
    refine xa_imul (pc := 24) dX10_loadsFrom_24 ?_
    refine xa_aload_n (pc := 25) dX10_loadsFrom_25 rfl ?_
    refine xa_iload_n (pc := 26) dX10_loadsFrom_26 rfl ?_
    refine xa_iload (pc := 27) dX10_loadsFrom_27 rfl ?_
    refine xa_callV (pc := 29) (as := [xa_i sh, xa_i 0]) (rest := [xa_i (3 * 0), xa_r (k + 3), xa_i 0]) dX10_loadsFrom_29 ⟨qX10_poseOf.1, qX10_poseOf.2.1, qX10_poseOf.2.2, by decide, by decide⟩ lkRX10_136 imX10_poseOf seX10_poseOf rfl rfl (by omega) (by omega) hM0 rfl (Nat.le_of_ble_eq_true rfl) (Nat.zero_le _) (Nat.zero_le _) (c_mPose _ _ _ _ (by omega) _ ⟨by omega, by omega⟩ ⟨hM0, hM1, hM2, hM3, hM4, hM5, hM6, hM7, hM8, hM9, hM10, hM11, hM12, hM13, hM14, hM15, hM16, by omega, by omega⟩ hv) (fun r h' hq => ?_)
    obtain ⟨rfl, hq⟩ := hq
    have hq := hq.symm
    subst hq
    have po_29 := sm_pose_b F sh 0
    refine xa_iadd (pc := 32) dX10_loadsFrom_32 ?_
    refine xa_ialdw (pc := 33) (((3 * 0) + (sm_pose F sh 0)).toNat) dX10_loadsFrom_33 (by omega) hM3 (by omega) (by omega) rfl ?_
    refine xa_iadd (pc := 34) dX10_loadsFrom_34 ?_
    refine xa_istoren (pc := 35) [some (xa_r k), some (xa_i sh), some (xa_i 0), some (xa_i (0 + ((F 3) (((3 * 0) + (sm_pose F sh 0)).toNat)))), some (xa_i 0)] dX10_loadsFrom_35 (by decide) (Nat.le_of_ble_eq_true rfl) rfl rfl ?_
    refine xa_iincw (pc := 36) (y := 1) [some (xa_r k), some (xa_i sh), some (xa_i 0), some (xa_i (0 + ((F 3) (((3 * 0) + (sm_pose F sh 0)).toNat)))), some (xa_i 1)] dX10_loadsFrom_36 (by decide) rfl rfl rfl rfl ?_
    refine xa_goto (pc := 39) (tgt := 5) dX10_loadsFrom_39 (by decide) ?_
    refine xa_iload (pc := 5) dX10_loadsFrom_5 rfl ?_
    refine xa_aload_n (pc := 7) dX10_loadsFrom_7 rfl ?_
    refine xa_getfield (pc := 8) dX10_loadsFrom_8 flRX10_13 (by omega) (by omega) hM0 rfl ?_
    refine xa_iconst (pc := 11) dX10_loadsFrom_11 ?_
    refine xa_ialdw (pc := 12) 0 dX10_loadsFrom_12 (by omega) hM2 (by omega) (by omega) rfl ?_
    refine xa_icmp_ge (pc := 13) (tgt := 42) dX10_loadsFrom_13 (by decide) (by decide) ⟨by omega, by omega⟩ (fun c_13 => ?_) (fun c_13 => ?_)
    · skip
      refine xa_iload_n (pc := 42) dX10_loadsFrom_42 rfl ?_
      refine xa_ireturn (pc := 43) dX10_loadsFrom_43 rfl trivial ?_
      exact ⟨congrArg (fun z => some (xa_i z)) (show 0 + ((F 3) (((3 * 0) + (sm_pose F sh 0)).toNat)) = sm_from F sh 0 by unfold sm_from sm_ld; (repeat' split) <;> omega), rfl⟩
    · skip
      refine xa_iload_n (pc := 16) dX10_loadsFrom_16 rfl ?_
      refine xa_aload_n (pc := 17) dX10_loadsFrom_17 rfl ?_
      refine xa_getfield (pc := 18) dX10_loadsFrom_18 flRX10_16 (by omega) (by omega) hM0 rfl ?_
      refine xa_iconst (pc := 21) dX10_loadsFrom_21 ?_
      refine xa_iload (pc := 22) dX10_loadsFrom_22 rfl ?_
      refine xa_imul (pc := 24) dX10_loadsFrom_24 ?_
      refine xa_aload_n (pc := 25) dX10_loadsFrom_25 rfl ?_
      refine xa_iload_n (pc := 26) dX10_loadsFrom_26 rfl ?_
      refine xa_iload (pc := 27) dX10_loadsFrom_27 rfl ?_
      refine xa_callV (pc := 29) (as := [xa_i sh, xa_i 1]) (rest := [xa_i (3 * 1), xa_r (k + 3), xa_i (0 + ((F 3) (((3 * 0) + (sm_pose F sh 0)).toNat)))]) dX10_loadsFrom_29 ⟨qX10_poseOf.1, qX10_poseOf.2.1, qX10_poseOf.2.2, by decide, by decide⟩ lkRX10_136 imX10_poseOf seX10_poseOf rfl rfl (by omega) (by omega) hM0 rfl (Nat.le_of_ble_eq_true rfl) (Nat.zero_le _) (Nat.zero_le _) (c_mPose _ _ _ _ (by omega) _ ⟨by omega, by omega⟩ ⟨hM0, hM1, hM2, hM3, hM4, hM5, hM6, hM7, hM8, hM9, hM10, hM11, hM12, hM13, hM14, hM15, hM16, by omega, by omega⟩ hv) (fun r h' hq => ?_)
      obtain ⟨rfl, hq⟩ := hq
      have hq := hq.symm
      subst hq
      have po_29 := sm_pose_b F sh 1
      refine xa_iadd (pc := 32) dX10_loadsFrom_32 ?_
      refine xa_ialdw (pc := 33) (((3 * 1) + (sm_pose F sh 1)).toNat) dX10_loadsFrom_33 (by omega) hM3 (by omega) (by omega) rfl ?_
      refine xa_iadd (pc := 34) dX10_loadsFrom_34 ?_
      refine xa_istoren (pc := 35) [some (xa_r k), some (xa_i sh), some (xa_i 0), some (xa_i ((0 + ((F 3) (((3 * 0) + (sm_pose F sh 0)).toNat))) + ((F 3) (((3 * 1) + (sm_pose F sh 1)).toNat)))), some (xa_i 1)] dX10_loadsFrom_35 (by decide) (Nat.le_of_ble_eq_true rfl) rfl rfl ?_
      refine xa_iincw (pc := 36) (y := 2) [some (xa_r k), some (xa_i sh), some (xa_i 0), some (xa_i ((0 + ((F 3) (((3 * 0) + (sm_pose F sh 0)).toNat))) + ((F 3) (((3 * 1) + (sm_pose F sh 1)).toNat)))), some (xa_i 2)] dX10_loadsFrom_36 (by decide) rfl rfl rfl rfl ?_
      refine xa_goto (pc := 39) (tgt := 5) dX10_loadsFrom_39 (by decide) ?_
      refine xa_iload (pc := 5) dX10_loadsFrom_5 rfl ?_
      refine xa_aload_n (pc := 7) dX10_loadsFrom_7 rfl ?_
      refine xa_getfield (pc := 8) dX10_loadsFrom_8 flRX10_13 (by omega) (by omega) hM0 rfl ?_
      refine xa_iconst (pc := 11) dX10_loadsFrom_11 ?_
      refine xa_ialdw (pc := 12) 0 dX10_loadsFrom_12 (by omega) hM2 (by omega) (by omega) rfl ?_
      refine xa_icmp_ge (pc := 13) (tgt := 42) dX10_loadsFrom_13 (by decide) (by decide) ⟨by omega, by omega⟩ (fun c_13 => ?_) (fun c_13 => ?_)
      · skip
        refine xa_iload_n (pc := 42) dX10_loadsFrom_42 rfl ?_
        refine xa_ireturn (pc := 43) dX10_loadsFrom_43 rfl trivial ?_
        exact ⟨congrArg (fun z => some (xa_i z)) (show (0 + ((F 3) (((3 * 0) + (sm_pose F sh 0)).toNat))) + ((F 3) (((3 * 1) + (sm_pose F sh 1)).toNat)) = sm_from F sh 0 by unfold sm_from sm_ld; (repeat' split) <;> omega), rfl⟩
      · skip
        refine xa_iload_n (pc := 16) dX10_loadsFrom_16 rfl ?_
        refine xa_aload_n (pc := 17) dX10_loadsFrom_17 rfl ?_
        refine xa_getfield (pc := 18) dX10_loadsFrom_18 flRX10_16 (by omega) (by omega) hM0 rfl ?_
        refine xa_iconst (pc := 21) dX10_loadsFrom_21 ?_
        refine xa_iload (pc := 22) dX10_loadsFrom_22 rfl ?_
        refine xa_imul (pc := 24) dX10_loadsFrom_24 ?_
        refine xa_aload_n (pc := 25) dX10_loadsFrom_25 rfl ?_
        refine xa_iload_n (pc := 26) dX10_loadsFrom_26 rfl ?_
        refine xa_iload (pc := 27) dX10_loadsFrom_27 rfl ?_
        refine xa_callV (pc := 29) (as := [xa_i sh, xa_i 2]) (rest := [xa_i (3 * 2), xa_r (k + 3), xa_i ((0 + ((F 3) (((3 * 0) + (sm_pose F sh 0)).toNat))) + ((F 3) (((3 * 1) + (sm_pose F sh 1)).toNat)))]) dX10_loadsFrom_29 ⟨qX10_poseOf.1, qX10_poseOf.2.1, qX10_poseOf.2.2, by decide, by decide⟩ lkRX10_136 imX10_poseOf seX10_poseOf rfl rfl (by omega) (by omega) hM0 rfl (Nat.le_of_ble_eq_true rfl) (Nat.zero_le _) (Nat.zero_le _) (c_mPose _ _ _ _ (by omega) _ ⟨by omega, by omega⟩ ⟨hM0, hM1, hM2, hM3, hM4, hM5, hM6, hM7, hM8, hM9, hM10, hM11, hM12, hM13, hM14, hM15, hM16, by omega, by omega⟩ hv) (fun r h' hq => ?_)
        obtain ⟨rfl, hq⟩ := hq
        have hq := hq.symm
        subst hq
        have po_29 := sm_pose_b F sh 2
        refine xa_iadd (pc := 32) dX10_loadsFrom_32 ?_
        refine xa_ialdw (pc := 33) (((3 * 2) + (sm_pose F sh 2)).toNat) dX10_loadsFrom_33 (by omega) hM3 (by omega) (by omega) rfl ?_
        refine xa_iadd (pc := 34) dX10_loadsFrom_34 ?_
        refine xa_istoren (pc := 35) [some (xa_r k), some (xa_i sh), some (xa_i 0), some (xa_i (((0 + ((F 3) (((3 * 0) + (sm_pose F sh 0)).toNat))) + ((F 3) (((3 * 1) + (sm_pose F sh 1)).toNat))) + ((F 3) (((3 * 2) + (sm_pose F sh 2)).toNat)))), some (xa_i 2)] dX10_loadsFrom_35 (by decide) (Nat.le_of_ble_eq_true rfl) rfl rfl ?_
        refine xa_iincw (pc := 36) (y := 3) [some (xa_r k), some (xa_i sh), some (xa_i 0), some (xa_i (((0 + ((F 3) (((3 * 0) + (sm_pose F sh 0)).toNat))) + ((F 3) (((3 * 1) + (sm_pose F sh 1)).toNat))) + ((F 3) (((3 * 2) + (sm_pose F sh 2)).toNat)))), some (xa_i 3)] dX10_loadsFrom_36 (by decide) rfl rfl rfl rfl ?_
        refine xa_goto (pc := 39) (tgt := 5) dX10_loadsFrom_39 (by decide) ?_
        refine xa_iload (pc := 5) dX10_loadsFrom_5 rfl ?_
        refine xa_aload_n (pc := 7) dX10_loadsFrom_7 rfl ?_
        refine xa_getfield (pc := 8) dX10_loadsFrom_8 flRX10_13 (by omega) (by omega) hM0 rfl ?_
        refine xa_iconst (pc := 11) dX10_loadsFrom_11 ?_
        refine xa_ialdw (pc := 12) 0 dX10_loadsFrom_12 (by omega) hM2 (by omega) (by omega) rfl ?_
        refine xa_icmp_ge (pc := 13) (tgt := 42) dX10_loadsFrom_13 (by decide) (by decide) ⟨by omega, by omega⟩ (fun c_13 => ?_) (fun c_13 => ?_)
        · skip
          refine xa_iload_n (pc := 42) dX10_loadsFrom_42 rfl ?_
          refine xa_ireturn (pc := 43) dX10_loadsFrom_43 rfl trivial ?_
          exact ⟨congrArg (fun z => some (xa_i z)) (show ((0 + ((F 3) (((3 * 0) + (sm_pose F sh 0)).toNat))) + ((F 3) (((3 * 1) + (sm_pose F sh 1)).toNat))) + ((F 3) (((3 * 2) + (sm_pose F sh 2)).toNat)) = sm_from F sh 0 by unfold sm_from sm_ld; (repeat' split) <;> omega), rfl⟩
        · skip
          exfalso; omega
theorem c_mFrom1 {G : xa_G} {h : xa_H} (k : Nat) (F : Nat → Nat → Int) (s : Nat → Int) (sh : Int) (hsh : 0 ≤ sh ∧ sh ≤ 4000000) (hM : xM h k F s) (hv : xMv F)  : xa_M G mX10_loadsFrom [xa_r k, xa_i sh, xa_i 1] h 0 0 (fun r h' => r = some (xa_i (sm_from F sh 1)) ∧ h' = h) := by
  refine xa_enter (by decide +kernel) (Nat.le_of_ble_eq_true rfl) ?_
  refine xa_locals (ls' := [some (xa_r k), some (xa_i sh), some (xa_i 1), none, none]) rfl ?_
  obtain ⟨hM0, hM1, hM2, hM3, hM4, hM5, hM6, hM7, hM8, hM9, hM10, hM11, hM12, hM13, hM14, hM15, hM16, hMk, hMn⟩ := hM
  obtain ⟨v1, v2, v3, v4, v5⟩ := id hv
  have sa := sm_steps_b hv 0
  have sb := sm_steps_b hv 1
  have ab := sm_ab sa sb
  refine xa_iconst (pc := 0) dX10_loadsFrom_0 ?_
  refine xa_istoren (pc := 1) [some (xa_r k), some (xa_i sh), some (xa_i 1), some (xa_i 0), none] dX10_loadsFrom_1 (by decide) (Nat.le_of_ble_eq_true rfl) rfl rfl ?_
  refine xa_iload_n (pc := 2) dX10_loadsFrom_2 rfl ?_
  refine xa_istorew (pc := 3) [some (xa_r k), some (xa_i sh), some (xa_i 1), some (xa_i 0), some (xa_i 1)] dX10_loadsFrom_3 (by decide) (Nat.le_of_ble_eq_true rfl) rfl rfl ?_
  refine xa_iload (pc := 5) dX10_loadsFrom_5 rfl ?_
  refine xa_aload_n (pc := 7) dX10_loadsFrom_7 rfl ?_
  refine xa_getfield (pc := 8) dX10_loadsFrom_8 flRX10_13 (by omega) (by omega) hM0 rfl ?_
  refine xa_iconst (pc := 11) dX10_loadsFrom_11 ?_
  refine xa_ialdw (pc := 12) 0 dX10_loadsFrom_12 (by omega) hM2 (by omega) (by omega) rfl ?_
  refine xa_icmp_ge (pc := 13) (tgt := 42) dX10_loadsFrom_13 (by decide) (by decide) ⟨by omega, by omega⟩ (fun c_13 => ?_) (fun c_13 => ?_)
  · skip
    refine xa_iload_n (pc := 42) dX10_loadsFrom_42 rfl ?_
    refine xa_ireturn (pc := 43) dX10_loadsFrom_43 rfl trivial ?_
    exact ⟨congrArg (fun z => some (xa_i z)) (show 0 = sm_from F sh 1 by unfold sm_from sm_ld; (repeat' split) <;> omega), rfl⟩
  · skip
    refine xa_iload_n (pc := 16) dX10_loadsFrom_16 rfl ?_
    refine xa_aload_n (pc := 17) dX10_loadsFrom_17 rfl ?_
    refine xa_getfield (pc := 18) dX10_loadsFrom_18 flRX10_16 (by omega) (by omega) hM0 rfl ?_
    refine xa_iconst (pc := 21) dX10_loadsFrom_21 ?_
    refine xa_iload (pc := 22) dX10_loadsFrom_22 rfl ?_
    refine xa_imul (pc := 24) dX10_loadsFrom_24 ?_
    refine xa_aload_n (pc := 25) dX10_loadsFrom_25 rfl ?_
    refine xa_iload_n (pc := 26) dX10_loadsFrom_26 rfl ?_
    refine xa_iload (pc := 27) dX10_loadsFrom_27 rfl ?_
    refine xa_callV (pc := 29) (as := [xa_i sh, xa_i 1]) (rest := [xa_i (3 * 1), xa_r (k + 3), xa_i 0]) dX10_loadsFrom_29 ⟨qX10_poseOf.1, qX10_poseOf.2.1, qX10_poseOf.2.2, by decide, by decide⟩ lkRX10_136 imX10_poseOf seX10_poseOf rfl rfl (by omega) (by omega) hM0 rfl (Nat.le_of_ble_eq_true rfl) (Nat.zero_le _) (Nat.zero_le _) (c_mPose _ _ _ _ (by omega) _ ⟨by omega, by omega⟩ ⟨hM0, hM1, hM2, hM3, hM4, hM5, hM6, hM7, hM8, hM9, hM10, hM11, hM12, hM13, hM14, hM15, hM16, by omega, by omega⟩ hv) (fun r h' hq => ?_)
    obtain ⟨rfl, hq⟩ := hq
    have hq := hq.symm
    subst hq
    have po_29 := sm_pose_b F sh 1
    refine xa_iadd (pc := 32) dX10_loadsFrom_32 ?_
    refine xa_ialdw (pc := 33) (((3 * 1) + (sm_pose F sh 1)).toNat) dX10_loadsFrom_33 (by omega) hM3 (by omega) (by omega) rfl ?_
    refine xa_iadd (pc := 34) dX10_loadsFrom_34 ?_
    refine xa_istoren (pc := 35) [some (xa_r k), some (xa_i sh), some (xa_i 1), some (xa_i (0 + ((F 3) (((3 * 1) + (sm_pose F sh 1)).toNat)))), some (xa_i 1)] dX10_loadsFrom_35 (by decide) (Nat.le_of_ble_eq_true rfl) rfl rfl ?_
    refine xa_iincw (pc := 36) (y := 2) [some (xa_r k), some (xa_i sh), some (xa_i 1), some (xa_i (0 + ((F 3) (((3 * 1) + (sm_pose F sh 1)).toNat)))), some (xa_i 2)] dX10_loadsFrom_36 (by decide) rfl rfl rfl rfl ?_
    refine xa_goto (pc := 39) (tgt := 5) dX10_loadsFrom_39 (by decide) ?_
    refine xa_iload (pc := 5) dX10_loadsFrom_5 rfl ?_
    refine xa_aload_n (pc := 7) dX10_loadsFrom_7 rfl ?_
    refine xa_getfield (pc := 8) dX10_loadsFrom_8 flRX10_13 (by omega) (by omega) hM0 rfl ?_
    refine xa_iconst (pc := 11) dX10_loadsFrom_11 ?_
    refine xa_ialdw (pc := 12) 0 dX10_loadsFrom_12 (by omega) hM2 (by omega) (by omega) rfl ?_
    refine xa_icmp_ge (pc := 13) (tgt := 42) dX10_loadsFrom_13 (by decide) (by decide) ⟨by omega, by omega⟩ (fun c_13 => ?_) (fun c_13 => ?_)
    · skip
      refine xa_iload_n (pc := 42) dX10_loadsFrom_42 rfl ?_
      refine xa_ireturn (pc := 43) dX10_loadsFrom_43 rfl trivial ?_
      exact ⟨congrArg (fun z => some (xa_i z)) (show 0 + ((F 3) (((3 * 1) + (sm_pose F sh 1)).toNat)) = sm_from F sh 1 by unfold sm_from sm_ld; (repeat' split) <;> omega), rfl⟩
    · skip
      refine xa_iload_n (pc := 16) dX10_loadsFrom_16 rfl ?_
      refine xa_aload_n (pc := 17) dX10_loadsFrom_17 rfl ?_
      refine xa_getfield (pc := 18) dX10_loadsFrom_18 flRX10_16 (by omega) (by omega) hM0 rfl ?_
      refine xa_iconst (pc := 21) dX10_loadsFrom_21 ?_
      refine xa_iload (pc := 22) dX10_loadsFrom_22 rfl ?_
      refine xa_imul (pc := 24) dX10_loadsFrom_24 ?_
      refine xa_aload_n (pc := 25) dX10_loadsFrom_25 rfl ?_
      refine xa_iload_n (pc := 26) dX10_loadsFrom_26 rfl ?_
      refine xa_iload (pc := 27) dX10_loadsFrom_27 rfl ?_
      refine xa_callV (pc := 29) (as := [xa_i sh, xa_i 2]) (rest := [xa_i (3 * 2), xa_r (k + 3), xa_i (0 + ((F 3) (((3 * 1) + (sm_pose F sh 1)).toNat)))]) dX10_loadsFrom_29 ⟨qX10_poseOf.1, qX10_poseOf.2.1, qX10_poseOf.2.2, by decide, by decide⟩ lkRX10_136 imX10_poseOf seX10_poseOf rfl rfl (by omega) (by omega) hM0 rfl (Nat.le_of_ble_eq_true rfl) (Nat.zero_le _) (Nat.zero_le _) (c_mPose _ _ _ _ (by omega) _ ⟨by omega, by omega⟩ ⟨hM0, hM1, hM2, hM3, hM4, hM5, hM6, hM7, hM8, hM9, hM10, hM11, hM12, hM13, hM14, hM15, hM16, by omega, by omega⟩ hv) (fun r h' hq => ?_)
      obtain ⟨rfl, hq⟩ := hq
      have hq := hq.symm
      subst hq
      have po_29 := sm_pose_b F sh 2
      refine xa_iadd (pc := 32) dX10_loadsFrom_32 ?_
      refine xa_ialdw (pc := 33) (((3 * 2) + (sm_pose F sh 2)).toNat) dX10_loadsFrom_33 (by omega) hM3 (by omega) (by omega) rfl ?_
      refine xa_iadd (pc := 34) dX10_loadsFrom_34 ?_
      refine xa_istoren (pc := 35) [some (xa_r k), some (xa_i sh), some (xa_i 1), some (xa_i ((0 + ((F 3) (((3 * 1) + (sm_pose F sh 1)).toNat))) + ((F 3) (((3 * 2) + (sm_pose F sh 2)).toNat)))), some (xa_i 2)] dX10_loadsFrom_35 (by decide) (Nat.le_of_ble_eq_true rfl) rfl rfl ?_
      refine xa_iincw (pc := 36) (y := 3) [some (xa_r k), some (xa_i sh), some (xa_i 1), some (xa_i ((0 + ((F 3) (((3 * 1) + (sm_pose F sh 1)).toNat))) + ((F 3) (((3 * 2) + (sm_pose F sh 2)).toNat)))), some (xa_i 3)] dX10_loadsFrom_36 (by decide) rfl rfl rfl rfl ?_
      refine xa_goto (pc := 39) (tgt := 5) dX10_loadsFrom_39 (by decide) ?_
      refine xa_iload (pc := 5) dX10_loadsFrom_5 rfl ?_
      refine xa_aload_n (pc := 7) dX10_loadsFrom_7 rfl ?_
      refine xa_getfield (pc := 8) dX10_loadsFrom_8 flRX10_13 (by omega) (by omega) hM0 rfl ?_
      refine xa_iconst (pc := 11) dX10_loadsFrom_11 ?_
      refine xa_ialdw (pc := 12) 0 dX10_loadsFrom_12 (by omega) hM2 (by omega) (by omega) rfl ?_
      refine xa_icmp_ge (pc := 13) (tgt := 42) dX10_loadsFrom_13 (by decide) (by decide) ⟨by omega, by omega⟩ (fun c_13 => ?_) (fun c_13 => ?_)
      · skip
        refine xa_iload_n (pc := 42) dX10_loadsFrom_42 rfl ?_
        refine xa_ireturn (pc := 43) dX10_loadsFrom_43 rfl trivial ?_
        exact ⟨congrArg (fun z => some (xa_i z)) (show (0 + ((F 3) (((3 * 1) + (sm_pose F sh 1)).toNat))) + ((F 3) (((3 * 2) + (sm_pose F sh 2)).toNat)) = sm_from F sh 1 by unfold sm_from sm_ld; (repeat' split) <;> omega), rfl⟩
      · skip
        exfalso; omega
theorem c_mFrom2 {G : xa_G} {h : xa_H} (k : Nat) (F : Nat → Nat → Int) (s : Nat → Int) (sh : Int) (hsh : 0 ≤ sh ∧ sh ≤ 4000000) (hM : xM h k F s) (hv : xMv F)  : xa_M G mX10_loadsFrom [xa_r k, xa_i sh, xa_i 2] h 0 0 (fun r h' => r = some (xa_i (sm_from F sh 2)) ∧ h' = h) := by
  refine xa_enter (by decide +kernel) (Nat.le_of_ble_eq_true rfl) ?_
  refine xa_locals (ls' := [some (xa_r k), some (xa_i sh), some (xa_i 2), none, none]) rfl ?_
  obtain ⟨hM0, hM1, hM2, hM3, hM4, hM5, hM6, hM7, hM8, hM9, hM10, hM11, hM12, hM13, hM14, hM15, hM16, hMk, hMn⟩ := hM
  obtain ⟨v1, v2, v3, v4, v5⟩ := id hv
  have sa := sm_steps_b hv 0
  have sb := sm_steps_b hv 1
  have ab := sm_ab sa sb
  refine xa_iconst (pc := 0) dX10_loadsFrom_0 ?_
  refine xa_istoren (pc := 1) [some (xa_r k), some (xa_i sh), some (xa_i 2), some (xa_i 0), none] dX10_loadsFrom_1 (by decide) (Nat.le_of_ble_eq_true rfl) rfl rfl ?_
  refine xa_iload_n (pc := 2) dX10_loadsFrom_2 rfl ?_
  refine xa_istorew (pc := 3) [some (xa_r k), some (xa_i sh), some (xa_i 2), some (xa_i 0), some (xa_i 2)] dX10_loadsFrom_3 (by decide) (Nat.le_of_ble_eq_true rfl) rfl rfl ?_
  refine xa_iload (pc := 5) dX10_loadsFrom_5 rfl ?_
  refine xa_aload_n (pc := 7) dX10_loadsFrom_7 rfl ?_
  refine xa_getfield (pc := 8) dX10_loadsFrom_8 flRX10_13 (by omega) (by omega) hM0 rfl ?_
  refine xa_iconst (pc := 11) dX10_loadsFrom_11 ?_
  refine xa_ialdw (pc := 12) 0 dX10_loadsFrom_12 (by omega) hM2 (by omega) (by omega) rfl ?_
  refine xa_icmp_ge (pc := 13) (tgt := 42) dX10_loadsFrom_13 (by decide) (by decide) ⟨by omega, by omega⟩ (fun c_13 => ?_) (fun c_13 => ?_)
  · skip
    refine xa_iload_n (pc := 42) dX10_loadsFrom_42 rfl ?_
    refine xa_ireturn (pc := 43) dX10_loadsFrom_43 rfl trivial ?_
    exact ⟨congrArg (fun z => some (xa_i z)) (show 0 = sm_from F sh 2 by unfold sm_from sm_ld; (repeat' split) <;> omega), rfl⟩
  · skip
    refine xa_iload_n (pc := 16) dX10_loadsFrom_16 rfl ?_
    refine xa_aload_n (pc := 17) dX10_loadsFrom_17 rfl ?_
    refine xa_getfield (pc := 18) dX10_loadsFrom_18 flRX10_16 (by omega) (by omega) hM0 rfl ?_
    refine xa_iconst (pc := 21) dX10_loadsFrom_21 ?_
    refine xa_iload (pc := 22) dX10_loadsFrom_22 rfl ?_
    refine xa_imul (pc := 24) dX10_loadsFrom_24 ?_
    refine xa_aload_n (pc := 25) dX10_loadsFrom_25 rfl ?_
    refine xa_iload_n (pc := 26) dX10_loadsFrom_26 rfl ?_
    refine xa_iload (pc := 27) dX10_loadsFrom_27 rfl ?_
    refine xa_callV (pc := 29) (as := [xa_i sh, xa_i 2]) (rest := [xa_i (3 * 2), xa_r (k + 3), xa_i 0]) dX10_loadsFrom_29 ⟨qX10_poseOf.1, qX10_poseOf.2.1, qX10_poseOf.2.2, by decide, by decide⟩ lkRX10_136 imX10_poseOf seX10_poseOf rfl rfl (by omega) (by omega) hM0 rfl (Nat.le_of_ble_eq_true rfl) (Nat.zero_le _) (Nat.zero_le _) (c_mPose _ _ _ _ (by omega) _ ⟨by omega, by omega⟩ ⟨hM0, hM1, hM2, hM3, hM4, hM5, hM6, hM7, hM8, hM9, hM10, hM11, hM12, hM13, hM14, hM15, hM16, by omega, by omega⟩ hv) (fun r h' hq => ?_)
    obtain ⟨rfl, hq⟩ := hq
    have hq := hq.symm
    subst hq
    have po_29 := sm_pose_b F sh 2
    refine xa_iadd (pc := 32) dX10_loadsFrom_32 ?_
    refine xa_ialdw (pc := 33) (((3 * 2) + (sm_pose F sh 2)).toNat) dX10_loadsFrom_33 (by omega) hM3 (by omega) (by omega) rfl ?_
    refine xa_iadd (pc := 34) dX10_loadsFrom_34 ?_
    refine xa_istoren (pc := 35) [some (xa_r k), some (xa_i sh), some (xa_i 2), some (xa_i (0 + ((F 3) (((3 * 2) + (sm_pose F sh 2)).toNat)))), some (xa_i 2)] dX10_loadsFrom_35 (by decide) (Nat.le_of_ble_eq_true rfl) rfl rfl ?_
    refine xa_iincw (pc := 36) (y := 3) [some (xa_r k), some (xa_i sh), some (xa_i 2), some (xa_i (0 + ((F 3) (((3 * 2) + (sm_pose F sh 2)).toNat)))), some (xa_i 3)] dX10_loadsFrom_36 (by decide) rfl rfl rfl rfl ?_
    refine xa_goto (pc := 39) (tgt := 5) dX10_loadsFrom_39 (by decide) ?_
    refine xa_iload (pc := 5) dX10_loadsFrom_5 rfl ?_
    refine xa_aload_n (pc := 7) dX10_loadsFrom_7 rfl ?_
    refine xa_getfield (pc := 8) dX10_loadsFrom_8 flRX10_13 (by omega) (by omega) hM0 rfl ?_
    refine xa_iconst (pc := 11) dX10_loadsFrom_11 ?_
    refine xa_ialdw (pc := 12) 0 dX10_loadsFrom_12 (by omega) hM2 (by omega) (by omega) rfl ?_
    refine xa_icmp_ge (pc := 13) (tgt := 42) dX10_loadsFrom_13 (by decide) (by decide) ⟨by omega, by omega⟩ (fun c_13 => ?_) (fun c_13 => ?_)
    · skip
      refine xa_iload_n (pc := 42) dX10_loadsFrom_42 rfl ?_
      refine xa_ireturn (pc := 43) dX10_loadsFrom_43 rfl trivial ?_
      exact ⟨congrArg (fun z => some (xa_i z)) (show 0 + ((F 3) (((3 * 2) + (sm_pose F sh 2)).toNat)) = sm_from F sh 2 by unfold sm_from sm_ld; (repeat' split) <;> omega), rfl⟩
    · skip
      exfalso; omega
theorem c_mFrom {G : xa_G} {h : xa_H} (k : Nat) (F : Nat → Nat → Int) (s : Nat → Int) (sh : Int) (hsh : 0 ≤ sh ∧ sh ≤ 4000000) (p : Int) (hp : p = 0 ∨ p = 1 ∨ p = 2) (hM : xM h k F s) (hv : xMv F) : xa_M G mX10_loadsFrom [xa_r k, xa_i sh, xa_i p] h 0 0 (fun r h' => r = some (xa_i (sm_from F sh p)) ∧ h' = h) := by
  rcases hp with rfl | rfl | rfl
  · exact c_mFrom0 _ _ _ _ hsh hM hv
  · exact c_mFrom1 _ _ _ _ hsh hM hv
  · exact c_mFrom2 _ _ _ _ hsh hM hv

