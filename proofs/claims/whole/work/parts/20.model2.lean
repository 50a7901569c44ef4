/-! The model: shapes by numbers -/
theorem sm_ab {a b : Int} (ha : 1 ≤ a ∧ a ≤ 360) (hb : 1 ≤ b ∧ b ≤ 360) : 1 ≤ a * b ∧ a * b ≤ 129600 := by
  have h1 : 1 * 1 ≤ a * b := Int.mul_le_mul ha.1 hb.1 (by decide) (by omega)
  have h2 : a * b ≤ 360 * 360 := Int.mul_le_mul ha.2 hb.2 (by omega) (by decide)
  omega
theorem sm_div {x y : Int} (hx : 0 ≤ x) (hy : 0 < y) : 0 ≤ x / y ∧ x / y ≤ x := ⟨Int.ediv_nonneg hx (by omega), Int.ediv_le_self _ hx⟩
theorem sm_mod {x y : Int} (hy : 0 < y) : 0 ≤ x % y ∧ x % y < y := ⟨Int.emod_nonneg _ (by omega), Int.emod_lt_of_pos _ hy⟩
theorem sm_three_b (k : Int) : 1 ≤ sm_three k ∧ sm_three k ≤ 9 := by
  unfold sm_three
  repeat' split
  all_goals omega
def sm_pose (F : Nat → Nat → Int) (sh k : Int) : Int := sh / (sm_steps F 0 * sm_steps F 1) / sm_three k % 3
def sm_at (F : Nat → Nat → Int) (sh j : Int) : Int := if j = 0 then sh / sm_steps F 1 % sm_steps F 0 else sh % sm_steps F 1
theorem sm_pose_b (F : Nat → Nat → Int) (sh k : Int) : 0 ≤ sm_pose F sh k ∧ sm_pose F sh k ≤ 2 := by
  unfold sm_pose
  omega
theorem sm_at_b {F : Nat → Nat → Int} (hv : xMv F) (sh j : Int) : 0 ≤ sm_at F sh j ∧ sm_at F sh j < 360 := by
  have a := sm_steps_b hv 0
  have b := sm_steps_b hv 1
  unfold sm_at
  split
  · have := sm_mod (x := sh / sm_steps F 1) (y := sm_steps F 0) (by omega)
    omega
  · have := sm_mod (x := sh) (y := sm_steps F 1) (by omega)
    omega
theorem sm_zero_b (F : Nat → Nat → Int) (j : Int) : 0 ≤ sm_zero F j ∧ sm_zero F j ≤ 2 := by
  unfold sm_zero
  split <;> omega
def sm_shapes (F : Nat → Nat → Int) : Int := (if F 2 0 = 2 then 9 else 27) * sm_steps F 0 * sm_steps F 1
def sm_rest (F : Nat → Nat → Int) : Int := ((if F 2 0 = 2 then 4 else 13) * sm_steps F 0 + sm_zero F 0) * sm_steps F 1 + sm_zero F 1
def sm_ld (F : Nat → Nat → Int) (sh k : Int) : Int := F 3 (3 * k + sm_pose F sh k).toNat
def sm_from (F : Nat → Nat → Int) (sh p : Int) : Int := (if p ≤ 0 ∧ 0 < F 2 0 then sm_ld F sh 0 else 0) + (if p ≤ 1 ∧ 1 < F 2 0 then sm_ld F sh 1 else 0) + (if p ≤ 2 ∧ 2 < F 2 0 then sm_ld F sh 2 else 0)
theorem sm_ld_b {F : Nat → Nat → Int} (hv : xMv F) (sh k : Int) : 0 ≤ sm_ld F sh k ∧ sm_ld F sh k ≤ 99 := hv.2.2.2.2 _
theorem sm_from_b {F : Nat → Nat → Int} (hv : xMv F) (sh p : Int) : 0 ≤ sm_from F sh p ∧ sm_from F sh p ≤ 297 := by
  have a := sm_ld_b hv sh 0
  have b := sm_ld_b hv sh 1
  have c := sm_ld_b hv sh 2
  unfold sm_from
  repeat' split
  all_goals omega

theorem c_mShapes {G : xa_G} {h : xa_H} (k : Nat) (F : Nat → Nat → Int) (s : Nat → Int) (hM : xM h k F s) (hv : xMv F)  : xa_M G mX10_shapeMany [xa_r k] h 0 0 (fun r h' => r = some (xa_i (sm_shapes F)) ∧ h' = h) := by
  refine xa_enter (by decide +kernel) (Nat.le_of_ble_eq_true rfl) ?_
  refine xa_locals (ls' := [some (xa_r k)]) rfl ?_
  obtain ⟨hM0, hM1, hM2, hM3, hM4, hM5, hM6, hM7, hM8, hM9, hM10, hM11, hM12, hM13, hM14, hM15, hM16, hMk, hMn⟩ := hM
  obtain ⟨v1, v2, v3, v4, v5⟩ := id hv
  have sa := sm_steps_b hv 0
  have sb := sm_steps_b hv 1
  have ab := sm_ab sa sb
  refine xa_aload_n (pc := 0) dX10_shapeMany_0 rfl ?_
  refine xa_getfield (pc := 1) dX10_shapeMany_1 flRX10_13 (by omega) (by omega) hM0 rfl ?_
  refine xa_iconst (pc := 4) dX10_shapeMany_4 ?_
  refine xa_ialdw (pc := 5) 0 dX10_shapeMany_5 (by omega) hM2 (by omega) (by omega) rfl ?_
  refine xa_iconst (pc := 6) dX10_shapeMany_6 ?_
  refine xa_icmp_ne (pc := 7) (tgt := 15) dX10_shapeMany_7 (by decide) ⟨by omega, by omega⟩ (by decide) (fun c_7 => ?_) (fun c_7 => ?_)
  · skip
    refine xa_bipush (pc := 15) dX10_shapeMany_15 rfl ?_
    refine xa_aload_n (pc := 17) dX10_shapeMany_17 rfl ?_
    refine xa_iconst (pc := 18) dX10_shapeMany_18 ?_
    refine xa_callV (pc := 19) (as := [xa_i 0]) (rest := [xa_i 27]) dX10_shapeMany_19 ⟨qX10_stepMany.1, qX10_stepMany.2.1, qX10_stepMany.2.2, by decide, by decide⟩ lkRX10_123 imX10_stepMany seX10_stepMany rfl rfl (by omega) (by omega) hM0 rfl (Nat.le_of_ble_eq_true rfl) (Nat.zero_le _) (Nat.zero_le _) (c_mSteps _ _ _ _ ⟨by omega, by omega⟩ ⟨hM0, hM1, hM2, hM3, hM4, hM5, hM6, hM7, hM8, hM9, hM10, hM11, hM12, hM13, hM14, hM15, hM16, by omega, by omega⟩ hv) (fun r h' hq => ?_)
    obtain ⟨rfl, hq⟩ := hq
    have hq := hq.symm
    subst hq
    have st_19 := sm_steps_b hv 0
    refine xa_imul (pc := 22) dX10_shapeMany_22 ?_
    refine xa_aload_n (pc := 23) dX10_shapeMany_23 rfl ?_
    refine xa_iconst (pc := 24) dX10_shapeMany_24 ?_
    refine xa_callV (pc := 25) (as := [xa_i 1]) (rest := [xa_i (27 * (sm_steps F 0))]) dX10_shapeMany_25 ⟨qX10_stepMany.1, qX10_stepMany.2.1, qX10_stepMany.2.2, by decide, by decide⟩ lkRX10_123 imX10_stepMany seX10_stepMany rfl rfl (by omega) (by omega) hM0 rfl (Nat.le_of_ble_eq_true rfl) (Nat.zero_le _) (Nat.zero_le _) (c_mSteps _ _ _ _ ⟨by omega, by omega⟩ ⟨hM0, hM1, hM2, hM3, hM4, hM5, hM6, hM7, hM8, hM9, hM10, hM11, hM12, hM13, hM14, hM15, hM16, by omega, by omega⟩ hv) (fun r h' hq => ?_)
    obtain ⟨rfl, hq⟩ := hq
    have hq := hq.symm
    subst hq
    have st_25 := sm_steps_b hv 1
    refine xa_imul (pc := 28) dX10_shapeMany_28 ?_
    refine xa_ireturn (pc := 29) dX10_shapeMany_29 rfl trivial ?_
    exact ⟨congrArg (fun z => some (xa_i z)) (show (27 * (sm_steps F 0)) * (sm_steps F 1) = sm_shapes F by (unfold sm_shapes; first | (rw [if_pos (by omega)]; done) | (rw [if_neg (by omega)]; done))), rfl⟩
  · skip
    refine xa_bipush (pc := 10) dX10_shapeMany_10 rfl ?_
    refine xa_goto (pc := 12) (tgt := 17) dX10_shapeMany_12 (by decide) ?_
    refine xa_aload_n (pc := 17) dX10_shapeMany_17 rfl ?_
    refine xa_iconst (pc := 18) dX10_shapeMany_18 ?_
    refine xa_callV (pc := 19) (as := [xa_i 0]) (rest := [xa_i 9]) dX10_shapeMany_19 ⟨qX10_stepMany.1, qX10_stepMany.2.1, qX10_stepMany.2.2, by decide, by decide⟩ lkRX10_123 imX10_stepMany seX10_stepMany rfl rfl (by omega) (by omega) hM0 rfl (Nat.le_of_ble_eq_true rfl) (Nat.zero_le _) (Nat.zero_le _) (c_mSteps _ _ _ _ ⟨by omega, by omega⟩ ⟨hM0, hM1, hM2, hM3, hM4, hM5, hM6, hM7, hM8, hM9, hM10, hM11, hM12, hM13, hM14, hM15, hM16, by omega, by omega⟩ hv) (fun r h' hq => ?_)
    obtain ⟨rfl, hq⟩ := hq
    have hq := hq.symm
    subst hq
    have st_19 := sm_steps_b hv 0
    refine xa_imul (pc := 22) dX10_shapeMany_22 ?_
    refine xa_aload_n (pc := 23) dX10_shapeMany_23 rfl ?_
    refine xa_iconst (pc := 24) dX10_shapeMany_24 ?_
    refine xa_callV (pc := 25) (as := [xa_i 1]) (rest := [xa_i (9 * (sm_steps F 0))]) dX10_shapeMany_25 ⟨qX10_stepMany.1, qX10_stepMany.2.1, qX10_stepMany.2.2, by decide, by decide⟩ lkRX10_123 imX10_stepMany seX10_stepMany rfl rfl (by omega) (by omega) hM0 rfl (Nat.le_of_ble_eq_true rfl) (Nat.zero_le _) (Nat.zero_le _) (c_mSteps _ _ _ _ ⟨by omega, by omega⟩ ⟨hM0, hM1, hM2, hM3, hM4, hM5, hM6, hM7, hM8, hM9, hM10, hM11, hM12, hM13, hM14, hM15, hM16, by omega, by omega⟩ hv) (fun r h' hq => ?_)
    obtain ⟨rfl, hq⟩ := hq
    have hq := hq.symm
    subst hq
    have st_25 := sm_steps_b hv 1
    refine xa_imul (pc := 28) dX10_shapeMany_28 ?_
    refine xa_ireturn (pc := 29) dX10_shapeMany_29 rfl trivial ?_
    exact ⟨congrArg (fun z => some (xa_i z)) (show (9 * (sm_steps F 0)) * (sm_steps F 1) = sm_shapes F by (unfold sm_shapes; first | (rw [if_pos (by omega)]; done) | (rw [if_neg (by omega)]; done))), rfl⟩
theorem c_mPose {G : xa_G} {h : xa_H} (k : Nat) (F : Nat → Nat → Int) (s : Nat → Int) (sh : Int) (hsh : 0 ≤ sh ∧ sh ≤ 4000000) (q : Int) (hq : xa_ok q) (hM : xM h k F s) (hv : xMv F)  : xa_M G mX10_poseOf [xa_r k, xa_i sh, xa_i q] h 0 0 (fun r h' => r = some (xa_i (sm_pose F sh q)) ∧ h' = h) := by
  refine xa_enter (by decide +kernel) (Nat.le_of_ble_eq_true rfl) ?_
  refine xa_locals (ls' := [some (xa_r k), some (xa_i sh), some (xa_i q)]) rfl ?_
  obtain ⟨hM0, hM1, hM2, hM3, hM4, hM5, hM6, hM7, hM8, hM9, hM10, hM11, hM12, hM13, hM14, hM15, hM16, hMk, hMn⟩ := hM
  obtain ⟨v1, v2, v3, v4, v5⟩ := id hv
  have sa := sm_steps_b hv 0
  have sb := sm_steps_b hv 1
  have ab := sm_ab sa sb
  refine xa_iload_n (pc := 0) dX10_poseOf_0 rfl ?_
  refine xa_aload_n (pc := 1) dX10_poseOf_1 rfl ?_
  refine xa_iconst (pc := 2) dX10_poseOf_2 ?_
  refine xa_callV (pc := 3) (as := [xa_i 0]) (rest := [xa_i sh]) dX10_poseOf_3 ⟨qX10_stepMany.1, qX10_stepMany.2.1, qX10_stepMany.2.2, by decide, by decide⟩ lkRX10_123 imX10_stepMany seX10_stepMany rfl rfl (by omega) (by omega) hM0 rfl (Nat.le_of_ble_eq_true rfl) (Nat.zero_le _) (Nat.zero_le _) (c_mSteps _ _ _ _ ⟨by omega, by omega⟩ ⟨hM0, hM1, hM2, hM3, hM4, hM5, hM6, hM7, hM8, hM9, hM10, hM11, hM12, hM13, hM14, hM15, hM16, by omega, by omega⟩ hv) (fun r h' hq => ?_)
  obtain ⟨rfl, hq⟩ := hq
  have hq := hq.symm
  subst hq
  have st_3 := sm_steps_b hv 0
  refine xa_aload_n (pc := 6) dX10_poseOf_6 rfl ?_
  refine xa_iconst (pc := 7) dX10_poseOf_7 ?_
  refine xa_callV (pc := 8) (as := [xa_i 1]) (rest := [xa_i (sm_steps F 0), xa_i sh]) dX10_poseOf_8 ⟨qX10_stepMany.1, qX10_stepMany.2.1, qX10_stepMany.2.2, by decide, by decide⟩ lkRX10_123 imX10_stepMany seX10_stepMany rfl rfl (by omega) (by omega) hM0 rfl (Nat.le_of_ble_eq_true rfl) (Nat.zero_le _) (Nat.zero_le _) (c_mSteps _ _ _ _ ⟨by omega, by omega⟩ ⟨hM0, hM1, hM2, hM3, hM4, hM5, hM6, hM7, hM8, hM9, hM10, hM11, hM12, hM13, hM14, hM15, hM16, by omega, by omega⟩ hv) (fun r h' hq => ?_)
  obtain ⟨rfl, hq⟩ := hq
  have hq := hq.symm
  subst hq
  have st_8 := sm_steps_b hv 1
  refine xa_imul (pc := 11) dX10_poseOf_11 ?_
  refine xa_idivn (pc := 12) dX10_poseOf_12 ⟨by omega, by omega⟩ ⟨by omega, by omega⟩ (by omega) (by omega) ?_
  have q1 := sm_div (x := sh) (y := (sm_steps F 0 * sm_steps F 1)) hsh.1 (by omega)
  refine xa_iload_n (pc := 13) dX10_poseOf_13 rfl ?_
  refine xa_callS (pc := 14) (as := [xa_i q]) (rest := [xa_i (sh / ((sm_steps F 0) * (sm_steps F 1)))]) dX10_poseOf_14 ⟨qX10_threes.1, qX10_threes.2.1, qX10_threes.2.2, by decide, by decide⟩ lkRX10_126 smX10_threes rfl rfl (Nat.le_of_ble_eq_true rfl) (Nat.zero_le _) (Nat.zero_le _) (c_threes _ ⟨by omega, by omega⟩) (fun r h' hq => ?_)
  obtain ⟨rfl, hq⟩ := hq
  have hq := hq.symm
  subst hq
  have t3 := sm_three_b q
  refine xa_idivn (pc := 17) dX10_poseOf_17 ⟨by omega, by omega⟩ ⟨by omega, by omega⟩ (by omega) (by omega) ?_
  have q2 := sm_div (x := sh / (sm_steps F 0 * sm_steps F 1)) (y := sm_three q) q1.1 (by omega)
  refine xa_iconst (pc := 18) dX10_poseOf_18 ?_
  refine xa_iremn (pc := 19) dX10_poseOf_19 ⟨by omega, by omega⟩ (by decide) (by omega) (by omega) ?_
  refine xa_ireturn (pc := 20) dX10_poseOf_20 rfl trivial ?_
  exact ⟨congrArg (fun z => some (xa_i z)) (show ((sh / ((sm_steps F 0) * (sm_steps F 1))) / (sm_three q)) % 3 = sm_pose F sh q by rfl), rfl⟩
theorem c_mAt {G : xa_G} {h : xa_H} (k : Nat) (F : Nat → Nat → Int) (s : Nat → Int) (sh : Int) (hsh : 0 ≤ sh ∧ sh ≤ 4000000) (j : Int) (hj : xa_ok j) (hM : xM h k F s) (hv : xMv F)  : xa_M G mX10_stepAt [xa_r k, xa_i sh, xa_i j] h 0 0 (fun r h' => r = some (xa_i (sm_at F sh j)) ∧ h' = h) := by
  refine xa_enter (by decide +kernel) (Nat.le_of_ble_eq_true rfl) ?_
  refine xa_locals (ls' := [some (xa_r k), some (xa_i sh), some (xa_i j)]) rfl ?_
  obtain ⟨hM0, hM1, hM2, hM3, hM4, hM5, hM6, hM7, hM8, hM9, hM10, hM11, hM12, hM13, hM14, hM15, hM16, hMk, hMn⟩ := hM
  obtain ⟨v1, v2, v3, v4, v5⟩ := id hv
  have sa := sm_steps_b hv 0
  have sb := sm_steps_b hv 1
  have ab := sm_ab sa sb
  refine xa_iload_n (pc := 0) dX10_stepAt_0 rfl ?_
  refine xa_if_ne (pc := 1) (tgt := 20) dX10_stepAt_1 (by decide) ⟨by omega, by omega⟩ (fun c_1 => ?_) (fun c_1 => ?_)
  · skip
    refine xa_iload_n (pc := 20) dX10_stepAt_20 rfl ?_
    refine xa_aload_n (pc := 21) dX10_stepAt_21 rfl ?_
    refine xa_iconst (pc := 22) dX10_stepAt_22 ?_
    refine xa_callV (pc := 23) (as := [xa_i 1]) (rest := [xa_i sh]) dX10_stepAt_23 ⟨qX10_stepMany.1, qX10_stepMany.2.1, qX10_stepMany.2.2, by decide, by decide⟩ lkRX10_123 imX10_stepMany seX10_stepMany rfl rfl (by omega) (by omega) hM0 rfl (Nat.le_of_ble_eq_true rfl) (Nat.zero_le _) (Nat.zero_le _) (c_mSteps _ _ _ _ ⟨by omega, by omega⟩ ⟨hM0, hM1, hM2, hM3, hM4, hM5, hM6, hM7, hM8, hM9, hM10, hM11, hM12, hM13, hM14, hM15, hM16, by omega, by omega⟩ hv) (fun r h' hq => ?_)
    obtain ⟨rfl, hq⟩ := hq
    have hq := hq.symm
    subst hq
    have st_23 := sm_steps_b hv 1
    refine xa_iremn (pc := 26) dX10_stepAt_26 ⟨by omega, by omega⟩ ⟨by omega, by omega⟩ (by omega) (by omega) ?_
    refine xa_ireturn (pc := 27) dX10_stepAt_27 rfl trivial ?_
    exact ⟨congrArg (fun z => some (xa_i z)) (show sh % (sm_steps F 1) = sm_at F sh j by (unfold sm_at; first | (rw [if_pos (by omega)]; done) | (rw [if_neg (by omega)]; done))), rfl⟩
  · skip
    refine xa_iload_n (pc := 4) dX10_stepAt_4 rfl ?_
    refine xa_aload_n (pc := 5) dX10_stepAt_5 rfl ?_
    refine xa_iconst (pc := 6) dX10_stepAt_6 ?_
    refine xa_callV (pc := 7) (as := [xa_i 1]) (rest := [xa_i sh]) dX10_stepAt_7 ⟨qX10_stepMany.1, qX10_stepMany.2.1, qX10_stepMany.2.2, by decide, by decide⟩ lkRX10_123 imX10_stepMany seX10_stepMany rfl rfl (by omega) (by omega) hM0 rfl (Nat.le_of_ble_eq_true rfl) (Nat.zero_le _) (Nat.zero_le _) (c_mSteps _ _ _ _ ⟨by omega, by omega⟩ ⟨hM0, hM1, hM2, hM3, hM4, hM5, hM6, hM7, hM8, hM9, hM10, hM11, hM12, hM13, hM14, hM15, hM16, by omega, by omega⟩ hv) (fun r h' hq => ?_)
    obtain ⟨rfl, hq⟩ := hq
    have hq := hq.symm
    subst hq
    have st_7 := sm_steps_b hv 1
    refine xa_idivn (pc := 10) dX10_stepAt_10 ⟨by omega, by omega⟩ ⟨by omega, by omega⟩ (by omega) (by omega) ?_
    have q1 := sm_div (x := sh) (y := sm_steps F 1) hsh.1 (by omega)
    refine xa_aload_n (pc := 11) dX10_stepAt_11 rfl ?_
    refine xa_iconst (pc := 12) dX10_stepAt_12 ?_
    refine xa_callV (pc := 13) (as := [xa_i 0]) (rest := [xa_i (sh / (sm_steps F 1))]) dX10_stepAt_13 ⟨qX10_stepMany.1, qX10_stepMany.2.1, qX10_stepMany.2.2, by decide, by decide⟩ lkRX10_123 imX10_stepMany seX10_stepMany rfl rfl (by omega) (by omega) hM0 rfl (Nat.le_of_ble_eq_true rfl) (Nat.zero_le _) (Nat.zero_le _) (c_mSteps _ _ _ _ ⟨by omega, by omega⟩ ⟨hM0, hM1, hM2, hM3, hM4, hM5, hM6, hM7, hM8, hM9, hM10, hM11, hM12, hM13, hM14, hM15, hM16, by omega, by omega⟩ hv) (fun r h' hq => ?_)
    obtain ⟨rfl, hq⟩ := hq
    have hq := hq.symm
    subst hq
    have st_13 := sm_steps_b hv 0
    refine xa_iremn (pc := 16) dX10_stepAt_16 ⟨by omega, by omega⟩ ⟨by omega, by omega⟩ (by omega) (by omega) ?_
    refine xa_goto (pc := 17) (tgt := 27) dX10_stepAt_17 (by decide) ?_
    refine xa_ireturn (pc := 27) dX10_stepAt_27 rfl trivial ?_
    exact ⟨congrArg (fun z => some (xa_i z)) (show (sh / (sm_steps F 1)) % (sm_steps F 0) = sm_at F sh j by (unfold sm_at; first | (rw [if_pos (by omega)]; done) | (rw [if_neg (by omega)]; done))), rfl⟩
theorem c_mRest {G : xa_G} {h : xa_H} (k : Nat) (F : Nat → Nat → Int) (s : Nat → Int) (hM : xM h k F s) (hv : xMv F)  : xa_M G mX10_rest [xa_r k] h 0 0 (fun r h' => r = some (xa_i (sm_rest F)) ∧ h' = h) := by
  refine xa_enter (by decide +kernel) (Nat.le_of_ble_eq_true rfl) ?_
  refine xa_locals (ls' := [some (xa_r k), none]) rfl ?_
  obtain ⟨hM0, hM1, hM2, hM3, hM4, hM5, hM6, hM7, hM8, hM9, hM10, hM11, hM12, hM13, hM14, hM15, hM16, hMk, hMn⟩ := hM
  obtain ⟨v1, v2, v3, v4, v5⟩ := id hv
  have sa := sm_steps_b hv 0
  have sb := sm_steps_b hv 1
  have ab := sm_ab sa sb
  refine xa_aload_n (pc := 0) dX10_rest_0 rfl ?_
  refine xa_getfield (pc := 1) dX10_rest_1 flRX10_13 (by omega) (by omega) hM0 rfl ?_
  refine xa_iconst (pc := 4) dX10_rest_4 ?_
  refine xa_ialdw (pc := 5) 0 dX10_rest_5 (by omega) hM2 (by omega) (by omega) rfl ?_
  refine xa_iconst (pc := 6) dX10_rest_6 ?_
  refine xa_icmp_ne (pc := 7) (tgt := 14) dX10_rest_7 (by decide) ⟨by omega, by omega⟩ (by decide) (fun c_7 => ?_) (fun c_7 => ?_)
  · skip
    refine xa_bipush (pc := 14) dX10_rest_14 rfl ?_
    refine xa_istoren (pc := 16) [some (xa_r k), some (xa_i 13)] dX10_rest_16 (by decide) (Nat.le_of_ble_eq_true rfl) rfl rfl ?_
    refine xa_iload_n (pc := 17) dX10_rest_17 rfl ?_
    refine xa_aload_n (pc := 18) dX10_rest_18 rfl ?_
    refine xa_iconst (pc := 19) dX10_rest_19 ?_
    refine xa_callV (pc := 20) (as := [xa_i 0]) (rest := [xa_i 13]) dX10_rest_20 ⟨qX10_stepMany.1, qX10_stepMany.2.1, qX10_stepMany.2.2, by decide, by decide⟩ lkRX10_123 imX10_stepMany seX10_stepMany rfl rfl (by omega) (by omega) hM0 rfl (Nat.le_of_ble_eq_true rfl) (Nat.zero_le _) (Nat.zero_le _) (c_mSteps _ _ _ _ ⟨by omega, by omega⟩ ⟨hM0, hM1, hM2, hM3, hM4, hM5, hM6, hM7, hM8, hM9, hM10, hM11, hM12, hM13, hM14, hM15, hM16, by omega, by omega⟩ hv) (fun r h' hq => ?_)
    obtain ⟨rfl, hq⟩ := hq
    have hq := hq.symm
    subst hq
    have st_20 := sm_steps_b hv 0
    refine xa_imul (pc := 23) dX10_rest_23 ?_
    refine xa_aload_n (pc := 24) dX10_rest_24 rfl ?_
    refine xa_iconst (pc := 25) dX10_rest_25 ?_
    refine xa_callV (pc := 26) (as := [xa_i 0]) (rest := [xa_i (13 * (sm_steps F 0))]) dX10_rest_26 ⟨qX10_straightAt.1, qX10_straightAt.2.1, qX10_straightAt.2.2, by decide, by decide⟩ lkRX10_129 imX10_straightAt seX10_straightAt rfl rfl (by omega) (by omega) hM0 rfl (Nat.le_of_ble_eq_true rfl) (Nat.zero_le _) (Nat.zero_le _) (c_mZero _ _ _ _ ⟨by omega, by omega⟩ ⟨hM0, hM1, hM2, hM3, hM4, hM5, hM6, hM7, hM8, hM9, hM10, hM11, hM12, hM13, hM14, hM15, hM16, by omega, by omega⟩ hv) (fun r h' hq => ?_)
    obtain ⟨rfl, hq⟩ := hq
    have hq := hq.symm
    subst hq
    have zz_26 := sm_zero_b F 0
    refine xa_iadd (pc := 29) dX10_rest_29 ?_
    refine xa_aload_n (pc := 30) dX10_rest_30 rfl ?_
    refine xa_iconst (pc := 31) dX10_rest_31 ?_
    refine xa_callV (pc := 32) (as := [xa_i 1]) (rest := [xa_i ((13 * (sm_steps F 0)) + (sm_zero F 0))]) dX10_rest_32 ⟨qX10_stepMany.1, qX10_stepMany.2.1, qX10_stepMany.2.2, by decide, by decide⟩ lkRX10_123 imX10_stepMany seX10_stepMany rfl rfl (by omega) (by omega) hM0 rfl (Nat.le_of_ble_eq_true rfl) (Nat.zero_le _) (Nat.zero_le _) (c_mSteps _ _ _ _ ⟨by omega, by omega⟩ ⟨hM0, hM1, hM2, hM3, hM4, hM5, hM6, hM7, hM8, hM9, hM10, hM11, hM12, hM13, hM14, hM15, hM16, by omega, by omega⟩ hv) (fun r h' hq => ?_)
    obtain ⟨rfl, hq⟩ := hq
    have hq := hq.symm
    subst hq
    have st_32 := sm_steps_b hv 1
    refine xa_imul (pc := 35) dX10_rest_35 ?_
    refine xa_aload_n (pc := 36) dX10_rest_36 rfl ?_
    refine xa_iconst (pc := 37) dX10_rest_37 ?_
    refine xa_callV (pc := 38) (as := [xa_i 1]) (rest := [xa_i (((13 * (sm_steps F 0)) + (sm_zero F 0)) * (sm_steps F 1))]) dX10_rest_38 ⟨qX10_straightAt.1, qX10_straightAt.2.1, qX10_straightAt.2.2, by decide, by decide⟩ lkRX10_129 imX10_straightAt seX10_straightAt rfl rfl (by omega) (by omega) hM0 rfl (Nat.le_of_ble_eq_true rfl) (Nat.zero_le _) (Nat.zero_le _) (c_mZero _ _ _ _ ⟨by omega, by omega⟩ ⟨hM0, hM1, hM2, hM3, hM4, hM5, hM6, hM7, hM8, hM9, hM10, hM11, hM12, hM13, hM14, hM15, hM16, by omega, by omega⟩ hv) (fun r h' hq => ?_)
    obtain ⟨rfl, hq⟩ := hq
    have hq := hq.symm
    subst hq
    have zz_38 := sm_zero_b F 1
    refine xa_iadd (pc := 41) dX10_rest_41 ?_
    refine xa_ireturn (pc := 42) dX10_rest_42 rfl trivial ?_
    exact ⟨congrArg (fun z => some (xa_i z)) (show (((13 * (sm_steps F 0)) + (sm_zero F 0)) * (sm_steps F 1)) + (sm_zero F 1) = sm_rest F by (unfold sm_rest; first | (rw [if_pos (by omega)]; done) | (rw [if_neg (by omega)]; done))), rfl⟩
  · skip
    refine xa_iconst (pc := 10) dX10_rest_10 ?_
    refine xa_goto (pc := 11) (tgt := 16) dX10_rest_11 (by decide) ?_
    refine xa_istoren (pc := 16) [some (xa_r k), some (xa_i 4)] dX10_rest_16 (by decide) (Nat.le_of_ble_eq_true rfl) rfl rfl ?_
    refine xa_iload_n (pc := 17) dX10_rest_17 rfl ?_
    refine xa_aload_n (pc := 18) dX10_rest_18 rfl ?_
    refine xa_iconst (pc := 19) dX10_rest_19 ?_
    refine xa_callV (pc := 20) (as := [xa_i 0]) (rest := [xa_i 4]) dX10_rest_20 ⟨qX10_stepMany.1, qX10_stepMany.2.1, qX10_stepMany.2.2, by decide, by decide⟩ lkRX10_123 imX10_stepMany seX10_stepMany rfl rfl (by omega) (by omega) hM0 rfl (Nat.le_of_ble_eq_true rfl) (Nat.zero_le _) (Nat.zero_le _) (c_mSteps _ _ _ _ ⟨by omega, by omega⟩ ⟨hM0, hM1, hM2, hM3, hM4, hM5, hM6, hM7, hM8, hM9, hM10, hM11, hM12, hM13, hM14, hM15, hM16, by omega, by omega⟩ hv) (fun r h' hq => ?_)
    obtain ⟨rfl, hq⟩ := hq
    have hq := hq.symm
    subst hq
    have st_20 := sm_steps_b hv 0
    refine xa_imul (pc := 23) dX10_rest_23 ?_
    refine xa_aload_n (pc := 24) dX10_rest_24 rfl ?_
    refine xa_iconst (pc := 25) dX10_rest_25 ?_
    refine xa_callV (pc := 26) (as := [xa_i 0]) (rest := [xa_i (4 * (sm_steps F 0))]) dX10_rest_26 ⟨qX10_straightAt.1, qX10_straightAt.2.1, qX10_straightAt.2.2, by decide, by decide⟩ lkRX10_129 imX10_straightAt seX10_straightAt rfl rfl (by omega) (by omega) hM0 rfl (Nat.le_of_ble_eq_true rfl) (Nat.zero_le _) (Nat.zero_le _) (c_mZero _ _ _ _ ⟨by omega, by omega⟩ ⟨hM0, hM1, hM2, hM3, hM4, hM5, hM6, hM7, hM8, hM9, hM10, hM11, hM12, hM13, hM14, hM15, hM16, by omega, by omega⟩ hv) (fun r h' hq => ?_)
    obtain ⟨rfl, hq⟩ := hq
    have hq := hq.symm
    subst hq
    have zz_26 := sm_zero_b F 0
    refine xa_iadd (pc := 29) dX10_rest_29 ?_
    refine xa_aload_n (pc := 30) dX10_rest_30 rfl ?_
    refine xa_iconst (pc := 31) dX10_rest_31 ?_
    refine xa_callV (pc := 32) (as := [xa_i 1]) (rest := [xa_i ((4 * (sm_steps F 0)) + (sm_zero F 0))]) dX10_rest_32 ⟨qX10_stepMany.1, qX10_stepMany.2.1, qX10_stepMany.2.2, by decide, by decide⟩ lkRX10_123 imX10_stepMany seX10_stepMany rfl rfl (by omega) (by omega) hM0 rfl (Nat.le_of_ble_eq_true rfl) (Nat.zero_le _) (Nat.zero_le _) (c_mSteps _ _ _ _ ⟨by omega, by omega⟩ ⟨hM0, hM1, hM2, hM3, hM4, hM5, hM6, hM7, hM8, hM9, hM10, hM11, hM12, hM13, hM14, hM15, hM16, by omega, by omega⟩ hv) (fun r h' hq => ?_)
    obtain ⟨rfl, hq⟩ := hq
    have hq := hq.symm
    subst hq
    have st_32 := sm_steps_b hv 1
    refine xa_imul (pc := 35) dX10_rest_35 ?_
    refine xa_aload_n (pc := 36) dX10_rest_36 rfl ?_
    refine xa_iconst (pc := 37) dX10_rest_37 ?_
    refine xa_callV (pc := 38) (as := [xa_i 1]) (rest := [xa_i (((4 * (sm_steps F 0)) + (sm_zero F 0)) * (sm_steps F 1))]) dX10_rest_38 ⟨qX10_straightAt.1, qX10_straightAt.2.1, qX10_straightAt.2.2, by decide, by decide⟩ lkRX10_129 imX10_straightAt seX10_straightAt rfl rfl (by omega) (by omega) hM0 rfl (Nat.le_of_ble_eq_true rfl) (Nat.zero_le _) (Nat.zero_le _) (c_mZero _ _ _ _ ⟨by omega, by omega⟩ ⟨hM0, hM1, hM2, hM3, hM4, hM5, hM6, hM7, hM8, hM9, hM10, hM11, hM12, hM13, hM14, hM15, hM16, by omega, by omega⟩ hv) (fun r h' hq => ?_)
    obtain ⟨rfl, hq⟩ := hq
    have hq := hq.symm
    subst hq
    have zz_38 := sm_zero_b F 1
    refine xa_iadd (pc := 41) dX10_rest_41 ?_
    refine xa_ireturn (pc := 42) dX10_rest_42 rfl trivial ?_
    exact ⟨congrArg (fun z => some (xa_i z)) (show (((4 * (sm_steps F 0)) + (sm_zero F 0)) * (sm_steps F 1)) + (sm_zero F 1) = sm_rest F by (unfold sm_rest; first | (rw [if_pos (by omega)]; done) | (rw [if_neg (by omega)]; done))), rfl⟩
theorem c_mStraight {G : xa_G} {h : xa_H} (k : Nat) (F : Nat → Nat → Int) (s : Nat → Int) (sh : Int) (hsh : 0 ≤ sh ∧ sh ≤ 4000000) (hM : xM h k F s) (hv : xMv F)  : xa_M G mX10_isStraight [xa_r k, xa_i sh] h 0 0 (fun r h' => r = some (xa_i (xa_b (sm_at F sh 0 = sm_zero F 0 ∧ sm_at F sh 1 = sm_zero F 1))) ∧ h' = h) := by
  refine xa_enter (by decide +kernel) (Nat.le_of_ble_eq_true rfl) ?_
  refine xa_locals (ls' := [some (xa_r k), some (xa_i sh)]) rfl ?_
  obtain ⟨hM0, hM1, hM2, hM3, hM4, hM5, hM6, hM7, hM8, hM9, hM10, hM11, hM12, hM13, hM14, hM15, hM16, hMk, hMn⟩ := hM
  obtain ⟨v1, v2, v3, v4, v5⟩ := id hv
  have sa := sm_steps_b hv 0
  have sb := sm_steps_b hv 1
  have ab := sm_ab sa sb
  refine xa_aload_n (pc := 0) dX10_isStraight_0 rfl ?_
  refine xa_iload_n (pc := 1) dX10_isStraight_1 rfl ?_
  refine xa_iconst (pc := 2) dX10_isStraight_2 ?_
  refine xa_callV (pc := 3) (as := [xa_i sh, xa_i 0]) (rest := []) dX10_isStraight_3 ⟨qX10_stepAt.1, qX10_stepAt.2.1, qX10_stepAt.2.2, by decide, by decide⟩ lkRX10_132 imX10_stepAt seX10_stepAt rfl rfl (by omega) (by omega) hM0 rfl (Nat.le_of_ble_eq_true rfl) (Nat.zero_le _) (Nat.zero_le _) (c_mAt _ _ _ _ (by omega) _ ⟨by omega, by omega⟩ ⟨hM0, hM1, hM2, hM3, hM4, hM5, hM6, hM7, hM8, hM9, hM10, hM11, hM12, hM13, hM14, hM15, hM16, by omega, by omega⟩ hv) (fun r h' hq => ?_)
  obtain ⟨rfl, hq⟩ := hq
  have hq := hq.symm
  subst hq
  have at_3 := sm_at_b hv sh 0
  refine xa_aload_n (pc := 6) dX10_isStraight_6 rfl ?_
  refine xa_iconst (pc := 7) dX10_isStraight_7 ?_
  refine xa_callV (pc := 8) (as := [xa_i 0]) (rest := [xa_i (sm_at F sh 0)]) dX10_isStraight_8 ⟨qX10_straightAt.1, qX10_straightAt.2.1, qX10_straightAt.2.2, by decide, by decide⟩ lkRX10_129 imX10_straightAt seX10_straightAt rfl rfl (by omega) (by omega) hM0 rfl (Nat.le_of_ble_eq_true rfl) (Nat.zero_le _) (Nat.zero_le _) (c_mZero _ _ _ _ ⟨by omega, by omega⟩ ⟨hM0, hM1, hM2, hM3, hM4, hM5, hM6, hM7, hM8, hM9, hM10, hM11, hM12, hM13, hM14, hM15, hM16, by omega, by omega⟩ hv) (fun r h' hq => ?_)
  obtain ⟨rfl, hq⟩ := hq
  have hq := hq.symm
  subst hq
  have zz_8 := sm_zero_b F 0
  refine xa_icmp_ne (pc := 11) (tgt := 32) dX10_isStraight_11 (by decide) ⟨by omega, by omega⟩ ⟨by omega, by omega⟩ (fun c_11 => ?_) (fun c_11 => ?_)
  · skip
    refine xa_iconst (pc := 32) dX10_isStraight_32 ?_
    refine xa_ireturn (pc := 33) dX10_isStraight_33 rfl (Or.inl rfl) ?_
    exact ⟨congrArg (fun z => some (xa_i z)) (xa_bf (by omega)), rfl⟩
  · skip
    refine xa_aload_n (pc := 14) dX10_isStraight_14 rfl ?_
    refine xa_iload_n (pc := 15) dX10_isStraight_15 rfl ?_
    refine xa_iconst (pc := 16) dX10_isStraight_16 ?_
    refine xa_callV (pc := 17) (as := [xa_i sh, xa_i 1]) (rest := []) dX10_isStraight_17 ⟨qX10_stepAt.1, qX10_stepAt.2.1, qX10_stepAt.2.2, by decide, by decide⟩ lkRX10_132 imX10_stepAt seX10_stepAt rfl rfl (by omega) (by omega) hM0 rfl (Nat.le_of_ble_eq_true rfl) (Nat.zero_le _) (Nat.zero_le _) (c_mAt _ _ _ _ (by omega) _ ⟨by omega, by omega⟩ ⟨hM0, hM1, hM2, hM3, hM4, hM5, hM6, hM7, hM8, hM9, hM10, hM11, hM12, hM13, hM14, hM15, hM16, by omega, by omega⟩ hv) (fun r h' hq => ?_)
    obtain ⟨rfl, hq⟩ := hq
    have hq := hq.symm
    subst hq
    have at_17 := sm_at_b hv sh 1
    refine xa_aload_n (pc := 20) dX10_isStraight_20 rfl ?_
    refine xa_iconst (pc := 21) dX10_isStraight_21 ?_
    refine xa_callV (pc := 22) (as := [xa_i 1]) (rest := [xa_i (sm_at F sh 1)]) dX10_isStraight_22 ⟨qX10_straightAt.1, qX10_straightAt.2.1, qX10_straightAt.2.2, by decide, by decide⟩ lkRX10_129 imX10_straightAt seX10_straightAt rfl rfl (by omega) (by omega) hM0 rfl (Nat.le_of_ble_eq_true rfl) (Nat.zero_le _) (Nat.zero_le _) (c_mZero _ _ _ _ ⟨by omega, by omega⟩ ⟨hM0, hM1, hM2, hM3, hM4, hM5, hM6, hM7, hM8, hM9, hM10, hM11, hM12, hM13, hM14, hM15, hM16, by omega, by omega⟩ hv) (fun r h' hq => ?_)
    obtain ⟨rfl, hq⟩ := hq
    have hq := hq.symm
    subst hq
    have zz_22 := sm_zero_b F 1
    refine xa_icmp_ne (pc := 25) (tgt := 32) dX10_isStraight_25 (by decide) ⟨by omega, by omega⟩ ⟨by omega, by omega⟩ (fun c_25 => ?_) (fun c_25 => ?_)
    · skip
      refine xa_iconst (pc := 32) dX10_isStraight_32 ?_
      refine xa_ireturn (pc := 33) dX10_isStraight_33 rfl (Or.inl rfl) ?_
      exact ⟨congrArg (fun z => some (xa_i z)) (xa_bf (by omega)), rfl⟩
    · skip
      refine xa_iconst (pc := 28) dX10_isStraight_28 ?_
      refine xa_goto (pc := 29) (tgt := 33) dX10_isStraight_29 (by decide) ?_
      refine xa_ireturn (pc := 33) dX10_isStraight_33 rfl (Or.inr rfl) ?_
      exact ⟨congrArg (fun z => some (xa_i z)) (xa_bt (by omega)), rfl⟩
theorem c_mFrom0 {G : xa_G} {h : xa_H} (k : Nat) (F : Nat → Nat → Int) (s : Nat → Int) (sh : Int) (hsh : 0 ≤ sh ∧ sh ≤ 4000000) (hM : xM h k F s) (hv : xMv F)  : xa_M G mX10_loadsFrom [xa_r k, xa_i sh, xa_i 0] h 0 0 (fun r h' => r = some (xa_i (sm_from F sh 0)) ∧ h' = h) := by
  refine xa_enter (by decide +kernel) (Nat.le_of_ble_eq_true rfl) ?_
  refine xa_locals (ls' := [some (xa_r k), some (xa_i sh), some (xa_i 0), none, none]) rfl ?_
  obtain ⟨hM0, hM1, hM2, hM3, hM4, hM5, hM6, hM7, hM8, hM9, hM10, hM11, hM12, hM13, hM14, hM15, hM16, hMk, hMn⟩ := hM
  obtain ⟨v1, v2, v3, v4, v5⟩ := id hv
  have sa := sm_steps_b hv 0
  have sb := sm_steps_b hv 1
  have ab := sm_ab sa sb
  refine xa_iconst (pc := 0) dX10_loadsFrom_0 ?_
  refine xa_istoren (pc := 1) [some (xa_r k), some (xa_i sh), some (xa_i 0), some (xa_i 0), none] dX10_loadsFrom_1 (by decide) (Nat.le_of_ble_eq_true rfl) rfl rfl ?_
  refine xa_iload_n (pc := 2) dX10_loadsFrom_2 rfl ?_
  refine xa_istorew (pc := 3) [some (xa_r k), some (xa_i sh), some (xa_i 0), some (xa_i 0), some (xa_i 0)] dX10_loadsFrom_3 (by decide) (Nat.le_of_ble_eq_true rfl) rfl rfl ?_
  refine xa_iload (pc := 5) dX10_loadsFrom_5 rfl ?_
  refine xa_aload_n (pc := 7) dX10_loadsFrom_7 rfl ?_
  refine xa_getfield (pc := 8) dX10_loadsFrom_8 flRX10_13 (by omega) (by omega) hM0 rfl ?_
  refine xa_iconst (pc := 11) dX10_loadsFrom_11 ?_
  refine xa_ialdw (pc := 12) 0 dX10_loadsFrom_12 (by omega) hM2 (by omega) (by omega) rfl ?_
  refine xa_icmp_ge (pc := 13) (tgt := 42) dX10_loadsFrom_13 (by decide) (by decide) ⟨by omega, by omega⟩ (fun c_13 => ?_) (fun c_13 => ?_)
  · skip
    refine xa_iload_n (pc := 42) dX10_loadsFrom_42 rfl ?_
    refine xa_ireturn (pc := 43) dX10_loadsFrom_43 rfl trivial ?_
    exact ⟨congrArg (fun z => some (xa_i z)) (show 0 = sm_from F sh 0 by unfold sm_from sm_ld; (repeat' split) <;> omega), rfl⟩
  · skip
    refine xa_iload_n (pc := 16) dX10_loadsFrom_16 rfl ?_
    refine xa_aload_n (pc := 17) dX10_loadsFrom_17 rfl ?_
    refine xa_getfield (pc := 18) dX10_loadsFrom_18 flRX10_16 (by omega) (by omega) hM0 rfl ?_
    refine xa_iconst (pc := 21) dX10_loadsFrom_21 ?_
    refine xa_iload (pc := 22) dX10_loadsFrom_22 rfl ?_
    refine xa_imul (pc := 24) dX10_loadsFrom_24 ?_
    refine xa_aload_n (pc := 25) dX10_loadsFrom_25 rfl ?_
    refine xa_iload_n (pc := 26) dX10_loadsFrom_26 rfl ?_
    refine xa_iload (pc := 27) dX10_loadsFrom_27 rfl ?_
    refine xa_callV (pc := 29) (as := [xa_i sh, xa_i 0]) (rest := [xa_i (3 * 0), xa_r (k + 3), xa_i 0]) dX10_loadsFrom_29 ⟨qX10_poseOf.1, qX10_poseOf.2.1, qX10_poseOf.2.2, by decide, by decide⟩ lkRX10_136 imX10_poseOf seX10_poseOf rfl rfl (by omega) (by omega) hM0 rfl (Nat.le_of_ble_eq_true rfl) (Nat.zero_le _) (Nat.zero_le _) (c_mPose _ _ _ _ (by omega) _ ⟨by omega, by omega⟩ ⟨hM0, hM1, hM2, hM3, hM4, hM5, hM6, hM7, hM8, hM9, hM10, hM11, hM12, hM13, hM14, hM15, hM16, by omega, by omega⟩ hv) (fun r h' hq => ?_)
    obtain ⟨rfl, hq⟩ := hq
    have hq := hq.symm
    subst hq
    have po_29 := sm_pose_b F sh 0
    refine xa_iadd (pc := 32) dX10_loadsFrom_32 ?_
    refine xa_ialdw (pc := 33) (((3 * 0) + (sm_pose F sh 0)).toNat) dX10_loadsFrom_33 (by omega) hM3 (by omega) (by omega) rfl ?_
    refine xa_iadd (pc := 34) dX10_loadsFrom_34 ?_
    refine xa_istoren (pc := 35) [some (xa_r k), some (xa_i sh), some (xa_i 0), some (xa_i (0 + ((F 3) (((3 * 0) + (sm_pose F sh 0)).toNat)))), some (xa_i 0)] dX10_loadsFrom_35 (by decide) (Nat.le_of_ble_eq_true rfl) rfl rfl ?_
    refine xa_iincw (pc := 36) (y := 1) [some (xa_r k), some (xa_i sh), some (xa_i 0), some (xa_i (0 + ((F 3) (((3 * 0) + (sm_pose F sh 0)).toNat)))), some (xa_i 1)] dX10_loadsFrom_36 (by decide) rfl rfl rfl rfl ?_
    refine xa_goto (pc := 39) (tgt := 5) dX10_loadsFrom_39 (by decide) ?_
    refine xa_iload (pc := 5) dX10_loadsFrom_5 rfl ?_
    refine xa_aload_n (pc := 7) dX10_loadsFrom_7 rfl ?_
    refine xa_getfield (pc := 8) dX10_loadsFrom_8 flRX10_13 (by omega) (by omega) hM0 rfl ?_
    refine xa_iconst (pc := 11) dX10_loadsFrom_11 ?_
    refine xa_ialdw (pc := 12) 0 dX10_loadsFrom_12 (by omega) hM2 (by omega) (by omega) rfl ?_
    refine xa_icmp_ge (pc := 13) (tgt := 42) dX10_loadsFrom_13 (by decide) (by decide) ⟨by omega, by omega⟩ (fun c_13 => ?_) (fun c_13 => ?_)
    · skip
      refine xa_iload_n (pc := 42) dX10_loadsFrom_42 rfl ?_
      refine xa_ireturn (pc := 43) dX10_loadsFrom_43 rfl trivial ?_
      exact ⟨congrArg (fun z => some (xa_i z)) (show 0 + ((F 3) (((3 * 0) + (sm_pose F sh 0)).toNat)) = sm_from F sh 0 by unfold sm_from sm_ld; (repeat' split) <;> omega), rfl⟩
    · skip
      refine xa_iload_n (pc := 16) dX10_loadsFrom_16 rfl ?_
      refine xa_aload_n (pc := 17) dX10_loadsFrom_17 rfl ?_
      refine xa_getfield (pc := 18) dX10_loadsFrom_18 flRX10_16 (by omega) (by omega) hM0 rfl ?_
      refine xa_iconst (pc := 21) dX10_loadsFrom_21 ?_
      refine xa_iload (pc := 22) dX10_loadsFrom_22 rfl ?_
      refine xa_imul (pc := 24) dX10_loadsFrom_24 ?_
      refine xa_aload_n (pc := 25) dX10_loadsFrom_25 rfl ?_
      refine xa_iload_n (pc := 26) dX10_loadsFrom_26 rfl ?_
      refine xa_iload (pc := 27) dX10_loadsFrom_27 rfl ?_
      refine xa_callV (pc := 29) (as := [xa_i sh, xa_i 1]) (rest := [xa_i (3 * 1), xa_r (k + 3), xa_i (0 + ((F 3) (((3 * 0) + (sm_pose F sh 0)).toNat)))]) dX10_loadsFrom_29 ⟨qX10_poseOf.1, qX10_poseOf.2.1, qX10_poseOf.2.2, by decide, by decide⟩ lkRX10_136 imX10_poseOf seX10_poseOf rfl rfl (by omega) (by omega) hM0 rfl (Nat.le_of_ble_eq_true rfl) (Nat.zero_le _) (Nat.zero_le _) (c_mPose _ _ _ _ (by omega) _ ⟨by omega, by omega⟩ ⟨hM0, hM1, hM2, hM3, hM4, hM5, hM6, hM7, hM8, hM9, hM10, hM11, hM12, hM13, hM14, hM15, hM16, by omega, by omega⟩ hv) (fun r h' hq => ?_)
      obtain ⟨rfl, hq⟩ := hq
      have hq := hq.symm
      subst hq
      have po_29 := sm_pose_b F sh 1
      refine xa_iadd (pc := 32) dX10_loadsFrom_32 ?_
      refine xa_ialdw (pc := 33) (((3 * 1) + (sm_pose F sh 1)).toNat) dX10_loadsFrom_33 (by omega) hM3 (by omega) (by omega) rfl ?_
      refine xa_iadd (pc := 34) dX10_loadsFrom_34 ?_
      refine xa_istoren (pc := 35) [some (xa_r k), some (xa_i sh), some (xa_i 0), some (xa_i ((0 + ((F 3) (((3 * 0) + (sm_pose F sh 0)).toNat))) + ((F 3) (((3 * 1) + (sm_pose F sh 1)).toNat)))), some (xa_i 1)] dX10_loadsFrom_35 (by decide) (Nat.le_of_ble_eq_true rfl) rfl rfl ?_
      refine xa_iincw (pc := 36) (y := 2) [some (xa_r k), some (xa_i sh), some (xa_i 0), some (xa_i ((0 + ((F 3) (((3 * 0) + (sm_pose F sh 0)).toNat))) + ((F 3) (((3 * 1) + (sm_pose F sh 1)).toNat)))), some (xa_i 2)] dX10_loadsFrom_36 (by decide) rfl rfl rfl rfl ?_
      refine xa_goto (pc := 39) (tgt := 5) dX10_loadsFrom_39 (by decide) ?_
      refine xa_iload (pc := 5) dX10_loadsFrom_5 rfl ?_
      refine xa_aload_n (pc := 7) dX10_loadsFrom_7 rfl ?_
      refine xa_getfield (pc := 8) dX10_loadsFrom_8 flRX10_13 (by omega) (by omega) hM0 rfl ?_
      refine xa_iconst (pc := 11) dX10_loadsFrom_11 ?_
      refine xa_ialdw (pc := 12) 0 dX10_loadsFrom_12 (by omega) hM2 (by omega) (by omega) rfl ?_
      refine xa_icmp_ge (pc := 13) (tgt := 42) dX10_loadsFrom_13 (by decide) (by decide) ⟨by omega, by omega⟩ (fun c_13 => ?_) (fun c_13 => ?_)
      · skip
        refine xa_iload_n (pc := 42) dX10_loadsFrom_42 rfl ?_
        refine xa_ireturn (pc := 43) dX10_loadsFrom_43 rfl trivial ?_
        exact ⟨congrArg (fun z => some (xa_i z)) (show (0 + ((F 3) (((3 * 0) + (sm_pose F sh 0)).toNat))) + ((F 3) (((3 * 1) + (sm_pose F sh 1)).toNat)) = sm_from F sh 0 by unfold sm_from sm_ld; (repeat' split) <;> omega), rfl⟩
      · skip
        refine xa_iload_n (pc := 16) dX10_loadsFrom_16 rfl ?_
        refine xa_aload_n (pc := 17) dX10_loadsFrom_17 rfl ?_
        refine xa_getfield (pc := 18) dX10_loadsFrom_18 flRX10_16 (by omega) (by omega) hM0 rfl ?_
        refine xa_iconst (pc := 21) dX10_loadsFrom_21 ?_
        refine xa_iload (pc := 22) dX10_loadsFrom_22 rfl ?_
        refine xa_imul (pc := 24) dX10_loadsFrom_24 ?_
        refine xa_aload_n (pc := 25) dX10_loadsFrom_25 rfl ?_
        refine xa_iload_n (pc := 26) dX10_loadsFrom_26 rfl ?_
        refine xa_iload (pc := 27) dX10_loadsFrom_27 rfl ?_
        refine xa_callV (pc := 29) (as := [xa_i sh, xa_i 2]) (rest := [xa_i (3 * 2), xa_r (k + 3), xa_i ((0 + ((F 3) (((3 * 0) + (sm_pose F sh 0)).toNat))) + ((F 3) (((3 * 1) + (sm_pose F sh 1)).toNat)))]) dX10_loadsFrom_29 ⟨qX10_poseOf.1, qX10_poseOf.2.1, qX10_poseOf.2.2, by decide, by decide⟩ lkRX10_136 imX10_poseOf seX10_poseOf rfl rfl (by omega) (by omega) hM0 rfl (Nat.le_of_ble_eq_true rfl) (Nat.zero_le _) (Nat.zero_le _) (c_mPose _ _ _ _ (by omega) _ ⟨by omega, by omega⟩ ⟨hM0, hM1, hM2, hM3, hM4, hM5, hM6, hM7, hM8, hM9, hM10, hM11, hM12, hM13, hM14, hM15, hM16, by omega, by omega⟩ hv) (fun r h' hq => ?_)
        obtain ⟨rfl, hq⟩ := hq
        have hq := hq.symm
        subst hq
        have po_29 := sm_pose_b F sh 2
        refine xa_iadd (pc := 32) dX10_loadsFrom_32 ?_
        refine xa_ialdw (pc := 33) (((3 * 2) + (sm_pose F sh 2)).toNat) dX10_loadsFrom_33 (by omega) hM3 (by omega) (by omega) rfl ?_
        refine xa_iadd (pc := 34) dX10_loadsFrom_34 ?_
        refine xa_istoren (pc := 35) [some (xa_r k), some (xa_i sh), some (xa_i 0), some (xa_i (((0 + ((F 3) (((3 * 0) + (sm_pose F sh 0)).toNat))) + ((F 3) (((3 * 1) + (sm_pose F sh 1)).toNat))) + ((F 3) (((3 * 2) + (sm_pose F sh 2)).toNat)))), some (xa_i 2)] dX10_loadsFrom_35 (by decide) (Nat.le_of_ble_eq_true rfl) rfl rfl ?_
        refine xa_iincw (pc := 36) (y := 3) [some (xa_r k), some (xa_i sh), some (xa_i 0), some (xa_i (((0 + ((F 3) (((3 * 0) + (sm_pose F sh 0)).toNat))) + ((F 3) (((3 * 1) + (sm_pose F sh 1)).toNat))) + ((F 3) (((3 * 2) + (sm_pose F sh 2)).toNat)))), some (xa_i 3)] dX10_loadsFrom_36 (by decide) rfl rfl rfl rfl ?_
        refine xa_goto (pc := 39) (tgt := 5) dX10_loadsFrom_39 (by decide) ?_
        refine xa_iload (pc := 5) dX10_loadsFrom_5 rfl ?_
        refine xa_aload_n (pc := 7) dX10_loadsFrom_7 rfl ?_
        refine xa_getfield (pc := 8) dX10_loadsFrom_8 flRX10_13 (by omega) (by omega) hM0 rfl ?_
        refine xa_iconst (pc := 11) dX10_loadsFrom_11 ?_
        refine xa_ialdw (pc := 12) 0 dX10_loadsFrom_12 (by omega) hM2 (by omega) (by omega) rfl ?_
        refine xa_icmp_ge (pc := 13) (tgt := 42) dX10_loadsFrom_13 (by decide) (by decide) ⟨by omega, by omega⟩ (fun c_13 => ?_) (fun c_13 => ?_)
        · skip
          refine xa_iload_n (pc := 42) dX10_loadsFrom_42 rfl ?_
          refine xa_ireturn (pc := 43) dX10_loadsFrom_43 rfl trivial ?_
          exact ⟨congrArg (fun z => some (xa_i z)) (show ((0 + ((F 3) (((3 * 0) + (sm_pose F sh 0)).toNat))) + ((F 3) (((3 * 1) + (sm_pose F sh 1)).toNat))) + ((F 3) (((3 * 2) + (sm_pose F sh 2)).toNat)) = sm_from F sh 0 by unfold sm_from sm_ld; (repeat' split) <;> omega), rfl⟩
        · skip
          exfalso; omega
theorem c_mFrom1 {G : xa_G} {h : xa_H} (k : Nat) (F : Nat → Nat → Int) (s : Nat → Int) (sh : Int) (hsh : 0 ≤ sh ∧ sh ≤ 4000000) (hM : xM h k F s) (hv : xMv F)  : xa_M G mX10_loadsFrom [xa_r k, xa_i sh, xa_i 1] h 0 0 (fun r h' => r = some (xa_i (sm_from F sh 1)) ∧ h' = h) := by
  refine xa_enter (by decide +kernel) (Nat.le_of_ble_eq_true rfl) ?_
  refine xa_locals (ls' := [some (xa_r k), some (xa_i sh), some (xa_i 1), none, none]) rfl ?_
  obtain ⟨hM0, hM1, hM2, hM3, hM4, hM5, hM6, hM7, hM8, hM9, hM10, hM11, hM12, hM13, hM14, hM15, hM16, hMk, hMn⟩ := hM
  obtain ⟨v1, v2, v3, v4, v5⟩ := id hv
  have sa := sm_steps_b hv 0
  have sb := sm_steps_b hv 1
  have ab := sm_ab sa sb
  refine xa_iconst (pc := 0) dX10_loadsFrom_0 ?_
  refine xa_istoren (pc := 1) [some (xa_r k), some (xa_i sh), some (xa_i 1), some (xa_i 0), none] dX10_loadsFrom_1 (by decide) (Nat.le_of_ble_eq_true rfl) rfl rfl ?_
  refine xa_iload_n (pc := 2) dX10_loadsFrom_2 rfl ?_
  refine xa_istorew (pc := 3) [some (xa_r k), some (xa_i sh), some (xa_i 1), some (xa_i 0), some (xa_i 1)] dX10_loadsFrom_3 (by decide) (Nat.le_of_ble_eq_true rfl) rfl rfl ?_
  refine xa_iload (pc := 5) dX10_loadsFrom_5 rfl ?_
  refine xa_aload_n (pc := 7) dX10_loadsFrom_7 rfl ?_
  refine xa_getfield (pc := 8) dX10_loadsFrom_8 flRX10_13 (by omega) (by omega) hM0 rfl ?_
  refine xa_iconst (pc := 11) dX10_loadsFrom_11 ?_
  refine xa_ialdw (pc := 12) 0 dX10_loadsFrom_12 (by omega) hM2 (by omega) (by omega) rfl ?_
  refine xa_icmp_ge (pc := 13) (tgt := 42) dX10_loadsFrom_13 (by decide) (by decide) ⟨by omega, by omega⟩ (fun c_13 => ?_) (fun c_13 => ?_)
  · skip
    refine xa_iload_n (pc := 42) dX10_loadsFrom_42 rfl ?_
    refine xa_ireturn (pc := 43) dX10_loadsFrom_43 rfl trivial ?_
    exact ⟨congrArg (fun z => some (xa_i z)) (show 0 = sm_from F sh 1 by unfold sm_from sm_ld; (repeat' split) <;> omega), rfl⟩
  · skip
    refine xa_iload_n (pc := 16) dX10_loadsFrom_16 rfl ?_
    refine xa_aload_n (pc := 17) dX10_loadsFrom_17 rfl ?_
    refine xa_getfield (pc := 18) dX10_loadsFrom_18 flRX10_16 (by omega) (by omega) hM0 rfl ?_
    refine xa_iconst (pc := 21) dX10_loadsFrom_21 ?_
    refine xa_iload (pc := 22) dX10_loadsFrom_22 rfl ?_
    refine xa_imul (pc := 24) dX10_loadsFrom_24 ?_
    refine xa_aload_n (pc := 25) dX10_loadsFrom_25 rfl ?_
    refine xa_iload_n (pc := 26) dX10_loadsFrom_26 rfl ?_
    refine xa_iload (pc := 27) dX10_loadsFrom_27 rfl ?_
    refine xa_callV (pc := 29) (as := [xa_i sh, xa_i 1]) (rest := [xa_i (3 * 1), xa_r (k + 3), xa_i 0]) dX10_loadsFrom_29 ⟨qX10_poseOf.1, qX10_poseOf.2.1, qX10_poseOf.2.2, by decide, by decide⟩ lkRX10_136 imX10_poseOf seX10_poseOf rfl rfl (by omega) (by omega) hM0 rfl (Nat.le_of_ble_eq_true rfl) (Nat.zero_le _) (Nat.zero_le _) (c_mPose _ _ _ _ (by omega) _ ⟨by omega, by omega⟩ ⟨hM0, hM1, hM2, hM3, hM4, hM5, hM6, hM7, hM8, hM9, hM10, hM11, hM12, hM13, hM14, hM15, hM16, by omega, by omega⟩ hv) (fun r h' hq => ?_)
    obtain ⟨rfl, hq⟩ := hq
    have hq := hq.symm
    subst hq
    have po_29 := sm_pose_b F sh 1
    refine xa_iadd (pc := 32) dX10_loadsFrom_32 ?_
    refine xa_ialdw (pc := 33) (((3 * 1) + (sm_pose F sh 1)).toNat) dX10_loadsFrom_33 (by omega) hM3 (by omega) (by omega) rfl ?_
    refine xa_iadd (pc := 34) dX10_loadsFrom_34 ?_
    refine xa_istoren (pc := 35) [some (xa_r k), some (xa_i sh), some (xa_i 1), some (xa_i (0 + ((F 3) (((3 * 1) + (sm_pose F sh 1)).toNat)))), some (xa_i 1)] dX10_loadsFrom_35 (by decide) (Nat.le_of_ble_eq_true rfl) rfl rfl ?_
    refine xa_iincw (pc := 36) (y := 2) [some (xa_r k), some (xa_i sh), some (xa_i 1), some (xa_i (0 + ((F 3) (((3 * 1) + (sm_pose F sh 1)).toNat)))), some (xa_i 2)] dX10_loadsFrom_36 (by decide) rfl rfl rfl rfl ?_
    refine xa_goto (pc := 39) (tgt := 5) dX10_loadsFrom_39 (by decide) ?_
    refine xa_iload (pc := 5) dX10_loadsFrom_5 rfl ?_
    refine xa_aload_n (pc := 7) dX10_loadsFrom_7 rfl ?_
    refine xa_getfield (pc := 8) dX10_loadsFrom_8 flRX10_13 (by omega) (by omega) hM0 rfl ?_
    refine xa_iconst (pc := 11) dX10_loadsFrom_11 ?_
    refine xa_ialdw (pc := 12) 0 dX10_loadsFrom_12 (by omega) hM2 (by omega) (by omega) rfl ?_
    refine xa_icmp_ge (pc := 13) (tgt := 42) dX10_loadsFrom_13 (by decide) (by decide) ⟨by omega, by omega⟩ (fun c_13 => ?_) (fun c_13 => ?_)
    · skip
      refine xa_iload_n (pc := 42) dX10_loadsFrom_42 rfl ?_
      refine xa_ireturn (pc := 43) dX10_loadsFrom_43 rfl trivial ?_
      exact ⟨congrArg (fun z => some (xa_i z)) (show 0 + ((F 3) (((3 * 1) + (sm_pose F sh 1)).toNat)) = sm_from F sh 1 by unfold sm_from sm_ld; (repeat' split) <;> omega), rfl⟩
    · skip
      refine xa_iload_n (pc := 16) dX10_loadsFrom_16 rfl ?_
      refine xa_aload_n (pc := 17) dX10_loadsFrom_17 rfl ?_
      refine xa_getfield (pc := 18) dX10_loadsFrom_18 flRX10_16 (by omega) (by omega) hM0 rfl ?_
      refine xa_iconst (pc := 21) dX10_loadsFrom_21 ?_
      refine xa_iload (pc := 22) dX10_loadsFrom_22 rfl ?_
      refine xa_imul (pc := 24) dX10_loadsFrom_24 ?_
      refine xa_aload_n (pc := 25) dX10_loadsFrom_25 rfl ?_
      refine xa_iload_n (pc := 26) dX10_loadsFrom_26 rfl ?_
      refine xa_iload (pc := 27) dX10_loadsFrom_27 rfl ?_
      refine xa_callV (pc := 29) (as := [xa_i sh, xa_i 2]) (rest := [xa_i (3 * 2), xa_r (k + 3), xa_i (0 + ((F 3) (((3 * 1) + (sm_pose F sh 1)).toNat)))]) dX10_loadsFrom_29 ⟨qX10_poseOf.1, qX10_poseOf.2.1, qX10_poseOf.2.2, by decide, by decide⟩ lkRX10_136 imX10_poseOf seX10_poseOf rfl rfl (by omega) (by omega) hM0 rfl (Nat.le_of_ble_eq_true rfl) (Nat.zero_le _) (Nat.zero_le _) (c_mPose _ _ _ _ (by omega) _ ⟨by omega, by omega⟩ ⟨hM0, hM1, hM2, hM3, hM4, hM5, hM6, hM7, hM8, hM9, hM10, hM11, hM12, hM13, hM14, hM15, hM16, by omega, by omega⟩ hv) (fun r h' hq => ?_)
      obtain ⟨rfl, hq⟩ := hq
      have hq := hq.symm
      subst hq
      have po_29 := sm_pose_b F sh 2
      refine xa_iadd (pc := 32) dX10_loadsFrom_32 ?_
      refine xa_ialdw (pc := 33) (((3 * 2) + (sm_pose F sh 2)).toNat) dX10_loadsFrom_33 (by omega) hM3 (by omega) (by omega) rfl ?_
      refine xa_iadd (pc := 34) dX10_loadsFrom_34 ?_
      refine xa_istoren (pc := 35) [some (xa_r k), some (xa_i sh), some (xa_i 1), some (xa_i ((0 + ((F 3) (((3 * 1) + (sm_pose F sh 1)).toNat))) + ((F 3) (((3 * 2) + (sm_pose F sh 2)).toNat)))), some (xa_i 2)] dX10_loadsFrom_35 (by decide) (Nat.le_of_ble_eq_true rfl) rfl rfl ?_
      refine xa_iincw (pc := 36) (y := 3) [some (xa_r k), some (xa_i sh), some (xa_i 1), some (xa_i ((0 + ((F 3) (((3 * 1) + (sm_pose F sh 1)).toNat))) + ((F 3) (((3 * 2) + (sm_pose F sh 2)).toNat)))), some (xa_i 3)] dX10_loadsFrom_36 (by decide) rfl rfl rfl rfl ?_
      refine xa_goto (pc := 39) (tgt := 5) dX10_loadsFrom_39 (by decide) ?_
      refine xa_iload (pc := 5) dX10_loadsFrom_5 rfl ?_
      refine xa_aload_n (pc := 7) dX10_loadsFrom_7 rfl ?_
      refine xa_getfield (pc := 8) dX10_loadsFrom_8 flRX10_13 (by omega) (by omega) hM0 rfl ?_
      refine xa_iconst (pc := 11) dX10_loadsFrom_11 ?_
      refine xa_ialdw (pc := 12) 0 dX10_loadsFrom_12 (by omega) hM2 (by omega) (by omega) rfl ?_
      refine xa_icmp_ge (pc := 13) (tgt := 42) dX10_loadsFrom_13 (by decide) (by decide) ⟨by omega, by omega⟩ (fun c_13 => ?_) (fun c_13 => ?_)
      · skip
        refine xa_iload_n (pc := 42) dX10_loadsFrom_42 rfl ?_
        refine xa_ireturn (pc := 43) dX10_loadsFrom_43 rfl trivial ?_
        exact ⟨congrArg (fun z => some (xa_i z)) (show (0 + ((F 3) (((3 * 1) + (sm_pose F sh 1)).toNat))) + ((F 3) (((3 * 2) + (sm_pose F sh 2)).toNat)) = sm_from F sh 1 by unfold sm_from sm_ld; (repeat' split) <;> omega), rfl⟩
      · skip
        exfalso; omega
theorem c_mFrom2 {G : xa_G} {h : xa_H} (k : Nat) (F : Nat → Nat → Int) (s : Nat → Int) (sh : Int) (hsh : 0 ≤ sh ∧ sh ≤ 4000000) (hM : xM h k F s) (hv : xMv F)  : xa_M G mX10_loadsFrom [xa_r k, xa_i sh, xa_i 2] h 0 0 (fun r h' => r = some (xa_i (sm_from F sh 2)) ∧ h' = h) := by
  refine xa_enter (by decide +kernel) (Nat.le_of_ble_eq_true rfl) ?_
  refine xa_locals (ls' := [some (xa_r k), some (xa_i sh), some (xa_i 2), none, none]) rfl ?_
  obtain ⟨hM0, hM1, hM2, hM3, hM4, hM5, hM6, hM7, hM8, hM9, hM10, hM11, hM12, hM13, hM14, hM15, hM16, hMk, hMn⟩ := hM
  obtain ⟨v1, v2, v3, v4, v5⟩ := id hv
  have sa := sm_steps_b hv 0
  have sb := sm_steps_b hv 1
  have ab := sm_ab sa sb
  refine xa_iconst (pc := 0) dX10_loadsFrom_0 ?_
  refine xa_istoren (pc := 1) [some (xa_r k), some (xa_i sh), some (xa_i 2), some (xa_i 0), none] dX10_loadsFrom_1 (by decide) (Nat.le_of_ble_eq_true rfl) rfl rfl ?_
  refine xa_iload_n (pc := 2) dX10_loadsFrom_2 rfl ?_
  refine xa_istorew (pc := 3) [some (xa_r k), some (xa_i sh), some (xa_i 2), some (xa_i 0), some (xa_i 2)] dX10_loadsFrom_3 (by decide) (Nat.le_of_ble_eq_true rfl) rfl rfl ?_
  refine xa_iload (pc := 5) dX10_loadsFrom_5 rfl ?_
  refine xa_aload_n (pc := 7) dX10_loadsFrom_7 rfl ?_
  refine xa_getfield (pc := 8) dX10_loadsFrom_8 flRX10_13 (by omega) (by omega) hM0 rfl ?_
  refine xa_iconst (pc := 11) dX10_loadsFrom_11 ?_
  refine xa_ialdw (pc := 12) 0 dX10_loadsFrom_12 (by omega) hM2 (by omega) (by omega) rfl ?_
  refine xa_icmp_ge (pc := 13) (tgt := 42) dX10_loadsFrom_13 (by decide) (by decide) ⟨by omega, by omega⟩ (fun c_13 => ?_) (fun c_13 => ?_)
  · skip
    refine xa_iload_n (pc := 42) dX10_loadsFrom_42 rfl ?_
    refine xa_ireturn (pc := 43) dX10_loadsFrom_43 rfl trivial ?_
    exact ⟨congrArg (fun z => some (xa_i z)) (show 0 = sm_from F sh 2 by unfold sm_from sm_ld; (repeat' split) <;> omega), rfl⟩
  · skip
    refine xa_iload_n (pc := 16) dX10_loadsFrom_16 rfl ?_
    refine xa_aload_n (pc := 17) dX10_loadsFrom_17 rfl ?_
    refine xa_getfield (pc := 18) dX10_loadsFrom_18 flRX10_16 (by omega) (by omega) hM0 rfl ?_
    refine xa_iconst (pc := 21) dX10_loadsFrom_21 ?_
    refine xa_iload (pc := 22) dX10_loadsFrom_22 rfl ?_
    refine xa_imul (pc := 24) dX10_loadsFrom_24 ?_
    refine xa_aload_n (pc := 25) dX10_loadsFrom_25 rfl ?_
    refine xa_iload_n (pc := 26) dX10_loadsFrom_26 rfl ?_
    refine xa_iload (pc := 27) dX10_loadsFrom_27 rfl ?_
    refine xa_callV (pc := 29) (as := [xa_i sh, xa_i 2]) (rest := [xa_i (3 * 2), xa_r (k + 3), xa_i 0]) dX10_loadsFrom_29 ⟨qX10_poseOf.1, qX10_poseOf.2.1, qX10_poseOf.2.2, by decide, by decide⟩ lkRX10_136 imX10_poseOf seX10_poseOf rfl rfl (by omega) (by omega) hM0 rfl (Nat.le_of_ble_eq_true rfl) (Nat.zero_le _) (Nat.zero_le _) (c_mPose _ _ _ _ (by omega) _ ⟨by omega, by omega⟩ ⟨hM0, hM1, hM2, hM3, hM4, hM5, hM6, hM7, hM8, hM9, hM10, hM11, hM12, hM13, hM14, hM15, hM16, by omega, by omega⟩ hv) (fun r h' hq => ?_)
    obtain ⟨rfl, hq⟩ := hq
    have hq := hq.symm
    subst hq
    have po_29 := sm_pose_b F sh 2
    refine xa_iadd (pc := 32) dX10_loadsFrom_32 ?_
    refine xa_ialdw (pc := 33) (((3 * 2) + (sm_pose F sh 2)).toNat) dX10_loadsFrom_33 (by omega) hM3 (by omega) (by omega) rfl ?_
    refine xa_iadd (pc := 34) dX10_loadsFrom_34 ?_
    refine xa_istoren (pc := 35) [some (xa_r k), some (xa_i sh), some (xa_i 2), some (xa_i (0 + ((F 3) (((3 * 2) + (sm_pose F sh 2)).toNat)))), some (xa_i 2)] dX10_loadsFrom_35 (by decide) (Nat.le_of_ble_eq_true rfl) rfl rfl ?_
    refine xa_iincw (pc := 36) (y := 3) [some (xa_r k), some (xa_i sh), some (xa_i 2), some (xa_i (0 + ((F 3) (((3 * 2) + (sm_pose F sh 2)).toNat)))), some (xa_i 3)] dX10_loadsFrom_36 (by decide) rfl rfl rfl rfl ?_
    refine xa_goto (pc := 39) (tgt := 5) dX10_loadsFrom_39 (by decide) ?_
    refine xa_iload (pc := 5) dX10_loadsFrom_5 rfl ?_
    refine xa_aload_n (pc := 7) dX10_loadsFrom_7 rfl ?_
    refine xa_getfield (pc := 8) dX10_loadsFrom_8 flRX10_13 (by omega) (by omega) hM0 rfl ?_
    refine xa_iconst (pc := 11) dX10_loadsFrom_11 ?_
    refine xa_ialdw (pc := 12) 0 dX10_loadsFrom_12 (by omega) hM2 (by omega) (by omega) rfl ?_
    refine xa_icmp_ge (pc := 13) (tgt := 42) dX10_loadsFrom_13 (by decide) (by decide) ⟨by omega, by omega⟩ (fun c_13 => ?_) (fun c_13 => ?_)
    · skip
      refine xa_iload_n (pc := 42) dX10_loadsFrom_42 rfl ?_
      refine xa_ireturn (pc := 43) dX10_loadsFrom_43 rfl trivial ?_
      exact ⟨congrArg (fun z => some (xa_i z)) (show 0 + ((F 3) (((3 * 2) + (sm_pose F sh 2)).toNat)) = sm_from F sh 2 by unfold sm_from sm_ld; (repeat' split) <;> omega), rfl⟩
    · skip
      exfalso; omega
theorem c_mFrom {G : xa_G} {h : xa_H} (k : Nat) (F : Nat → Nat → Int) (s : Nat → Int) (sh : Int) (hsh : 0 ≤ sh ∧ sh ≤ 4000000) (p : Int) (hp : p = 0 ∨ p = 1 ∨ p = 2) (hM : xM h k F s) (hv : xMv F) : xa_M G mX10_loadsFrom [xa_r k, xa_i sh, xa_i p] h 0 0 (fun r h' => r = some (xa_i (sm_from F sh p)) ∧ h' = h) := by
  rcases hp with rfl | rfl | rfl
  · exact c_mFrom0 _ _ _ _ hsh hM hv
  · exact c_mFrom1 _ _ _ _ hsh hM hv
  · exact c_mFrom2 _ _ _ _ hsh hM hv

def sm_posed (F : Nat → Nat → Int) (sh k p : Int) : Int := sh + (p - sm_pose F sh k) * sm_three k * sm_steps F 0 * sm_steps F 1
def sm_now (F : Nat → Nat → Int) (sh j b : Int) : Int := if F 6 j.toNat = 1 then (sm_at F sh j + b + sm_steps F j) % sm_steps F j else sm_at F sh j + b
def sm_bent (F : Nat → Nat → Int) (sh j b : Int) : Int := if 0 ≤ sm_now F sh j b ∧ sm_now F sh j b ≤ sm_steps F j - 1 then sh + (sm_now F sh j b - sm_at F sh j) * (if j = 0 then sm_steps F 1 else 1) else -4
def sm_moved (F : Nat → Nat → Int) (sh mv : Int) : Int := if mv = 0 then sh else if mv < 5 then (if 0 ≤ (mv - 1) / 2 ∧ (mv - 1) / 2 ≤ F 4 0 - 1 then sm_bent F sh ((mv - 1) / 2) (if mv % 2 = 1 then 1 else -1) else -4) else if mv < 10 ∨ ¬ (0 ≤ (mv - 10) / 3 ∧ (mv - 10) / 3 ≤ F 2 0 - 1) ∨ sm_pose F sh ((mv - 10) / 3) = (mv - 10) % 3 then -4 else sm_posed F sh ((mv - 10) / 3) ((mv - 10) % 3)
def sm_turned (F : Nat → Nat → Int) (pu sh mv : Int) : Int := pu.tdiv (sm_from F sh 0) - (if 1 ≤ mv ∧ mv ≤ 4 then ((if mv % 2 = 1 then F 5 ((mv - 1) / 2).toNat else -F 5 ((mv - 1) / 2).toNat) * sm_from F sh ((mv - 1) / 2 + 1)).tdiv (sm_from F sh 0) else 0)
theorem c_mPosed {G : xa_G} {h : xa_H} (k : Nat) (F : Nat → Nat → Int) (s : Nat → Int) (sh : Int) (hsh : 0 ≤ sh ∧ sh ≤ 4000000) (q p : Int) (hq : xa_ok q) (hM : xM h k F s) (hv : xMv F)  : xa_M G mX10_posed [xa_r k, xa_i sh, xa_i q, xa_i p] h 0 0 (fun r h' => r = some (xa_i (sm_posed F sh q p)) ∧ h' = h) := by
  refine xa_enter (by decide +kernel) (Nat.le_of_ble_eq_true rfl) ?_
  refine xa_locals (ls' := [some (xa_r k), some (xa_i sh), some (xa_i q), some (xa_i p)]) rfl ?_
  obtain ⟨hM0, hM1, hM2, hM3, hM4, hM5, hM6, hM7, hM8, hM9, hM10, hM11, hM12, hM13, hM14, hM15, hM16, hMk, hMn⟩ := hM
  obtain ⟨v1, v2, v3, v4, v5⟩ := id hv
  have sa := sm_steps_b hv 0
  have sb := sm_steps_b hv 1
  have ab := sm_ab sa sb
  refine xa_iload_n (pc := 0) dX10_posed_0 rfl ?_
  refine xa_iload_n (pc := 1) dX10_posed_1 rfl ?_
  refine xa_aload_n (pc := 2) dX10_posed_2 rfl ?_
  refine xa_iload_n (pc := 3) dX10_posed_3 rfl ?_
  refine xa_iload_n (pc := 4) dX10_posed_4 rfl ?_
  refine xa_callV (pc := 5) (as := [xa_i sh, xa_i q]) (rest := [xa_i p, xa_i sh]) dX10_posed_5 ⟨qX10_poseOf.1, qX10_poseOf.2.1, qX10_poseOf.2.2, by decide, by decide⟩ lkRX10_136 imX10_poseOf seX10_poseOf rfl rfl (by omega) (by omega) hM0 rfl (Nat.le_of_ble_eq_true rfl) (Nat.zero_le _) (Nat.zero_le _) (c_mPose _ _ _ _ (by omega) _ ⟨by omega, by omega⟩ ⟨hM0, hM1, hM2, hM3, hM4, hM5, hM6, hM7, hM8, hM9, hM10, hM11, hM12, hM13, hM14, hM15, hM16, by omega, by omega⟩ hv) (fun r h' hq => ?_)
  obtain ⟨rfl, hq⟩ := hq
  have hq := hq.symm
  subst hq
  have po_5 := sm_pose_b F sh q
  refine xa_isub (pc := 8) dX10_posed_8 ?_
  refine xa_iload_n (pc := 9) dX10_posed_9 rfl ?_
  refine xa_callS (pc := 10) (as := [xa_i q]) (rest := [xa_i (p - (sm_pose F sh q)), xa_i sh]) dX10_posed_10 ⟨qX10_threes.1, qX10_threes.2.1, qX10_threes.2.2, by decide, by decide⟩ lkRX10_126 smX10_threes rfl rfl (Nat.le_of_ble_eq_true rfl) (Nat.zero_le _) (Nat.zero_le _) (c_threes _ ⟨by omega, by omega⟩) (fun r h' hq => ?_)
  obtain ⟨rfl, hq⟩ := hq
  have hq := hq.symm
  subst hq
  refine xa_imul (pc := 13) dX10_posed_13 ?_
  refine xa_aload_n (pc := 14) dX10_posed_14 rfl ?_
  refine xa_iconst (pc := 15) dX10_posed_15 ?_
  refine xa_callV (pc := 16) (as := [xa_i 0]) (rest := [xa_i ((p - (sm_pose F sh q)) * (sm_three q)), xa_i sh]) dX10_posed_16 ⟨qX10_stepMany.1, qX10_stepMany.2.1, qX10_stepMany.2.2, by decide, by decide⟩ lkRX10_123 imX10_stepMany seX10_stepMany rfl rfl (by omega) (by omega) hM0 rfl (Nat.le_of_ble_eq_true rfl) (Nat.zero_le _) (Nat.zero_le _) (c_mSteps _ _ _ _ ⟨by omega, by omega⟩ ⟨hM0, hM1, hM2, hM3, hM4, hM5, hM6, hM7, hM8, hM9, hM10, hM11, hM12, hM13, hM14, hM15, hM16, by omega, by omega⟩ hv) (fun r h' hq => ?_)
  obtain ⟨rfl, hq⟩ := hq
  have hq := hq.symm
  subst hq
  have st_16 := sm_steps_b hv 0
  refine xa_imul (pc := 19) dX10_posed_19 ?_
  refine xa_aload_n (pc := 20) dX10_posed_20 rfl ?_
  refine xa_iconst (pc := 21) dX10_posed_21 ?_
  refine xa_callV (pc := 22) (as := [xa_i 1]) (rest := [xa_i (((p - (sm_pose F sh q)) * (sm_three q)) * (sm_steps F 0)), xa_i sh]) dX10_posed_22 ⟨qX10_stepMany.1, qX10_stepMany.2.1, qX10_stepMany.2.2, by decide, by decide⟩ lkRX10_123 imX10_stepMany seX10_stepMany rfl rfl (by omega) (by omega) hM0 rfl (Nat.le_of_ble_eq_true rfl) (Nat.zero_le _) (Nat.zero_le _) (c_mSteps _ _ _ _ ⟨by omega, by omega⟩ ⟨hM0, hM1, hM2, hM3, hM4, hM5, hM6, hM7, hM8, hM9, hM10, hM11, hM12, hM13, hM14, hM15, hM16, by omega, by omega⟩ hv) (fun r h' hq => ?_)
  obtain ⟨rfl, hq⟩ := hq
  have hq := hq.symm
  subst hq
  have st_22 := sm_steps_b hv 1
  refine xa_imul (pc := 25) dX10_posed_25 ?_
  refine xa_iadd (pc := 26) dX10_posed_26 ?_
  refine xa_ireturn (pc := 27) dX10_posed_27 rfl trivial ?_
  exact ⟨congrArg (fun z => some (xa_i z)) (show sh + ((((p - (sm_pose F sh q)) * (sm_three q)) * (sm_steps F 0)) * (sm_steps F 1)) = sm_posed F sh q p by rfl), rfl⟩
theorem c_mBent {G : xa_G} {h : xa_H} (k : Nat) (F : Nat → Nat → Int) (s : Nat → Int) (sh : Int) (hsh : 0 ≤ sh ∧ sh ≤ 4000000) (j b : Int) (hj : j = 0 ∨ j = 1) (hb : b = 1 ∨ b = -1) (hM : xM h k F s) (hv : xMv F)  : xa_M G mX10_bent [xa_r k, xa_i sh, xa_i j, xa_i b] h 0 0 (fun r h' => r = some (xa_i (sm_bent F sh j b)) ∧ h' = h) := by
  refine xa_enter (by decide +kernel) (Nat.le_of_ble_eq_true rfl) ?_
  refine xa_locals (ls' := [some (xa_r k), some (xa_i sh), some (xa_i j), some (xa_i b), none, none, none]) rfl ?_
  obtain ⟨hM0, hM1, hM2, hM3, hM4, hM5, hM6, hM7, hM8, hM9, hM10, hM11, hM12, hM13, hM14, hM15, hM16, hMk, hMn⟩ := hM
  obtain ⟨v1, v2, v3, v4, v5⟩ := id hv
  have sa := sm_steps_b hv 0
  have sb := sm_steps_b hv 1
  have ab := sm_ab sa sb
  refine xa_aload_n (pc := 0) dX10_bent_0 rfl ?_
  refine xa_iload_n (pc := 1) dX10_bent_1 rfl ?_
  refine xa_callV (pc := 2) (as := [xa_i j]) (rest := []) dX10_bent_2 ⟨qX10_stepMany.1, qX10_stepMany.2.1, qX10_stepMany.2.2, by decide, by decide⟩ lkRX10_123 imX10_stepMany seX10_stepMany rfl rfl (by omega) (by omega) hM0 rfl (Nat.le_of_ble_eq_true rfl) (Nat.zero_le _) (Nat.zero_le _) (c_mSteps _ _ _ _ ⟨by omega, by omega⟩ ⟨hM0, hM1, hM2, hM3, hM4, hM5, hM6, hM7, hM8, hM9, hM10, hM11, hM12, hM13, hM14, hM15, hM16, by omega, by omega⟩ hv) (fun r h' hq => ?_)
  obtain ⟨rfl, hq⟩ := hq
  have hq := hq.symm
  subst hq
  have st_2 := sm_steps_b hv j
  refine xa_istorew (pc := 5) [some (xa_r k), some (xa_i sh), some (xa_i j), some (xa_i b), some (xa_i (sm_steps F j)), none, none] dX10_bent_5 (by decide) (Nat.le_of_ble_eq_true rfl) rfl rfl ?_
  refine xa_aload_n (pc := 7) dX10_bent_7 rfl ?_
  refine xa_iload_n (pc := 8) dX10_bent_8 rfl ?_
  refine xa_iload_n (pc := 9) dX10_bent_9 rfl ?_
  refine xa_callV (pc := 10) (as := [xa_i sh, xa_i j]) (rest := []) dX10_bent_10 ⟨qX10_stepAt.1, qX10_stepAt.2.1, qX10_stepAt.2.2, by decide, by decide⟩ lkRX10_132 imX10_stepAt seX10_stepAt rfl rfl (by omega) (by omega) hM0 rfl (Nat.le_of_ble_eq_true rfl) (Nat.zero_le _) (Nat.zero_le _) (c_mAt _ _ _ _ (by omega) _ ⟨by omega, by omega⟩ ⟨hM0, hM1, hM2, hM3, hM4, hM5, hM6, hM7, hM8, hM9, hM10, hM11, hM12, hM13, hM14, hM15, hM16, by omega, by omega⟩ hv) (fun r h' hq => ?_)
  obtain ⟨rfl, hq⟩ := hq
  have hq := hq.symm
  subst hq
  have at_10 := sm_at_b hv sh j
  refine xa_istorew (pc := 13) [some (xa_r k), some (xa_i sh), some (xa_i j), some (xa_i b), some (xa_i (sm_steps F j)), some (xa_i (sm_at F sh j)), none] dX10_bent_13 (by decide) (Nat.le_of_ble_eq_true rfl) rfl rfl ?_
  refine xa_iload (pc := 15) dX10_bent_15 rfl ?_
  refine xa_iload_n (pc := 17) dX10_bent_17 rfl ?_
  refine xa_iadd (pc := 18) dX10_bent_18 ?_
  refine xa_istorew (pc := 19) [some (xa_r k), some (xa_i sh), some (xa_i j), some (xa_i b), some (xa_i (sm_steps F j)), some (xa_i (sm_at F sh j)), some (xa_i ((sm_at F sh j) + b))] dX10_bent_19 (by decide) (Nat.le_of_ble_eq_true rfl) rfl rfl ?_
  refine xa_aload_n (pc := 21) dX10_bent_21 rfl ?_
  refine xa_getfield (pc := 22) dX10_bent_22 flRX10_25 (by omega) (by omega) hM0 rfl ?_
  refine xa_iload_n (pc := 25) dX10_bent_25 rfl ?_
  refine xa_ialdw (pc := 26) j.toNat dX10_bent_26 (by omega) hM6 (by omega) (by omega) rfl ?_
  have b_26 := v4 (j.toNat)
  refine xa_iconst (pc := 27) dX10_bent_27 ?_
  refine xa_icmp_ne (pc := 28) (tgt := 41) dX10_bent_28 (by decide) ⟨by omega, by omega⟩ (by decide) (fun c_28 => ?_) (fun c_28 => ?_)
  · skip
    refine xa_iload (pc := 41) dX10_bent_41 rfl ?_
    refine xa_i2l (pc := 43) dX10_bent_43 ⟨by omega, by omega⟩ ?_
    refine xa_lconst (pc := 44) (n := 0) dX10_bent_44 rfl ?_
    refine xa_iload (pc := 45) dX10_bent_45 rfl ?_
    refine xa_iconst (pc := 47) dX10_bent_47 ?_
    refine xa_isub (pc := 48) dX10_bent_48 ?_
    refine xa_i2l (pc := 49) dX10_bent_49 ⟨by omega, by omega⟩ ?_
    refine xa_callS (pc := 50) (as := [xa_l ((sm_at F sh j) + b), xa_l 0, xa_l ((sm_steps F j) - 1)]) (rest := []) dX10_bent_50 ⟨qX10_in.1, qX10_in.2.1, qX10_in.2.2, by decide, by decide⟩ lkRX10_65 smX10_in rfl rfl (Nat.le_of_ble_eq_true rfl) (Nat.zero_le _) (Nat.zero_le _) (c_in _ _ _ ⟨by omega, by omega⟩ ⟨by omega, by omega⟩ ⟨by omega, by omega⟩) (fun r h' hq => ?_)
    obtain ⟨rfl, hq⟩ := hq
    have hq := hq.symm
    subst hq
    refine xa_if_ne (pc := 53) (tgt := 59) dX10_bent_53 (by decide) xa_okb (fun c_53 => ?_) (fun c_53 => ?_)
    · have c_53 := xa_b1.mp c_53
      refine xa_iload_n (pc := 59) dX10_bent_59 rfl ?_
      refine xa_iload (pc := 60) dX10_bent_60 rfl ?_
      refine xa_iload (pc := 62) dX10_bent_62 rfl ?_
      refine xa_isub (pc := 64) dX10_bent_64 ?_
      refine xa_iload_n (pc := 65) dX10_bent_65 rfl ?_
      refine xa_if_ne (pc := 66) (tgt := 77) dX10_bent_66 (by decide) ⟨by omega, by omega⟩ (fun c_66 => ?_) (fun c_66 => ?_)
      · skip
        refine xa_iconst (pc := 77) dX10_bent_77 ?_
        refine xa_imul (pc := 78) dX10_bent_78 ?_
        refine xa_iadd (pc := 79) dX10_bent_79 ?_
        refine xa_ireturn (pc := 80) dX10_bent_80 rfl trivial ?_
        have e6 : sm_now F sh j b = (sm_at F sh j) + b := by unfold sm_now; first | exact if_pos (by omega) | exact if_neg (by omega)
        exact ⟨congrArg (fun z => some (xa_i z)) (show sh + ((((sm_at F sh j) + b) - (sm_at F sh j)) * 1) = sm_bent F sh j b by unfold sm_bent; rw [e6, if_pos (by omega)]; first | (rw [if_pos (by omega)]; done) | (rw [if_neg (by omega)]; done)), rfl⟩
      · skip
        refine xa_aload_n (pc := 69) dX10_bent_69 rfl ?_
        refine xa_iconst (pc := 70) dX10_bent_70 ?_
        refine xa_callV (pc := 71) (as := [xa_i 1]) (rest := [xa_i (((sm_at F sh j) + b) - (sm_at F sh j)), xa_i sh]) dX10_bent_71 ⟨qX10_stepMany.1, qX10_stepMany.2.1, qX10_stepMany.2.2, by decide, by decide⟩ lkRX10_123 imX10_stepMany seX10_stepMany rfl rfl (by omega) (by omega) hM0 rfl (Nat.le_of_ble_eq_true rfl) (Nat.zero_le _) (Nat.zero_le _) (c_mSteps _ _ _ _ ⟨by omega, by omega⟩ ⟨hM0, hM1, hM2, hM3, hM4, hM5, hM6, hM7, hM8, hM9, hM10, hM11, hM12, hM13, hM14, hM15, hM16, by omega, by omega⟩ hv) (fun r h' hq => ?_)
        obtain ⟨rfl, hq⟩ := hq
        have hq := hq.symm
        subst hq
        have st_71 := sm_steps_b hv 1
        refine xa_goto (pc := 74) (tgt := 78) dX10_bent_74 (by decide) ?_
        refine xa_imul (pc := 78) dX10_bent_78 ?_
        refine xa_iadd (pc := 79) dX10_bent_79 ?_
        refine xa_ireturn (pc := 80) dX10_bent_80 rfl trivial ?_
        have e6 : sm_now F sh j b = (sm_at F sh j) + b := by unfold sm_now; first | exact if_pos (by omega) | exact if_neg (by omega)
        exact ⟨congrArg (fun z => some (xa_i z)) (show sh + ((((sm_at F sh j) + b) - (sm_at F sh j)) * (sm_steps F 1)) = sm_bent F sh j b by unfold sm_bent; rw [e6, if_pos (by omega)]; first | (rw [if_pos (by omega)]; done) | (rw [if_neg (by omega)]; done)), rfl⟩
    · have c_53 := xa_b0.mp c_53
      refine xa_bipush (pc := 56) dX10_bent_56 rfl ?_
      refine xa_ireturn (pc := 58) dX10_bent_58 rfl trivial ?_
      have e6 : sm_now F sh j b = (sm_at F sh j) + b := by unfold sm_now; first | exact if_pos (by omega) | exact if_neg (by omega)
      exact ⟨congrArg (fun z => some (xa_i z)) (show (-4 : Int) = sm_bent F sh j b by unfold sm_bent; rw [e6, if_neg (by omega)]), rfl⟩
  · skip
    refine xa_iload (pc := 31) dX10_bent_31 rfl ?_
    refine xa_iload (pc := 33) dX10_bent_33 rfl ?_
    refine xa_iadd (pc := 35) dX10_bent_35 ?_
    refine xa_iload (pc := 36) dX10_bent_36 rfl ?_
    refine xa_iremn (pc := 38) dX10_bent_38 ⟨by omega, by omega⟩ ⟨by omega, by omega⟩ (by omega) (by omega) ?_
    have mo := sm_mod (x := sm_at F sh j + b + sm_steps F j) (y := sm_steps F j) (by omega)
    refine xa_istorew (pc := 39) [some (xa_r k), some (xa_i sh), some (xa_i j), some (xa_i b), some (xa_i (sm_steps F j)), some (xa_i (sm_at F sh j)), some (xa_i ((((sm_at F sh j) + b) + (sm_steps F j)) % (sm_steps F j)))] dX10_bent_39 (by decide) (Nat.le_of_ble_eq_true rfl) rfl rfl ?_
    refine xa_iload (pc := 41) dX10_bent_41 rfl ?_
    refine xa_i2l (pc := 43) dX10_bent_43 ⟨by omega, by omega⟩ ?_
    refine xa_lconst (pc := 44) (n := 0) dX10_bent_44 rfl ?_
    refine xa_iload (pc := 45) dX10_bent_45 rfl ?_
    refine xa_iconst (pc := 47) dX10_bent_47 ?_
    refine xa_isub (pc := 48) dX10_bent_48 ?_
    refine xa_i2l (pc := 49) dX10_bent_49 ⟨by omega, by omega⟩ ?_
    refine xa_callS (pc := 50) (as := [xa_l ((((sm_at F sh j) + b) + (sm_steps F j)) % (sm_steps F j)), xa_l 0, xa_l ((sm_steps F j) - 1)]) (rest := []) dX10_bent_50 ⟨qX10_in.1, qX10_in.2.1, qX10_in.2.2, by decide, by decide⟩ lkRX10_65 smX10_in rfl rfl (Nat.le_of_ble_eq_true rfl) (Nat.zero_le _) (Nat.zero_le _) (c_in _ _ _ ⟨by omega, by omega⟩ ⟨by omega, by omega⟩ ⟨by omega, by omega⟩) (fun r h' hq => ?_)
    obtain ⟨rfl, hq⟩ := hq
    have hq := hq.symm
    subst hq
    refine xa_if_ne (pc := 53) (tgt := 59) dX10_bent_53 (by decide) xa_okb (fun c_53 => ?_) (fun c_53 => ?_)
    · have c_53 := xa_b1.mp c_53
      refine xa_iload_n (pc := 59) dX10_bent_59 rfl ?_
      refine xa_iload (pc := 60) dX10_bent_60 rfl ?_
      refine xa_iload (pc := 62) dX10_bent_62 rfl ?_
      refine xa_isub (pc := 64) dX10_bent_64 ?_
      refine xa_iload_n (pc := 65) dX10_bent_65 rfl ?_
      refine xa_if_ne (pc := 66) (tgt := 77) dX10_bent_66 (by decide) ⟨by omega, by omega⟩ (fun c_66 => ?_) (fun c_66 => ?_)
      · skip
        refine xa_iconst (pc := 77) dX10_bent_77 ?_
        refine xa_imul (pc := 78) dX10_bent_78 ?_
        refine xa_iadd (pc := 79) dX10_bent_79 ?_
        refine xa_ireturn (pc := 80) dX10_bent_80 rfl trivial ?_
        have e6 : sm_now F sh j b = (((sm_at F sh j) + b) + (sm_steps F j)) % (sm_steps F j) := by unfold sm_now; first | exact if_pos (by omega) | exact if_neg (by omega)
        exact ⟨congrArg (fun z => some (xa_i z)) (show sh + ((((((sm_at F sh j) + b) + (sm_steps F j)) % (sm_steps F j)) - (sm_at F sh j)) * 1) = sm_bent F sh j b by unfold sm_bent; rw [e6, if_pos (by omega)]; first | (rw [if_pos (by omega)]; done) | (rw [if_neg (by omega)]; done)), rfl⟩
      · skip
        refine xa_aload_n (pc := 69) dX10_bent_69 rfl ?_
        refine xa_iconst (pc := 70) dX10_bent_70 ?_
        refine xa_callV (pc := 71) (as := [xa_i 1]) (rest := [xa_i (((((sm_at F sh j) + b) + (sm_steps F j)) % (sm_steps F j)) - (sm_at F sh j)), xa_i sh]) dX10_bent_71 ⟨qX10_stepMany.1, qX10_stepMany.2.1, qX10_stepMany.2.2, by decide, by decide⟩ lkRX10_123 imX10_stepMany seX10_stepMany rfl rfl (by omega) (by omega) hM0 rfl (Nat.le_of_ble_eq_true rfl) (Nat.zero_le _) (Nat.zero_le _) (c_mSteps _ _ _ _ ⟨by omega, by omega⟩ ⟨hM0, hM1, hM2, hM3, hM4, hM5, hM6, hM7, hM8, hM9, hM10, hM11, hM12, hM13, hM14, hM15, hM16, by omega, by omega⟩ hv) (fun r h' hq => ?_)
        obtain ⟨rfl, hq⟩ := hq
        have hq := hq.symm
        subst hq
        have st_71 := sm_steps_b hv 1
        refine xa_goto (pc := 74) (tgt := 78) dX10_bent_74 (by decide) ?_
        refine xa_imul (pc := 78) dX10_bent_78 ?_
        refine xa_iadd (pc := 79) dX10_bent_79 ?_
        refine xa_ireturn (pc := 80) dX10_bent_80 rfl trivial ?_
        have e6 : sm_now F sh j b = (((sm_at F sh j) + b) + (sm_steps F j)) % (sm_steps F j) := by unfold sm_now; first | exact if_pos (by omega) | exact if_neg (by omega)
        exact ⟨congrArg (fun z => some (xa_i z)) (show sh + ((((((sm_at F sh j) + b) + (sm_steps F j)) % (sm_steps F j)) - (sm_at F sh j)) * (sm_steps F 1)) = sm_bent F sh j b by unfold sm_bent; rw [e6, if_pos (by omega)]; first | (rw [if_pos (by omega)]; done) | (rw [if_neg (by omega)]; done)), rfl⟩
    · have c_53 := xa_b0.mp c_53
      refine xa_bipush (pc := 56) dX10_bent_56 rfl ?_
      refine xa_ireturn (pc := 58) dX10_bent_58 rfl trivial ?_
      have e6 : sm_now F sh j b = (((sm_at F sh j) + b) + (sm_steps F j)) % (sm_steps F j) := by unfold sm_now; first | exact if_pos (by omega) | exact if_neg (by omega)
      exact ⟨congrArg (fun z => some (xa_i z)) (show (-4 : Int) = sm_bent F sh j b by unfold sm_bent; rw [e6, if_neg (by omega)]), rfl⟩
theorem c_mMoved {G : xa_G} {h : xa_H} (k : Nat) (F : Nat → Nat → Int) (s : Nat → Int) (sh : Int) (hsh : 0 ≤ sh ∧ sh ≤ 4000000) (mv : Int) (hmv : 0 ≤ mv ∧ mv ≤ 18) (hM : xM h k F s) (hv : xMv F)  : xa_M G mX10_moved [xa_r k, xa_i sh, xa_i mv] h 0 0 (fun r h' => r = some (xa_i (sm_moved F sh mv)) ∧ h' = h) := by
  refine xa_enter (by decide +kernel) (Nat.le_of_ble_eq_true rfl) ?_
  refine xa_locals (ls' := [some (xa_r k), some (xa_i sh), some (xa_i mv), none]) rfl ?_
  obtain ⟨hM0, hM1, hM2, hM3, hM4, hM5, hM6, hM7, hM8, hM9, hM10, hM11, hM12, hM13, hM14, hM15, hM16, hMk, hMn⟩ := hM
  obtain ⟨v1, v2, v3, v4, v5⟩ := id hv
  have sa := sm_steps_b hv 0
  have sb := sm_steps_b hv 1
  have ab := sm_ab sa sb
  refine xa_iload_n (pc := 0) dX10_moved_0 rfl ?_
  refine xa_if_ne (pc := 1) (tgt := 6) dX10_moved_1 (by decide) ⟨by omega, by omega⟩ (fun c_1 => ?_) (fun c_1 => ?_)
  · skip
    refine xa_iload_n (pc := 6) dX10_moved_6 rfl ?_
    refine xa_iconst (pc := 7) dX10_moved_7 ?_
    refine xa_icmp_ge (pc := 8) (tgt := 49) dX10_moved_8 (by decide) ⟨by omega, by omega⟩ (by decide) (fun c_8 => ?_) (fun c_8 => ?_)
    · skip
      refine xa_iload_n (pc := 49) dX10_moved_49 rfl ?_
      refine xa_bipush (pc := 50) dX10_moved_50 rfl ?_
      refine xa_isub (pc := 52) dX10_moved_52 ?_
      refine xa_iconst (pc := 53) dX10_moved_53 ?_
      refine xa_idiv (pc := 54) dX10_moved_54 ⟨by omega, by omega⟩ (by decide) (by decide) ?_
      refine xa_istoren (pc := 55) [some (xa_r k), some (xa_i sh), some (xa_i mv), some (xa_i ((mv - 10).tdiv 3))] dX10_moved_55 (by decide) (Nat.le_of_ble_eq_true rfl) rfl rfl ?_
      refine xa_iload_n (pc := 56) dX10_moved_56 rfl ?_
      refine xa_bipush (pc := 57) dX10_moved_57 rfl ?_
      refine xa_icmp_lt (pc := 59) (tgt := 85) dX10_moved_59 (by decide) ⟨by omega, by omega⟩ (by decide) (fun c_59 => ?_) (fun c_59 => ?_)
      · skip
        refine xa_bipush (pc := 85) dX10_moved_85 rfl ?_
        refine xa_ireturn (pc := 87) dX10_moved_87 rfl trivial ?_
        exact ⟨congrArg (fun z => some (xa_i z)) (show (-4) = sm_moved F sh mv by (unfold sm_moved; first | (rw [if_pos (by omega)]; done) | (rw [if_neg (by omega), if_pos (by omega), if_pos (by omega)]; first | (rw [if_pos (by omega)]; done) | (rw [if_neg (by omega)]; done)) | (rw [if_neg (by omega), if_pos (by omega), if_neg (by omega)]; done) | (rw [if_neg (by omega), if_neg (by omega), if_pos (by omega)]; done) | (rw [if_neg (by omega), if_neg (by omega), if_neg (by omega)]; done))), rfl⟩
      · skip
        have e3 : (mv - 10).tdiv 3 = (mv - 10) / 3 := Int.tdiv_eq_ediv_of_nonneg (by omega)
        refine xa_locals (ls' := [some (xa_r k), some (xa_i sh), some (xa_i mv), some (xa_i ((mv - 10) / 3))]) (by rw [e3]) ?_
        refine xa_aload_n (pc := 62) dX10_moved_62 rfl ?_
        refine xa_iload_n (pc := 63) dX10_moved_63 rfl ?_
        refine xa_callV (pc := 64) (as := [xa_i ((mv - 10) / 3)]) (rest := []) dX10_moved_64 ⟨qX10_isPart.1, qX10_isPart.2.1, qX10_isPart.2.2, by decide, by decide⟩ lkRX10_115 imX10_isPart seX10_isPart rfl rfl (by omega) (by omega) hM0 rfl (Nat.le_of_ble_eq_true rfl) (Nat.zero_le _) (Nat.zero_le _) (c_mPart _ _ _ _ ⟨by omega, by omega⟩ ⟨hM0, hM1, hM2, hM3, hM4, hM5, hM6, hM7, hM8, hM9, hM10, hM11, hM12, hM13, hM14, hM15, hM16, by omega, by omega⟩ hv) (fun r h' hq => ?_)
        obtain ⟨rfl, hq⟩ := hq
        have hq := hq.symm
        subst hq
        refine xa_if_eq (pc := 67) (tgt := 85) dX10_moved_67 (by decide) xa_okb (fun c_67 => ?_) (fun c_67 => ?_)
        · have c_67 := xa_b0.mp c_67
          refine xa_bipush (pc := 85) dX10_moved_85 rfl ?_
          refine xa_ireturn (pc := 87) dX10_moved_87 rfl trivial ?_
          exact ⟨congrArg (fun z => some (xa_i z)) (show (-4) = sm_moved F sh mv by (unfold sm_moved; first | (rw [if_pos (by omega)]; done) | (rw [if_neg (by omega), if_pos (by omega), if_pos (by omega)]; first | (rw [if_pos (by omega)]; done) | (rw [if_neg (by omega)]; done)) | (rw [if_neg (by omega), if_pos (by omega), if_neg (by omega)]; done) | (rw [if_neg (by omega), if_neg (by omega), if_pos (by omega)]; done) | (rw [if_neg (by omega), if_neg (by omega), if_neg (by omega)]; done))), rfl⟩
        · have c_67 := xa_b1.mp c_67
          refine xa_aload_n (pc := 70) dX10_moved_70 rfl ?_
          refine xa_iload_n (pc := 71) dX10_moved_71 rfl ?_
          refine xa_iload_n (pc := 72) dX10_moved_72 rfl ?_
          refine xa_callV (pc := 73) (as := [xa_i sh, xa_i ((mv - 10) / 3)]) (rest := []) dX10_moved_73 ⟨qX10_poseOf.1, qX10_poseOf.2.1, qX10_poseOf.2.2, by decide, by decide⟩ lkRX10_136 imX10_poseOf seX10_poseOf rfl rfl (by omega) (by omega) hM0 rfl (Nat.le_of_ble_eq_true rfl) (Nat.zero_le _) (Nat.zero_le _) (c_mPose _ _ _ _ (by omega) _ ⟨by omega, by omega⟩ ⟨hM0, hM1, hM2, hM3, hM4, hM5, hM6, hM7, hM8, hM9, hM10, hM11, hM12, hM13, hM14, hM15, hM16, by omega, by omega⟩ hv) (fun r h' hq => ?_)
          obtain ⟨rfl, hq⟩ := hq
          have hq := hq.symm
          subst hq
          have po_73 := sm_pose_b F sh ((mv - 10) / 3)
          refine xa_iload_n (pc := 76) dX10_moved_76 rfl ?_
          refine xa_bipush (pc := 77) dX10_moved_77 rfl ?_
          refine xa_isub (pc := 79) dX10_moved_79 ?_
          refine xa_iconst (pc := 80) dX10_moved_80 ?_
          refine xa_iremn (pc := 81) dX10_moved_81 ⟨by omega, by omega⟩ (by decide) (by omega) (by omega) ?_
          refine xa_icmp_ne (pc := 82) (tgt := 88) dX10_moved_82 (by decide) ⟨by omega, by omega⟩ ⟨by omega, by omega⟩ (fun c_82 => ?_) (fun c_82 => ?_)
          · skip
            refine xa_aload_n (pc := 88) dX10_moved_88 rfl ?_
            refine xa_iload_n (pc := 89) dX10_moved_89 rfl ?_
            refine xa_iload_n (pc := 90) dX10_moved_90 rfl ?_
            refine xa_iload_n (pc := 91) dX10_moved_91 rfl ?_
            refine xa_bipush (pc := 92) dX10_moved_92 rfl ?_
            refine xa_isub (pc := 94) dX10_moved_94 ?_
            refine xa_iconst (pc := 95) dX10_moved_95 ?_
            refine xa_iremn (pc := 96) dX10_moved_96 ⟨by omega, by omega⟩ (by decide) (by omega) (by omega) ?_
            refine xa_callV (pc := 97) (as := [xa_i sh, xa_i ((mv - 10) / 3), xa_i ((mv - 10) % 3)]) (rest := []) dX10_moved_97 ⟨qX10_posed.1, qX10_posed.2.1, qX10_posed.2.2, by decide, by decide⟩ lkRX10_143 imX10_posed seX10_posed rfl rfl (by omega) (by omega) hM0 rfl (Nat.le_of_ble_eq_true rfl) (Nat.zero_le _) (Nat.zero_le _) (c_mPosed _ _ _ _ (by omega) _ _ ⟨by omega, by omega⟩ ⟨hM0, hM1, hM2, hM3, hM4, hM5, hM6, hM7, hM8, hM9, hM10, hM11, hM12, hM13, hM14, hM15, hM16, by omega, by omega⟩ hv) (fun r h' hq => ?_)
            obtain ⟨rfl, hq⟩ := hq
            have hq := hq.symm
            subst hq
            refine xa_ireturn (pc := 100) dX10_moved_100 rfl trivial ?_
            exact ⟨congrArg (fun z => some (xa_i z)) (show sm_posed F sh ((mv - 10) / 3) ((mv - 10) % 3) = sm_moved F sh mv by (unfold sm_moved; first | (rw [if_pos (by omega)]; done) | (rw [if_neg (by omega), if_pos (by omega), if_pos (by omega)]; first | (rw [if_pos (by omega)]; done) | (rw [if_neg (by omega)]; done)) | (rw [if_neg (by omega), if_pos (by omega), if_neg (by omega)]; done) | (rw [if_neg (by omega), if_neg (by omega), if_pos (by omega)]; done) | (rw [if_neg (by omega), if_neg (by omega), if_neg (by omega)]; done))), rfl⟩
          · skip
            refine xa_bipush (pc := 85) dX10_moved_85 rfl ?_
            refine xa_ireturn (pc := 87) dX10_moved_87 rfl trivial ?_
            exact ⟨congrArg (fun z => some (xa_i z)) (show (-4) = sm_moved F sh mv by (unfold sm_moved; first | (rw [if_pos (by omega)]; done) | (rw [if_neg (by omega), if_pos (by omega), if_pos (by omega)]; first | (rw [if_pos (by omega)]; done) | (rw [if_neg (by omega)]; done)) | (rw [if_neg (by omega), if_pos (by omega), if_neg (by omega)]; done) | (rw [if_neg (by omega), if_neg (by omega), if_pos (by omega)]; done) | (rw [if_neg (by omega), if_neg (by omega), if_neg (by omega)]; done))), rfl⟩
    · skip
      refine xa_iload_n (pc := 11) dX10_moved_11 rfl ?_
      refine xa_iconst (pc := 12) dX10_moved_12 ?_
      refine xa_isub (pc := 13) dX10_moved_13 ?_
      refine xa_iconst (pc := 14) dX10_moved_14 ?_
      refine xa_idivn (pc := 15) dX10_moved_15 ⟨by omega, by omega⟩ (by decide) (by omega) (by omega) ?_
      refine xa_istoren (pc := 16) [some (xa_r k), some (xa_i sh), some (xa_i mv), some (xa_i ((mv - 1) / 2))] dX10_moved_16 (by decide) (Nat.le_of_ble_eq_true rfl) rfl rfl ?_
      refine xa_aload_n (pc := 17) dX10_moved_17 rfl ?_
      refine xa_iload_n (pc := 18) dX10_moved_18 rfl ?_
      refine xa_callV (pc := 19) (as := [xa_i ((mv - 1) / 2)]) (rest := []) dX10_moved_19 ⟨qX10_isJoint.1, qX10_isJoint.2.1, qX10_isJoint.2.2, by decide, by decide⟩ lkRX10_120 imX10_isJoint seX10_isJoint rfl rfl (by omega) (by omega) hM0 rfl (Nat.le_of_ble_eq_true rfl) (Nat.zero_le _) (Nat.zero_le _) (c_mJoint _ _ _ _ ⟨by omega, by omega⟩ ⟨hM0, hM1, hM2, hM3, hM4, hM5, hM6, hM7, hM8, hM9, hM10, hM11, hM12, hM13, hM14, hM15, hM16, by omega, by omega⟩ hv) (fun r h' hq => ?_)
      obtain ⟨rfl, hq⟩ := hq
      have hq := hq.symm
      subst hq
      refine xa_if_eq (pc := 22) (tgt := 46) dX10_moved_22 (by decide) xa_okb (fun c_22 => ?_) (fun c_22 => ?_)
      · have c_22 := xa_b0.mp c_22
        refine xa_bipush (pc := 46) dX10_moved_46 rfl ?_
        refine xa_ireturn (pc := 48) dX10_moved_48 rfl trivial ?_
        exact ⟨congrArg (fun z => some (xa_i z)) (show (-4) = sm_moved F sh mv by (unfold sm_moved; first | (rw [if_pos (by omega)]; done) | (rw [if_neg (by omega), if_pos (by omega), if_pos (by omega)]; first | (rw [if_pos (by omega)]; done) | (rw [if_neg (by omega)]; done)) | (rw [if_neg (by omega), if_pos (by omega), if_neg (by omega)]; done) | (rw [if_neg (by omega), if_neg (by omega), if_pos (by omega)]; done) | (rw [if_neg (by omega), if_neg (by omega), if_neg (by omega)]; done))), rfl⟩
      · have c_22 := xa_b1.mp c_22
        refine xa_aload_n (pc := 25) dX10_moved_25 rfl ?_
        refine xa_iload_n (pc := 26) dX10_moved_26 rfl ?_
        refine xa_iload_n (pc := 27) dX10_moved_27 rfl ?_
        refine xa_iload_n (pc := 28) dX10_moved_28 rfl ?_
        refine xa_iconst (pc := 29) dX10_moved_29 ?_
        refine xa_iremn (pc := 30) dX10_moved_30 ⟨by omega, by omega⟩ (by decide) (by omega) (by omega) ?_
        refine xa_iconst (pc := 31) dX10_moved_31 ?_
        refine xa_icmp_ne (pc := 32) (tgt := 39) dX10_moved_32 (by decide) ⟨by omega, by omega⟩ (by decide) (fun c_32 => ?_) (fun c_32 => ?_)
        · skip
          refine xa_iconst (pc := 39) dX10_moved_39 ?_
          refine xa_callV (pc := 40) (as := [xa_i sh, xa_i ((mv - 1) / 2), xa_i (-1)]) (rest := []) dX10_moved_40 ⟨qX10_bent.1, qX10_bent.2.1, qX10_bent.2.2, by decide, by decide⟩ lkRX10_139 imX10_bent seX10_bent rfl rfl (by omega) (by omega) hM0 rfl (Nat.le_of_ble_eq_true rfl) (Nat.zero_le _) (Nat.zero_le _) (c_mBent _ _ _ _ (by omega) _ _ (by omega) (by omega) ⟨hM0, hM1, hM2, hM3, hM4, hM5, hM6, hM7, hM8, hM9, hM10, hM11, hM12, hM13, hM14, hM15, hM16, by omega, by omega⟩ hv) (fun r h' hq => ?_)
          obtain ⟨rfl, hq⟩ := hq
          have hq := hq.symm
          subst hq
          refine xa_goto (pc := 43) (tgt := 48) dX10_moved_43 (by decide) ?_
          refine xa_ireturn (pc := 48) dX10_moved_48 rfl trivial ?_
          exact ⟨congrArg (fun z => some (xa_i z)) (show sm_bent F sh ((mv - 1) / 2) (-1) = sm_moved F sh mv by (unfold sm_moved; first | (rw [if_pos (by omega)]; done) | (rw [if_neg (by omega), if_pos (by omega), if_pos (by omega)]; first | (rw [if_pos (by omega)]; done) | (rw [if_neg (by omega)]; done)) | (rw [if_neg (by omega), if_pos (by omega), if_neg (by omega)]; done) | (rw [if_neg (by omega), if_neg (by omega), if_pos (by omega)]; done) | (rw [if_neg (by omega), if_neg (by omega), if_neg (by omega)]; done))), rfl⟩
        · skip
          refine xa_iconst (pc := 35) dX10_moved_35 ?_
          refine xa_goto (pc := 36) (tgt := 40) dX10_moved_36 (by decide) ?_
          refine xa_callV (pc := 40) (as := [xa_i sh, xa_i ((mv - 1) / 2), xa_i 1]) (rest := []) dX10_moved_40 ⟨qX10_bent.1, qX10_bent.2.1, qX10_bent.2.2, by decide, by decide⟩ lkRX10_139 imX10_bent seX10_bent rfl rfl (by omega) (by omega) hM0 rfl (Nat.le_of_ble_eq_true rfl) (Nat.zero_le _) (Nat.zero_le _) (c_mBent _ _ _ _ (by omega) _ _ (by omega) (by omega) ⟨hM0, hM1, hM2, hM3, hM4, hM5, hM6, hM7, hM8, hM9, hM10, hM11, hM12, hM13, hM14, hM15, hM16, by omega, by omega⟩ hv) (fun r h' hq => ?_)
          obtain ⟨rfl, hq⟩ := hq
          have hq := hq.symm
          subst hq
          refine xa_goto (pc := 43) (tgt := 48) dX10_moved_43 (by decide) ?_
          refine xa_ireturn (pc := 48) dX10_moved_48 rfl trivial ?_
          exact ⟨congrArg (fun z => some (xa_i z)) (show sm_bent F sh ((mv - 1) / 2) 1 = sm_moved F sh mv by (unfold sm_moved; first | (rw [if_pos (by omega)]; done) | (rw [if_neg (by omega), if_pos (by omega), if_pos (by omega)]; first | (rw [if_pos (by omega)]; done) | (rw [if_neg (by omega)]; done)) | (rw [if_neg (by omega), if_pos (by omega), if_neg (by omega)]; done) | (rw [if_neg (by omega), if_neg (by omega), if_pos (by omega)]; done) | (rw [if_neg (by omega), if_neg (by omega), if_neg (by omega)]; done))), rfl⟩
  · skip
    refine xa_iload_n (pc := 4) dX10_moved_4 rfl ?_
    refine xa_ireturn (pc := 5) dX10_moved_5 rfl trivial ?_
    exact ⟨congrArg (fun z => some (xa_i z)) (show sh = sm_moved F sh mv by (unfold sm_moved; first | (rw [if_pos (by omega)]; done) | (rw [if_neg (by omega), if_pos (by omega), if_pos (by omega)]; first | (rw [if_pos (by omega)]; done) | (rw [if_neg (by omega)]; done)) | (rw [if_neg (by omega), if_pos (by omega), if_neg (by omega)]; done) | (rw [if_neg (by omega), if_neg (by omega), if_pos (by omega)]; done) | (rw [if_neg (by omega), if_neg (by omega), if_neg (by omega)]; done))), rfl⟩
theorem c_mTurned {G : xa_G} {h : xa_H} (k : Nat) (F : Nat → Nat → Int) (s : Nat → Int) (sh : Int) (hsh : 0 ≤ sh ∧ sh ≤ 4000000) (mv : Int) (hmv : 0 ≤ mv ∧ mv ≤ 18) (hpu : -9999 ≤ s 14 ∧ s 14 ≤ 9999) (hall : 1 ≤ sm_from F sh 0) (hd5 : ∀ j, 0 ≤ F 5 j ∧ F 5 j ≤ 120) (hM : xM h k F s) (hv : xMv F)  : xa_M G mX10_turnedBy [xa_r k, xa_i sh, xa_i mv] h 0 0 (fun r h' => r = some (xa_i (sm_turned F (s 14) sh mv)) ∧ h' = h) := by
  refine xa_enter (by decide +kernel) (Nat.le_of_ble_eq_true rfl) ?_
  refine xa_locals (ls' := [some (xa_r k), some (xa_i sh), some (xa_i mv), none, none, none, none]) rfl ?_
  obtain ⟨hM0, hM1, hM2, hM3, hM4, hM5, hM6, hM7, hM8, hM9, hM10, hM11, hM12, hM13, hM14, hM15, hM16, hMk, hMn⟩ := hM
  obtain ⟨v1, v2, v3, v4, v5⟩ := id hv
  have sa := sm_steps_b hv 0
  have sb := sm_steps_b hv 1
  have ab := sm_ab sa sb
  refine xa_aload_n (pc := 0) dX10_turnedBy_0 rfl ?_
  refine xa_iload_n (pc := 1) dX10_turnedBy_1 rfl ?_
  refine xa_iconst (pc := 2) dX10_turnedBy_2 ?_
  refine xa_callV (pc := 3) (as := [xa_i sh, xa_i 0]) (rest := []) dX10_turnedBy_3 ⟨qX10_loadsFrom.1, qX10_loadsFrom.2.1, qX10_loadsFrom.2.2, by decide, by decide⟩ lkRX10_146 imX10_loadsFrom seX10_loadsFrom rfl rfl (by omega) (by omega) hM0 rfl (Nat.le_of_ble_eq_true rfl) (Nat.zero_le _) (Nat.zero_le _) (c_mFrom _ _ _ _ (by omega) _ (by omega) ⟨hM0, hM1, hM2, hM3, hM4, hM5, hM6, hM7, hM8, hM9, hM10, hM11, hM12, hM13, hM14, hM15, hM16, by omega, by omega⟩ hv) (fun r h' hq => ?_)
  obtain ⟨rfl, hq⟩ := hq
  have hq := hq.symm
  subst hq
  have fr_3 := sm_from_b hv sh 0
  refine xa_istoren (pc := 6) [some (xa_r k), some (xa_i sh), some (xa_i mv), some (xa_i (sm_from F sh 0)), none, none, none] dX10_turnedBy_6 (by decide) (Nat.le_of_ble_eq_true rfl) rfl rfl ?_
  refine xa_aload_n (pc := 7) dX10_turnedBy_7 rfl ?_
  refine xa_getfield (pc := 8) dX10_turnedBy_8 flRX10_149 (by omega) (by omega) hM0 rfl ?_
  refine xa_iload_n (pc := 11) dX10_turnedBy_11 rfl ?_
  refine xa_idiv (pc := 12) dX10_turnedBy_12 ⟨by omega, by omega⟩ ⟨by omega, by omega⟩ (by omega) ?_
  refine xa_istorew (pc := 13) [some (xa_r k), some (xa_i sh), some (xa_i mv), some (xa_i (sm_from F sh 0)), some (xa_i ((s 14).tdiv (sm_from F sh 0))), none, none] dX10_turnedBy_13 (by decide) (Nat.le_of_ble_eq_true rfl) rfl rfl ?_
  refine xa_iload_n (pc := 15) dX10_turnedBy_15 rfl ?_
  refine xa_i2l (pc := 16) dX10_turnedBy_16 ⟨by omega, by omega⟩ ?_
  refine xa_lconst (pc := 17) (n := 1) dX10_turnedBy_17 rfl ?_
  refine xa_ldc2 (pc := 18) (n := 4) dX10_turnedBy_18 ctRX10_85 rfl ?_
  refine xa_callS (pc := 21) (as := [xa_l mv, xa_l 1, xa_l 4]) (rest := []) dX10_turnedBy_21 ⟨qX10_in.1, qX10_in.2.1, qX10_in.2.2, by decide, by decide⟩ lkRX10_65 smX10_in rfl rfl (Nat.le_of_ble_eq_true rfl) (Nat.zero_le _) (Nat.zero_le _) (c_in _ _ _ ⟨by omega, by omega⟩ ⟨by omega, by omega⟩ ⟨by omega, by omega⟩) (fun r h' hq => ?_)
  obtain ⟨rfl, hq⟩ := hq
  have hq := hq.symm
  subst hq
  refine xa_if_eq (pc := 24) (tgt := 80) dX10_turnedBy_24 (by decide) xa_okb (fun c_24 => ?_) (fun c_24 => ?_)
  · have c_24 := xa_b0.mp c_24
    refine xa_iload (pc := 80) dX10_turnedBy_80 rfl ?_
    refine xa_ireturn (pc := 82) dX10_turnedBy_82 rfl trivial ?_
    exact ⟨congrArg (fun z => some (xa_i z)) (show (s 14).tdiv (sm_from F sh 0) = sm_turned F (s 14) sh mv by (unfold sm_turned; first | (rw [if_pos (by omega), if_pos (by omega)]; done) | (rw [if_pos (by omega), if_neg (by omega)]; done) | (rw [if_neg (by omega), Int.sub_zero]; done))), rfl⟩
  · have c_24 := xa_b1.mp c_24
    refine xa_iload_n (pc := 27) dX10_turnedBy_27 rfl ?_
    refine xa_iconst (pc := 28) dX10_turnedBy_28 ?_
    refine xa_isub (pc := 29) dX10_turnedBy_29 ?_
    refine xa_iconst (pc := 30) dX10_turnedBy_30 ?_
    refine xa_idivn (pc := 31) dX10_turnedBy_31 ⟨by omega, by omega⟩ (by decide) (by omega) (by omega) ?_
    refine xa_istorew (pc := 32) [some (xa_r k), some (xa_i sh), some (xa_i mv), some (xa_i (sm_from F sh 0)), some (xa_i ((s 14).tdiv (sm_from F sh 0))), some (xa_i ((mv - 1) / 2)), none] dX10_turnedBy_32 (by decide) (Nat.le_of_ble_eq_true rfl) rfl rfl ?_
    refine xa_iload_n (pc := 34) dX10_turnedBy_34 rfl ?_
    refine xa_iconst (pc := 35) dX10_turnedBy_35 ?_
    refine xa_iremn (pc := 36) dX10_turnedBy_36 ⟨by omega, by omega⟩ (by decide) (by omega) (by omega) ?_
    refine xa_iconst (pc := 37) dX10_turnedBy_37 ?_
    refine xa_icmp_ne (pc := 38) (tgt := 51) dX10_turnedBy_38 (by decide) ⟨by omega, by omega⟩ (by decide) (fun c_38 => ?_) (fun c_38 => ?_)
    · skip
      refine xa_aload_n (pc := 51) dX10_turnedBy_51 rfl ?_
      refine xa_getfield (pc := 52) dX10_turnedBy_52 flRX10_22 (by omega) (by omega) hM0 rfl ?_
      refine xa_iload (pc := 55) dX10_turnedBy_55 rfl ?_
      refine xa_ialdw (pc := 57) (((mv - 1) / 2).toNat) dX10_turnedBy_57 (by omega) hM5 (by omega) (by omega) rfl ?_
      have b_57 := hd5 (((mv - 1) / 2).toNat)
      refine xa_ineg (pc := 58) dX10_turnedBy_58 ?_
      refine xa_istorew (pc := 59) [some (xa_r k), some (xa_i sh), some (xa_i mv), some (xa_i (sm_from F sh 0)), some (xa_i ((s 14).tdiv (sm_from F sh 0))), some (xa_i ((mv - 1) / 2)), some (xa_i (-((F 5) (((mv - 1) / 2).toNat))))] dX10_turnedBy_59 (by decide) (Nat.le_of_ble_eq_true rfl) rfl rfl ?_
      refine xa_iload (pc := 61) dX10_turnedBy_61 rfl ?_
      refine xa_iload (pc := 63) dX10_turnedBy_63 rfl ?_
      refine xa_aload_n (pc := 65) dX10_turnedBy_65 rfl ?_
      refine xa_iload_n (pc := 66) dX10_turnedBy_66 rfl ?_
      refine xa_iload (pc := 67) dX10_turnedBy_67 rfl ?_
      refine xa_iconst (pc := 69) dX10_turnedBy_69 ?_
      refine xa_iadd (pc := 70) dX10_turnedBy_70 ?_
      refine xa_callV (pc := 71) (as := [xa_i sh, xa_i (((mv - 1) / 2) + 1)]) (rest := [xa_i (-((F 5) (((mv - 1) / 2).toNat))), xa_i ((s 14).tdiv (sm_from F sh 0))]) dX10_turnedBy_71 ⟨qX10_loadsFrom.1, qX10_loadsFrom.2.1, qX10_loadsFrom.2.2, by decide, by decide⟩ lkRX10_146 imX10_loadsFrom seX10_loadsFrom rfl rfl (by omega) (by omega) hM0 rfl (Nat.le_of_ble_eq_true rfl) (Nat.zero_le _) (Nat.zero_le _) (c_mFrom _ _ _ _ (by omega) _ (by omega) ⟨hM0, hM1, hM2, hM3, hM4, hM5, hM6, hM7, hM8, hM9, hM10, hM11, hM12, hM13, hM14, hM15, hM16, by omega, by omega⟩ hv) (fun r h' hq => ?_)
      obtain ⟨rfl, hq⟩ := hq
      have hq := hq.symm
      subst hq
      have fr_71 := sm_from_b hv sh (((mv - 1) / 2) + 1)
      refine xa_imul (pc := 74) dX10_turnedBy_74 ?_
      refine xa_iload_n (pc := 75) dX10_turnedBy_75 rfl ?_
      refine xa_idiv (pc := 76) dX10_turnedBy_76 (xa_okm (by omega) (by omega)) ⟨by omega, by omega⟩ (by omega) ?_
      refine xa_isub (pc := 77) dX10_turnedBy_77 ?_
      refine xa_istorew (pc := 78) [some (xa_r k), some (xa_i sh), some (xa_i mv), some (xa_i (sm_from F sh 0)), some (xa_i (((s 14).tdiv (sm_from F sh 0)) - (((-((F 5) (((mv - 1) / 2).toNat))) * (sm_from F sh (((mv - 1) / 2) + 1))).tdiv (sm_from F sh 0)))), some (xa_i ((mv - 1) / 2)), some (xa_i (-((F 5) (((mv - 1) / 2).toNat))))] dX10_turnedBy_78 (by decide) (Nat.le_of_ble_eq_true rfl) rfl rfl ?_
      refine xa_iload (pc := 80) dX10_turnedBy_80 rfl ?_
      refine xa_ireturn (pc := 82) dX10_turnedBy_82 rfl trivial ?_
      exact ⟨congrArg (fun z => some (xa_i z)) (show ((s 14).tdiv (sm_from F sh 0)) - (((-((F 5) (((mv - 1) / 2).toNat))) * (sm_from F sh (((mv - 1) / 2) + 1))).tdiv (sm_from F sh 0)) = sm_turned F (s 14) sh mv by (unfold sm_turned; first | (rw [if_pos (by omega), if_pos (by omega)]; done) | (rw [if_pos (by omega), if_neg (by omega)]; done) | (rw [if_neg (by omega), Int.sub_zero]; done))), rfl⟩
    · skip
      refine xa_aload_n (pc := 41) dX10_turnedBy_41 rfl ?_
      refine xa_getfield (pc := 42) dX10_turnedBy_42 flRX10_22 (by omega) (by omega) hM0 rfl ?_
      refine xa_iload (pc := 45) dX10_turnedBy_45 rfl ?_
      refine xa_ialdw (pc := 47) (((mv - 1) / 2).toNat) dX10_turnedBy_47 (by omega) hM5 (by omega) (by omega) rfl ?_
      have b_47 := hd5 (((mv - 1) / 2).toNat)
      refine xa_goto (pc := 48) (tgt := 59) dX10_turnedBy_48 (by decide) ?_
      refine xa_istorew (pc := 59) [some (xa_r k), some (xa_i sh), some (xa_i mv), some (xa_i (sm_from F sh 0)), some (xa_i ((s 14).tdiv (sm_from F sh 0))), some (xa_i ((mv - 1) / 2)), some (xa_i ((F 5) (((mv - 1) / 2).toNat)))] dX10_turnedBy_59 (by decide) (Nat.le_of_ble_eq_true rfl) rfl rfl ?_
      refine xa_iload (pc := 61) dX10_turnedBy_61 rfl ?_
      refine xa_iload (pc := 63) dX10_turnedBy_63 rfl ?_
      refine xa_aload_n (pc := 65) dX10_turnedBy_65 rfl ?_
      refine xa_iload_n (pc := 66) dX10_turnedBy_66 rfl ?_
      refine xa_iload (pc := 67) dX10_turnedBy_67 rfl ?_
      refine xa_iconst (pc := 69) dX10_turnedBy_69 ?_
      refine xa_iadd (pc := 70) dX10_turnedBy_70 ?_
      refine xa_callV (pc := 71) (as := [xa_i sh, xa_i (((mv - 1) / 2) + 1)]) (rest := [xa_i ((F 5) (((mv - 1) / 2).toNat)), xa_i ((s 14).tdiv (sm_from F sh 0))]) dX10_turnedBy_71 ⟨qX10_loadsFrom.1, qX10_loadsFrom.2.1, qX10_loadsFrom.2.2, by decide, by decide⟩ lkRX10_146 imX10_loadsFrom seX10_loadsFrom rfl rfl (by omega) (by omega) hM0 rfl (Nat.le_of_ble_eq_true rfl) (Nat.zero_le _) (Nat.zero_le _) (c_mFrom _ _ _ _ (by omega) _ (by omega) ⟨hM0, hM1, hM2, hM3, hM4, hM5, hM6, hM7, hM8, hM9, hM10, hM11, hM12, hM13, hM14, hM15, hM16, by omega, by omega⟩ hv) (fun r h' hq => ?_)
      obtain ⟨rfl, hq⟩ := hq
      have hq := hq.symm
      subst hq
      have fr_71 := sm_from_b hv sh (((mv - 1) / 2) + 1)
      refine xa_imul (pc := 74) dX10_turnedBy_74 ?_
      refine xa_iload_n (pc := 75) dX10_turnedBy_75 rfl ?_
      refine xa_idiv (pc := 76) dX10_turnedBy_76 (xa_okm (by omega) (by omega)) ⟨by omega, by omega⟩ (by omega) ?_
      refine xa_isub (pc := 77) dX10_turnedBy_77 ?_
      refine xa_istorew (pc := 78) [some (xa_r k), some (xa_i sh), some (xa_i mv), some (xa_i (sm_from F sh 0)), some (xa_i (((s 14).tdiv (sm_from F sh 0)) - ((((F 5) (((mv - 1) / 2).toNat)) * (sm_from F sh (((mv - 1) / 2) + 1))).tdiv (sm_from F sh 0)))), some (xa_i ((mv - 1) / 2)), some (xa_i ((F 5) (((mv - 1) / 2).toNat)))] dX10_turnedBy_78 (by decide) (Nat.le_of_ble_eq_true rfl) rfl rfl ?_
      refine xa_iload (pc := 80) dX10_turnedBy_80 rfl ?_
      refine xa_ireturn (pc := 82) dX10_turnedBy_82 rfl trivial ?_
      exact ⟨congrArg (fun z => some (xa_i z)) (show ((s 14).tdiv (sm_from F sh 0)) - ((((F 5) (((mv - 1) / 2).toNat)) * (sm_from F sh (((mv - 1) / 2) + 1))).tdiv (sm_from F sh 0)) = sm_turned F (s 14) sh mv by (unfold sm_turned; first | (rw [if_pos (by omega), if_pos (by omega)]; done) | (rw [if_pos (by omega), if_neg (by omega)]; done) | (rw [if_neg (by omega), Int.sub_zero]; done))), rfl⟩
