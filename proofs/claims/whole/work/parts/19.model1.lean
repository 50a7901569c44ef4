/-! The model: statics, its body -/
def xM (h : xa_H) (k : Nat) (F : Nat → Nat → Int) (s : Nat → Int) : Prop := h.1 k = xa_o 10 [xa_i (s 0), xa_r (k + 1), xa_r (k + 2), xa_r (k + 3), xa_r (k + 4), xa_r (k + 5), xa_r (k + 6), xa_r (k + 7), xa_r (k + 8), xa_r (k + 9), xa_r (k + 10), xa_r (k + 11), xa_r (k + 12), xa_i (s 13), xa_i (s 14), xa_i (s 15), xa_r (k + 13), xa_i (s 17), xa_i (s 18), xa_i (s 19), xa_i (s 20), xa_r (k + 14), xa_r (k + 15), xa_i (s 23), xa_r (k + 16)] ∧ h.1 (k + 1) = xa_a 120 (F 1) ∧ h.1 (k + 2) = xa_a 2 (F 2) ∧ h.1 (k + 3) = xa_a 18 (F 3) ∧ h.1 (k + 4) = xa_a 2 (F 4) ∧ h.1 (k + 5) = xa_a 4 (F 5) ∧ h.1 (k + 6) = xa_a 4 (F 6) ∧ h.1 (k + 7) = xa_a 2 (F 7) ∧ h.1 (k + 8) = xa_a 2 (F 8) ∧ h.1 (k + 9) = xa_a 12 (F 9) ∧ h.1 (k + 10) = xa_a 720 (F 10) ∧ h.1 (k + 11) = xa_a 3 (F 11) ∧ h.1 (k + 12) = xa_a 360 (F 12) ∧ h.1 (k + 13) = xa_a 3 (F 13) ∧ h.1 (k + 14) = xa_a 583200 (F 14) ∧ h.1 (k + 15) = xa_a 583200 (F 15) ∧ h.1 (k + 16) = xa_a 4 (F 16) ∧ 2 ≤ k ∧ k + 16 < h.2
/-- what the model holds of a body -/
def xMv (F : Nat → Nat → Int) : Prop := (0 ≤ F 2 0 ∧ F 2 0 ≤ 3) ∧ (0 ≤ F 4 0 ∧ F 4 0 ≤ 2) ∧ (∀ j : Nat, (j : Int) < F 4 0 → 1 ≤ F 5 j ∧ F 5 j ≤ 120) ∧ (∀ j : Nat, 0 ≤ F 6 j ∧ F 6 j ≤ 1) ∧ (∀ i : Nat, 0 ≤ F 3 i ∧ F 3 i ≤ 99)
def sm_steps (F : Nat → Nat → Int) (j : Int) : Int := if 0 ≤ j ∧ j ≤ F 4 0 - 1 then (if F 6 j.toNat = 1 then 360 / F 5 j.toNat else 5) else 1
def sm_zero (F : Nat → Nat → Int) (j : Int) : Int := if (0 ≤ j ∧ j ≤ F 4 0 - 1) ∧ F 6 j.toNat = 0 then 2 else 0
def sm_off (a b : Int) : Int := if 180 < (if a < b then b - a else a - b) then 360 - (if a < b then b - a else a - b) else (if a < b then b - a else a - b)
def sm_three (k : Int) : Int := if k = 0 then 1 else if k = 1 then 3 else 9
theorem sm_steps_b {F : Nat → Nat → Int} (hv : xMv F) (j : Int) : 1 ≤ sm_steps F j ∧ sm_steps F j ≤ 360 := by
  obtain ⟨h1, h2, h3, h4, h5⟩ := hv
  unfold sm_steps
  split
  · rename_i hj
    split
    · have := h3 j.toNat (by omega)
      have a : 360 / F 5 j.toNat ≤ 360 := Int.ediv_le_self _ (by decide)
      have b : 1 ≤ 360 / F 5 j.toNat := (Int.le_ediv_iff_mul_le (by omega)).mpr (by omega)
      omega
    · omega
  · omega

theorem c_in {G : xa_G} {h : xa_H} (v a b : Int) (h1 : xa_okl v) (h2 : xa_okl a) (h3 : xa_okl b)  : xa_M G mX10_in [xa_l v, xa_l a, xa_l b] h 0 0 (fun r h' => r = some (xa_i (xa_b (a ≤ v ∧ v ≤ b))) ∧ h' = h) := by
  refine xa_enter (by decide +kernel) (Nat.le_of_ble_eq_true rfl) ?_
  refine xa_locals (ls' := [some (xa_l v), none, some (xa_l a), none, some (xa_l b), none]) rfl ?_
  refine xa_lload_n (pc := 0) dX10_in_0 rfl ?_
  refine xa_lload_n (pc := 1) dX10_in_1 rfl ?_
  refine xa_lcmp (pc := 2) dX10_in_2 ⟨by omega, by omega⟩ ⟨by omega, by omega⟩ ?_
  refine xa_if_lt (pc := 3) (tgt := 17) dX10_in_3 (by decide) (by split <;> first | decide | (split <;> decide)) (fun c_3 => ?_) (fun c_3 => ?_)
  · have c_3 : v < a := by revert c_3; split <;> first | omega | (split <;> omega)
    refine xa_iconst (pc := 17) dX10_in_17 ?_
    refine xa_ireturn (pc := 18) dX10_in_18 rfl (Or.inl rfl) ?_
    exact ⟨congrArg (fun z => some (xa_i z)) (xa_bf (by omega)), rfl⟩
  · have c_3 : v ≥ a := by revert c_3; split <;> first | omega | (split <;> omega)
    refine xa_lload_n (pc := 6) dX10_in_6 rfl ?_
    refine xa_lload (pc := 7) dX10_in_7 rfl ?_
    refine xa_lcmp (pc := 9) dX10_in_9 ⟨by omega, by omega⟩ ⟨by omega, by omega⟩ ?_
    refine xa_if_gt (pc := 10) (tgt := 17) dX10_in_10 (by decide) (by split <;> first | decide | (split <;> decide)) (fun c_10 => ?_) (fun c_10 => ?_)
    · have c_10 : v > b := by revert c_10; split <;> first | omega | (split <;> omega)
      refine xa_iconst (pc := 17) dX10_in_17 ?_
      refine xa_ireturn (pc := 18) dX10_in_18 rfl (Or.inl rfl) ?_
      exact ⟨congrArg (fun z => some (xa_i z)) (xa_bf (by omega)), rfl⟩
    · have c_10 : v ≤ b := by revert c_10; split <;> first | omega | (split <;> omega)
      refine xa_iconst (pc := 13) dX10_in_13 ?_
      refine xa_goto (pc := 14) (tgt := 18) dX10_in_14 (by decide) ?_
      refine xa_ireturn (pc := 18) dX10_in_18 rfl (Or.inr rfl) ?_
      exact ⟨congrArg (fun z => some (xa_i z)) (xa_bt (by omega)), rfl⟩
theorem c_threes {G : xa_G} {h : xa_H} (k : Int) (h1 : xa_ok k)  : xa_M G mX10_threes [xa_i k] h 0 0 (fun r h' => r = some (xa_i (sm_three k)) ∧ h' = h) := by
  refine xa_enter (by decide +kernel) (Nat.le_of_ble_eq_true rfl) ?_
  refine xa_locals (ls' := [some (xa_i k)]) rfl ?_
  refine xa_iload_n (pc := 0) dX10_threes_0 rfl ?_
  refine xa_if_ne (pc := 1) (tgt := 8) dX10_threes_1 (by decide) ⟨by omega, by omega⟩ (fun c_1 => ?_) (fun c_1 => ?_)
  · skip
    refine xa_iload_n (pc := 8) dX10_threes_8 rfl ?_
    refine xa_iconst (pc := 9) dX10_threes_9 ?_
    refine xa_icmp_ne (pc := 10) (tgt := 17) dX10_threes_10 (by decide) ⟨by omega, by omega⟩ (by decide) (fun c_10 => ?_) (fun c_10 => ?_)
    · skip
      refine xa_bipush (pc := 17) dX10_threes_17 rfl ?_
      refine xa_ireturn (pc := 19) dX10_threes_19 rfl trivial ?_
      exact ⟨congrArg (fun z => some (xa_i z)) (show 9 = sm_three k by (unfold sm_three; first | (rw [if_pos (by omega)]; done) | (rw [if_neg (by omega), if_pos (by omega)]; done) | (rw [if_neg (by omega), if_neg (by omega)]))), rfl⟩
    · skip
      refine xa_iconst (pc := 13) dX10_threes_13 ?_
      refine xa_goto (pc := 14) (tgt := 19) dX10_threes_14 (by decide) ?_
      refine xa_ireturn (pc := 19) dX10_threes_19 rfl trivial ?_
      exact ⟨congrArg (fun z => some (xa_i z)) (show 3 = sm_three k by (unfold sm_three; first | (rw [if_pos (by omega)]; done) | (rw [if_neg (by omega), if_pos (by omega)]; done) | (rw [if_neg (by omega), if_neg (by omega)]))), rfl⟩
  · skip
    refine xa_iconst (pc := 4) dX10_threes_4 ?_
    refine xa_goto (pc := 5) (tgt := 19) dX10_threes_5 (by decide) ?_
    refine xa_ireturn (pc := 19) dX10_threes_19 rfl trivial ?_
    exact ⟨congrArg (fun z => some (xa_i z)) (show 1 = sm_three k by (unfold sm_three; first | (rw [if_pos (by omega)]; done) | (rw [if_neg (by omega), if_pos (by omega)]; done) | (rw [if_neg (by omega), if_neg (by omega)]))), rfl⟩
theorem c_round {G : xa_G} {h : xa_H} (v : Int) (h1 : -2000000000 ≤ v ∧ v ≤ 2000000000)  : xa_M G mX10_round [xa_i v] h 0 0 (fun r h' => r = some (xa_i (v % 360)) ∧ h' = h) := by
  refine xa_enter (by decide +kernel) (Nat.le_of_ble_eq_true rfl) ?_
  refine xa_locals (ls' := [some (xa_i v), none]) rfl ?_
  refine xa_iload_n (pc := 0) dX10_round_0 rfl ?_
  refine xa_sipush (pc := 1) dX10_round_1 rfl ?_
  refine xa_irem (pc := 4) dX10_round_4 ⟨by omega, by omega⟩ (by decide) (by omega) ?_
  refine xa_istoren (pc := 5) [some (xa_i v), some (xa_i (v.tmod 360))] dX10_round_5 (by decide) (Nat.le_of_ble_eq_true rfl) rfl rfl ?_
  refine xa_iload_n (pc := 6) dX10_round_6 rfl ?_
  refine xa_if_ge (pc := 7) (tgt := 18) dX10_round_7 (by decide) (xa_ok_tmod ⟨by omega, by omega⟩ (by decide)) (fun c_7 => ?_) (fun c_7 => ?_)
  · skip
    refine xa_iload_n (pc := 18) dX10_round_18 rfl ?_
    refine xa_ireturn (pc := 19) dX10_round_19 rfl trivial ?_
    exact ⟨congrArg (fun z => some (xa_i z)) (show v.tmod 360 = v % 360 by (have e := xa_tmod_pos (x := v) (y := 360) (by decide); have e3 := Int.tmod_nonneg (a := v) 360; rw [e]; split <;> omega)), rfl⟩
  · skip
    refine xa_iload_n (pc := 10) dX10_round_10 rfl ?_
    refine xa_sipush (pc := 11) dX10_round_11 rfl ?_
    refine xa_iadd (pc := 14) dX10_round_14 ?_
    refine xa_goto (pc := 15) (tgt := 19) dX10_round_15 (by decide) ?_
    refine xa_ireturn (pc := 19) dX10_round_19 rfl trivial ?_
    exact ⟨congrArg (fun z => some (xa_i z)) (show (v.tmod 360) + 360 = v % 360 by (have e := xa_tmod_pos (x := v) (y := 360) (by decide); have e3 := Int.tmod_nonneg (a := v) 360; rw [e]; split <;> omega)), rfl⟩
theorem c_moff {G : xa_G} {h : xa_H} (a b : Int) (h1 : -100000 ≤ a ∧ a ≤ 100000) (h2 : -100000 ≤ b ∧ b ≤ 100000)  : xa_M G mX10_off [xa_i a, xa_i b] h 0 0 (fun r h' => r = some (xa_i (sm_off a b)) ∧ h' = h) := by
  refine xa_enter (by decide +kernel) (Nat.le_of_ble_eq_true rfl) ?_
  refine xa_locals (ls' := [some (xa_i a), some (xa_i b), none]) rfl ?_
  refine xa_iload_n (pc := 0) dX10_off_0 rfl ?_
  refine xa_iload_n (pc := 1) dX10_off_1 rfl ?_
  refine xa_icmp_ge (pc := 2) (tgt := 11) dX10_off_2 (by decide) ⟨by omega, by omega⟩ ⟨by omega, by omega⟩ (fun c_2 => ?_) (fun c_2 => ?_)
  · skip
    refine xa_iload_n (pc := 11) dX10_off_11 rfl ?_
    refine xa_iload_n (pc := 12) dX10_off_12 rfl ?_
    refine xa_isub (pc := 13) dX10_off_13 ?_
    refine xa_istoren (pc := 14) [some (xa_i a), some (xa_i b), some (xa_i (a - b))] dX10_off_14 (by decide) (Nat.le_of_ble_eq_true rfl) rfl rfl ?_
    refine xa_iload_n (pc := 15) dX10_off_15 rfl ?_
    refine xa_sipush (pc := 16) dX10_off_16 rfl ?_
    refine xa_icmp_le (pc := 19) (tgt := 30) dX10_off_19 (by decide) ⟨by omega, by omega⟩ (by decide) (fun c_19 => ?_) (fun c_19 => ?_)
    · skip
      refine xa_iload_n (pc := 30) dX10_off_30 rfl ?_
      refine xa_ireturn (pc := 31) dX10_off_31 rfl trivial ?_
      exact ⟨congrArg (fun z => some (xa_i z)) (show a - b = sm_off a b by (unfold sm_off; (repeat' split) <;> omega)), rfl⟩
    · skip
      refine xa_sipush (pc := 22) dX10_off_22 rfl ?_
      refine xa_iload_n (pc := 25) dX10_off_25 rfl ?_
      refine xa_isub (pc := 26) dX10_off_26 ?_
      refine xa_goto (pc := 27) (tgt := 31) dX10_off_27 (by decide) ?_
      refine xa_ireturn (pc := 31) dX10_off_31 rfl trivial ?_
      exact ⟨congrArg (fun z => some (xa_i z)) (show 360 - (a - b) = sm_off a b by (unfold sm_off; (repeat' split) <;> omega)), rfl⟩
  · skip
    refine xa_iload_n (pc := 5) dX10_off_5 rfl ?_
    refine xa_iload_n (pc := 6) dX10_off_6 rfl ?_
    refine xa_isub (pc := 7) dX10_off_7 ?_
    refine xa_goto (pc := 8) (tgt := 14) dX10_off_8 (by decide) ?_
    refine xa_istoren (pc := 14) [some (xa_i a), some (xa_i b), some (xa_i (b - a))] dX10_off_14 (by decide) (Nat.le_of_ble_eq_true rfl) rfl rfl ?_
    refine xa_iload_n (pc := 15) dX10_off_15 rfl ?_
    refine xa_sipush (pc := 16) dX10_off_16 rfl ?_
    refine xa_icmp_le (pc := 19) (tgt := 30) dX10_off_19 (by decide) ⟨by omega, by omega⟩ (by decide) (fun c_19 => ?_) (fun c_19 => ?_)
    · skip
      refine xa_iload_n (pc := 30) dX10_off_30 rfl ?_
      refine xa_ireturn (pc := 31) dX10_off_31 rfl trivial ?_
      exact ⟨congrArg (fun z => some (xa_i z)) (show b - a = sm_off a b by (unfold sm_off; (repeat' split) <;> omega)), rfl⟩
    · skip
      refine xa_sipush (pc := 22) dX10_off_22 rfl ?_
      refine xa_iload_n (pc := 25) dX10_off_25 rfl ?_
      refine xa_isub (pc := 26) dX10_off_26 ?_
      refine xa_goto (pc := 27) (tgt := 31) dX10_off_27 (by decide) ?_
      refine xa_ireturn (pc := 31) dX10_off_31 rfl trivial ?_
      exact ⟨congrArg (fun z => some (xa_i z)) (show 360 - (b - a) = sm_off a b by (unfold sm_off; (repeat' split) <;> omega)), rfl⟩
theorem c_mTurn {G : xa_G} {h : xa_H} (n : Int) (h1 : xa_ok n)  : xa_M G mX10_isTurn [xa_i n] h 0 0 (fun r h' => r = some (xa_i (xa_b (0 ≤ n ∧ n ≤ 359))) ∧ h' = h) := by
  refine xa_enter (by decide +kernel) (Nat.le_of_ble_eq_true rfl) ?_
  refine xa_locals (ls' := [some (xa_i n)]) rfl ?_
  refine xa_iload_n (pc := 0) dX10_isTurn_0 rfl ?_
  refine xa_i2l (pc := 1) dX10_isTurn_1 ⟨by omega, by omega⟩ ?_
  refine xa_lconst (pc := 2) (n := 0) dX10_isTurn_2 rfl ?_
  refine xa_ldc2 (pc := 3) (n := 359) dX10_isTurn_3 ctRX10_152 rfl ?_
  refine xa_callS (pc := 6) (as := [xa_l n, xa_l 0, xa_l 359]) (rest := []) dX10_isTurn_6 ⟨qX10_in.1, qX10_in.2.1, qX10_in.2.2, by decide, by decide⟩ lkRX10_65 smX10_in rfl rfl (Nat.le_of_ble_eq_true rfl) (Nat.zero_le _) (Nat.zero_le _) (c_in _ _ _ ⟨by omega, by omega⟩ ⟨by omega, by omega⟩ ⟨by omega, by omega⟩) (fun r h' hq => ?_)
  obtain ⟨rfl, hq⟩ := hq
  have hq := hq.symm
  subst hq
  refine xa_ireturn (pc := 9) dX10_isTurn_9 rfl xa_bq ?_
  exact ⟨congrArg (fun z => some (xa_i z)) (xa_bc (show (0 ≤ n ∧ n ≤ 359) ↔ (0 ≤ n ∧ n ≤ 359) by omega)), rfl⟩
theorem c_mWay {G : xa_G} {h : xa_H} (n : Int) (h1 : xa_ok n)  : xa_M G mX10_isWay [xa_i n] h 0 0 (fun r h' => r = some (xa_i (xa_b (0 ≤ n ∧ n ≤ 3))) ∧ h' = h) := by
  refine xa_enter (by decide +kernel) (Nat.le_of_ble_eq_true rfl) ?_
  refine xa_locals (ls' := [some (xa_i n)]) rfl ?_
  refine xa_iload_n (pc := 0) dX10_isWay_0 rfl ?_
  refine xa_i2l (pc := 1) dX10_isWay_1 ⟨by omega, by omega⟩ ?_
  refine xa_lconst (pc := 2) (n := 0) dX10_isWay_2 rfl ?_
  refine xa_ldc2 (pc := 3) (n := 3) dX10_isWay_3 ctRX10_154 rfl ?_
  refine xa_callS (pc := 6) (as := [xa_l n, xa_l 0, xa_l 3]) (rest := []) dX10_isWay_6 ⟨qX10_in.1, qX10_in.2.1, qX10_in.2.2, by decide, by decide⟩ lkRX10_65 smX10_in rfl rfl (Nat.le_of_ble_eq_true rfl) (Nat.zero_le _) (Nat.zero_le _) (c_in _ _ _ ⟨by omega, by omega⟩ ⟨by omega, by omega⟩ ⟨by omega, by omega⟩) (fun r h' hq => ?_)
  obtain ⟨rfl, hq⟩ := hq
  have hq := hq.symm
  subst hq
  refine xa_ireturn (pc := 9) dX10_isWay_9 rfl xa_bq ?_
  exact ⟨congrArg (fun z => some (xa_i z)) (xa_bc (show (0 ≤ n ∧ n ≤ 3) ↔ (0 ≤ n ∧ n ≤ 3) by omega)), rfl⟩
theorem c_mHeight {G : xa_G} {h : xa_H} (n : Int) (h1 : xa_ok n)  : xa_M G mX10_isHeight [xa_i n] h 0 0 (fun r h' => r = some (xa_i (xa_b (0 ≤ n ∧ n ≤ 100000))) ∧ h' = h) := by
  refine xa_enter (by decide +kernel) (Nat.le_of_ble_eq_true rfl) ?_
  refine xa_locals (ls' := [some (xa_i n)]) rfl ?_
  refine xa_iload_n (pc := 0) dX10_isHeight_0 rfl ?_
  refine xa_i2l (pc := 1) dX10_isHeight_1 ⟨by omega, by omega⟩ ?_
  refine xa_lconst (pc := 2) (n := 0) dX10_isHeight_2 rfl ?_
  refine xa_ldc2 (pc := 3) (n := 100000) dX10_isHeight_3 ctRX10_234 rfl ?_
  refine xa_callS (pc := 6) (as := [xa_l n, xa_l 0, xa_l 100000]) (rest := []) dX10_isHeight_6 ⟨qX10_in.1, qX10_in.2.1, qX10_in.2.2, by decide, by decide⟩ lkRX10_65 smX10_in rfl rfl (Nat.le_of_ble_eq_true rfl) (Nat.zero_le _) (Nat.zero_le _) (c_in _ _ _ ⟨by omega, by omega⟩ ⟨by omega, by omega⟩ ⟨by omega, by omega⟩) (fun r h' hq => ?_)
  obtain ⟨rfl, hq⟩ := hq
  have hq := hq.symm
  subst hq
  refine xa_ireturn (pc := 9) dX10_isHeight_9 rfl xa_bq ?_
  exact ⟨congrArg (fun z => some (xa_i z)) (xa_bc (show (0 ≤ n ∧ n ≤ 100000) ↔ (0 ≤ n ∧ n ≤ 100000) by omega)), rfl⟩
theorem c_mPart {G : xa_G} {h : xa_H} (k : Nat) (F : Nat → Nat → Int) (s : Nat → Int) (p : Int) (hp : xa_ok p) (hM : xM h k F s) (hv : xMv F)  : xa_M G mX10_isPart [xa_r k, xa_i p] h 0 0 (fun r h' => r = some (xa_i (xa_b (0 ≤ p ∧ p ≤ F 2 0 - 1))) ∧ h' = h) := by
  refine xa_enter (by decide +kernel) (Nat.le_of_ble_eq_true rfl) ?_
  refine xa_locals (ls' := [some (xa_r k), some (xa_i p)]) rfl ?_
  obtain ⟨hM0, hM1, hM2, hM3, hM4, hM5, hM6, hM7, hM8, hM9, hM10, hM11, hM12, hM13, hM14, hM15, hM16, hMk, hMn⟩ := hM
  obtain ⟨v1, v2, v3, v4, v5⟩ := id hv
  refine xa_iload_n (pc := 0) dX10_isPart_0 rfl ?_
  refine xa_i2l (pc := 1) dX10_isPart_1 ⟨by omega, by omega⟩ ?_
  refine xa_lconst (pc := 2) (n := 0) dX10_isPart_2 rfl ?_
  refine xa_aload_n (pc := 3) dX10_isPart_3 rfl ?_
  refine xa_getfield (pc := 4) dX10_isPart_4 flRX10_13 (by omega) (by omega) hM0 rfl ?_
  refine xa_iconst (pc := 7) dX10_isPart_7 ?_
  refine xa_ialdw (pc := 8) 0 dX10_isPart_8 (by omega) hM2 (by omega) (by omega) rfl ?_
  refine xa_iconst (pc := 9) dX10_isPart_9 ?_
  refine xa_isub (pc := 10) dX10_isPart_10 ?_
  refine xa_i2l (pc := 11) dX10_isPart_11 ⟨by omega, by omega⟩ ?_
  refine xa_callS (pc := 12) (as := [xa_l p, xa_l 0, xa_l (((F 2) 0) - 1)]) (rest := []) dX10_isPart_12 ⟨qX10_in.1, qX10_in.2.1, qX10_in.2.2, by decide, by decide⟩ lkRX10_65 smX10_in rfl rfl (Nat.le_of_ble_eq_true rfl) (Nat.zero_le _) (Nat.zero_le _) (c_in _ _ _ ⟨by omega, by omega⟩ ⟨by omega, by omega⟩ ⟨by omega, by omega⟩) (fun r h' hq => ?_)
  obtain ⟨rfl, hq⟩ := hq
  have hq := hq.symm
  subst hq
  refine xa_ireturn (pc := 15) dX10_isPart_15 rfl xa_bq ?_
  exact ⟨congrArg (fun z => some (xa_i z)) (xa_bc (show (0 ≤ p ∧ p ≤ (((F 2) 0) - 1)) ↔ (0 ≤ p ∧ p ≤ F 2 0 - 1) by omega)), rfl⟩
theorem c_mJoint {G : xa_G} {h : xa_H} (k : Nat) (F : Nat → Nat → Int) (s : Nat → Int) (p : Int) (hp : xa_ok p) (hM : xM h k F s) (hv : xMv F)  : xa_M G mX10_isJoint [xa_r k, xa_i p] h 0 0 (fun r h' => r = some (xa_i (xa_b (0 ≤ p ∧ p ≤ F 4 0 - 1))) ∧ h' = h) := by
  refine xa_enter (by decide +kernel) (Nat.le_of_ble_eq_true rfl) ?_
  refine xa_locals (ls' := [some (xa_r k), some (xa_i p)]) rfl ?_
  obtain ⟨hM0, hM1, hM2, hM3, hM4, hM5, hM6, hM7, hM8, hM9, hM10, hM11, hM12, hM13, hM14, hM15, hM16, hMk, hMn⟩ := hM
  obtain ⟨v1, v2, v3, v4, v5⟩ := id hv
  refine xa_iload_n (pc := 0) dX10_isJoint_0 rfl ?_
  refine xa_i2l (pc := 1) dX10_isJoint_1 ⟨by omega, by omega⟩ ?_
  refine xa_lconst (pc := 2) (n := 0) dX10_isJoint_2 rfl ?_
  refine xa_aload_n (pc := 3) dX10_isJoint_3 rfl ?_
  refine xa_getfield (pc := 4) dX10_isJoint_4 flRX10_19 (by omega) (by omega) hM0 rfl ?_
  refine xa_iconst (pc := 7) dX10_isJoint_7 ?_
  refine xa_ialdw (pc := 8) 0 dX10_isJoint_8 (by omega) hM4 (by omega) (by omega) rfl ?_
  refine xa_iconst (pc := 9) dX10_isJoint_9 ?_
  refine xa_isub (pc := 10) dX10_isJoint_10 ?_
  refine xa_i2l (pc := 11) dX10_isJoint_11 ⟨by omega, by omega⟩ ?_
  refine xa_callS (pc := 12) (as := [xa_l p, xa_l 0, xa_l (((F 4) 0) - 1)]) (rest := []) dX10_isJoint_12 ⟨qX10_in.1, qX10_in.2.1, qX10_in.2.2, by decide, by decide⟩ lkRX10_65 smX10_in rfl rfl (Nat.le_of_ble_eq_true rfl) (Nat.zero_le _) (Nat.zero_le _) (c_in _ _ _ ⟨by omega, by omega⟩ ⟨by omega, by omega⟩ ⟨by omega, by omega⟩) (fun r h' hq => ?_)
  obtain ⟨rfl, hq⟩ := hq
  have hq := hq.symm
  subst hq
  refine xa_ireturn (pc := 15) dX10_isJoint_15 rfl xa_bq ?_
  exact ⟨congrArg (fun z => some (xa_i z)) (xa_bc (show (0 ≤ p ∧ p ≤ (((F 4) 0) - 1)) ↔ (0 ≤ p ∧ p ≤ F 4 0 - 1) by omega)), rfl⟩
theorem c_mSteps {G : xa_G} {h : xa_H} (k : Nat) (F : Nat → Nat → Int) (s : Nat → Int) (j : Int) (hj : xa_ok j) (hM : xM h k F s) (hv : xMv F)  : xa_M G mX10_stepMany [xa_r k, xa_i j] h 0 0 (fun r h' => r = some (xa_i (sm_steps F j)) ∧ h' = h) := by
  refine xa_enter (by decide +kernel) (Nat.le_of_ble_eq_true rfl) ?_
  refine xa_locals (ls' := [some (xa_r k), some (xa_i j)]) rfl ?_
  obtain ⟨hM0, hM1, hM2, hM3, hM4, hM5, hM6, hM7, hM8, hM9, hM10, hM11, hM12, hM13, hM14, hM15, hM16, hMk, hMn⟩ := hM
  obtain ⟨v1, v2, v3, v4, v5⟩ := id hv
  refine xa_aload_n (pc := 0) dX10_stepMany_0 rfl ?_
  refine xa_iload_n (pc := 1) dX10_stepMany_1 rfl ?_
  refine xa_callV (pc := 2) (as := [xa_i j]) (rest := []) dX10_stepMany_2 ⟨qX10_isJoint.1, qX10_isJoint.2.1, qX10_isJoint.2.2, by decide, by decide⟩ lkRX10_120 imX10_isJoint seX10_isJoint rfl rfl (by omega) (by omega) hM0 rfl (Nat.le_of_ble_eq_true rfl) (Nat.zero_le _) (Nat.zero_le _) (c_mJoint _ _ _ _ ⟨by omega, by omega⟩ ⟨hM0, hM1, hM2, hM3, hM4, hM5, hM6, hM7, hM8, hM9, hM10, hM11, hM12, hM13, hM14, hM15, hM16, by omega, by omega⟩ hv) (fun r h' hq => ?_)
  obtain ⟨rfl, hq⟩ := hq
  have hq := hq.symm
  subst hq
  refine xa_if_ne (pc := 5) (tgt := 12) dX10_stepMany_5 (by decide) xa_okb (fun c_5 => ?_) (fun c_5 => ?_)
  · have c_5 := xa_b1.mp c_5
    refine xa_aload_n (pc := 12) dX10_stepMany_12 rfl ?_
    refine xa_getfield (pc := 13) dX10_stepMany_13 flRX10_25 (by omega) (by omega) hM0 rfl ?_
    refine xa_iload_n (pc := 16) dX10_stepMany_16 rfl ?_
    refine xa_ialdw (pc := 17) j.toNat dX10_stepMany_17 (by omega) hM6 (by omega) (by omega) rfl ?_
    have b_17 := v4 (j.toNat)
    refine xa_iconst (pc := 18) dX10_stepMany_18 ?_
    refine xa_icmp_ne (pc := 19) (tgt := 35) dX10_stepMany_19 (by decide) ⟨by omega, by omega⟩ (by decide) (fun c_19 => ?_) (fun c_19 => ?_)
    · skip
      refine xa_iconst (pc := 35) dX10_stepMany_35 ?_
      refine xa_ireturn (pc := 36) dX10_stepMany_36 rfl trivial ?_
      exact ⟨congrArg (fun z => some (xa_i z)) (show 5 = sm_steps F j by (unfold sm_steps; first | (rw [if_neg (by assumption)]; done) | (rw [if_pos (by omega), if_pos (by assumption)]; done) | (rw [if_pos (by omega), if_neg (by assumption)]; done))), rfl⟩
    · skip
      refine xa_sipush (pc := 22) dX10_stepMany_22 rfl ?_
      refine xa_aload_n (pc := 25) dX10_stepMany_25 rfl ?_
      refine xa_getfield (pc := 26) dX10_stepMany_26 flRX10_22 (by omega) (by omega) hM0 rfl ?_
      refine xa_iload_n (pc := 29) dX10_stepMany_29 rfl ?_
      refine xa_ialdw (pc := 30) j.toNat dX10_stepMany_30 (by omega) hM5 (by omega) (by omega) rfl ?_
      have b_30 := v3 (j.toNat) (by omega)
      refine xa_idivn (pc := 31) dX10_stepMany_31 (by decide) ⟨by omega, by omega⟩ (by omega) (by omega) ?_
      refine xa_goto (pc := 32) (tgt := 36) dX10_stepMany_32 (by decide) ?_
      refine xa_ireturn (pc := 36) dX10_stepMany_36 rfl trivial ?_
      exact ⟨congrArg (fun z => some (xa_i z)) (show 360 / ((F 5) j.toNat) = sm_steps F j by (unfold sm_steps; first | (rw [if_neg (by assumption)]; done) | (rw [if_pos (by omega), if_pos (by assumption)]; done) | (rw [if_pos (by omega), if_neg (by assumption)]; done))), rfl⟩
  · have c_5 := xa_b0.mp c_5
    refine xa_iconst (pc := 8) dX10_stepMany_8 ?_
    refine xa_goto (pc := 9) (tgt := 36) dX10_stepMany_9 (by decide) ?_
    refine xa_ireturn (pc := 36) dX10_stepMany_36 rfl trivial ?_
    exact ⟨congrArg (fun z => some (xa_i z)) (show 1 = sm_steps F j by (unfold sm_steps; first | (rw [if_neg (by assumption)]; done) | (rw [if_pos (by omega), if_pos (by assumption)]; done) | (rw [if_pos (by omega), if_neg (by assumption)]; done))), rfl⟩
theorem c_mZero {G : xa_G} {h : xa_H} (k : Nat) (F : Nat → Nat → Int) (s : Nat → Int) (j : Int) (hj : xa_ok j) (hM : xM h k F s) (hv : xMv F)  : xa_M G mX10_straightAt [xa_r k, xa_i j] h 0 0 (fun r h' => r = some (xa_i (sm_zero F j)) ∧ h' = h) := by
  refine xa_enter (by decide +kernel) (Nat.le_of_ble_eq_true rfl) ?_
  refine xa_locals (ls' := [some (xa_r k), some (xa_i j)]) rfl ?_
  obtain ⟨hM0, hM1, hM2, hM3, hM4, hM5, hM6, hM7, hM8, hM9, hM10, hM11, hM12, hM13, hM14, hM15, hM16, hMk, hMn⟩ := hM
  obtain ⟨v1, v2, v3, v4, v5⟩ := id hv
  refine xa_aload_n (pc := 0) dX10_straightAt_0 rfl ?_
  refine xa_iload_n (pc := 1) dX10_straightAt_1 rfl ?_
  refine xa_callV (pc := 2) (as := [xa_i j]) (rest := []) dX10_straightAt_2 ⟨qX10_isJoint.1, qX10_isJoint.2.1, qX10_isJoint.2.2, by decide, by decide⟩ lkRX10_120 imX10_isJoint seX10_isJoint rfl rfl (by omega) (by omega) hM0 rfl (Nat.le_of_ble_eq_true rfl) (Nat.zero_le _) (Nat.zero_le _) (c_mJoint _ _ _ _ ⟨by omega, by omega⟩ ⟨hM0, hM1, hM2, hM3, hM4, hM5, hM6, hM7, hM8, hM9, hM10, hM11, hM12, hM13, hM14, hM15, hM16, by omega, by omega⟩ hv) (fun r h' hq => ?_)
  obtain ⟨rfl, hq⟩ := hq
  have hq := hq.symm
  subst hq
  refine xa_if_eq (pc := 5) (tgt := 21) dX10_straightAt_5 (by decide) xa_okb (fun c_5 => ?_) (fun c_5 => ?_)
  · have c_5 := xa_b0.mp c_5
    refine xa_iconst (pc := 21) dX10_straightAt_21 ?_
    refine xa_ireturn (pc := 22) dX10_straightAt_22 rfl trivial ?_
    exact ⟨congrArg (fun z => some (xa_i z)) (show 0 = sm_zero F j by (unfold sm_zero; first | (rw [if_pos ⟨by assumption, by assumption⟩]; done) | (rw [if_neg (fun z => absurd z.1 (by assumption))]; done) | (rw [if_neg (fun z => absurd z.2 (by assumption))]; done))), rfl⟩
  · have c_5 := xa_b1.mp c_5
    refine xa_aload_n (pc := 8) dX10_straightAt_8 rfl ?_
    refine xa_getfield (pc := 9) dX10_straightAt_9 flRX10_25 (by omega) (by omega) hM0 rfl ?_
    refine xa_iload_n (pc := 12) dX10_straightAt_12 rfl ?_
    refine xa_ialdw (pc := 13) j.toNat dX10_straightAt_13 (by omega) hM6 (by omega) (by omega) rfl ?_
    have b_13 := v4 (j.toNat)
    refine xa_if_ne (pc := 14) (tgt := 21) dX10_straightAt_14 (by decide) ⟨by omega, by omega⟩ (fun c_14 => ?_) (fun c_14 => ?_)
    · skip
      refine xa_iconst (pc := 21) dX10_straightAt_21 ?_
      refine xa_ireturn (pc := 22) dX10_straightAt_22 rfl trivial ?_
      exact ⟨congrArg (fun z => some (xa_i z)) (show 0 = sm_zero F j by (unfold sm_zero; first | (rw [if_pos ⟨by assumption, by assumption⟩]; done) | (rw [if_neg (fun z => absurd z.1 (by assumption))]; done) | (rw [if_neg (fun z => absurd z.2 (by assumption))]; done))), rfl⟩
    · skip
      refine xa_iconst (pc := 17) dX10_straightAt_17 ?_
      refine xa_goto (pc := 18) (tgt := 22) dX10_straightAt_18 (by decide) ?_
      refine xa_ireturn (pc := 22) dX10_straightAt_22 rfl trivial ?_
      exact ⟨congrArg (fun z => some (xa_i z)) (show 2 = sm_zero F j by (unfold sm_zero; first | (rw [if_pos ⟨by assumption, by assumption⟩]; done) | (rw [if_neg (fun z => absurd z.1 (by assumption))]; done) | (rw [if_neg (fun z => absurd z.2 (by assumption))]; done))), rfl⟩
theorem c_mLoad {G : xa_G} {h : xa_H} (k : Nat) (F : Nat → Nat → Int) (s : Nat → Int) (p q : Int) (hp : xa_ok p) (hq : xa_ok q) (hM : xM h k F s) (hv : xMv F)  : xa_M G mX10_load [xa_r k, xa_i p, xa_i q] h 0 0 (fun r h' => r = some (xa_i (if (0 ≤ p ∧ p ≤ F 2 0 - 1) ∧ 0 ≤ q ∧ q ≤ 2 then F 3 (3 * p + q).toNat else -1)) ∧ h' = h) := by
  refine xa_enter (by decide +kernel) (Nat.le_of_ble_eq_true rfl) ?_
  refine xa_locals (ls' := [some (xa_r k), some (xa_i p), some (xa_i q)]) rfl ?_
  obtain ⟨hM0, hM1, hM2, hM3, hM4, hM5, hM6, hM7, hM8, hM9, hM10, hM11, hM12, hM13, hM14, hM15, hM16, hMk, hMn⟩ := hM
  obtain ⟨v1, v2, v3, v4, v5⟩ := id hv
  refine xa_aload_n (pc := 0) dX10_load_0 rfl ?_
  refine xa_iload_n (pc := 1) dX10_load_1 rfl ?_
  refine xa_callV (pc := 2) (as := [xa_i p]) (rest := []) dX10_load_2 ⟨qX10_isPart.1, qX10_isPart.2.1, qX10_isPart.2.2, by decide, by decide⟩ lkRX10_115 imX10_isPart seX10_isPart rfl rfl (by omega) (by omega) hM0 rfl (Nat.le_of_ble_eq_true rfl) (Nat.zero_le _) (Nat.zero_le _) (c_mPart _ _ _ _ ⟨by omega, by omega⟩ ⟨hM0, hM1, hM2, hM3, hM4, hM5, hM6, hM7, hM8, hM9, hM10, hM11, hM12, hM13, hM14, hM15, hM16, by omega, by omega⟩ hv) (fun r h' hq => ?_)
  obtain ⟨rfl, hq⟩ := hq
  have hq := hq.symm
  subst hq
  refine xa_if_eq (pc := 5) (tgt := 33) dX10_load_5 (by decide) xa_okb (fun c_5 => ?_) (fun c_5 => ?_)
  · have c_5 := xa_b0.mp c_5
    refine xa_iconst (pc := 33) dX10_load_33 ?_
    refine xa_ireturn (pc := 34) dX10_load_34 rfl trivial ?_
    exact ⟨congrArg (fun z => some (xa_i z)) (show (-1) = if (0 ≤ p ∧ p ≤ F 2 0 - 1) ∧ 0 ≤ q ∧ q ≤ 2 then F 3 (3 * p + q).toNat else -1 by (first | (rw [if_pos (by omega)]; done) | (rw [if_neg (by omega)]; done))), rfl⟩
  · have c_5 := xa_b1.mp c_5
    refine xa_iload_n (pc := 8) dX10_load_8 rfl ?_
    refine xa_i2l (pc := 9) dX10_load_9 ⟨by omega, by omega⟩ ?_
    refine xa_lconst (pc := 10) (n := 0) dX10_load_10 rfl ?_
    refine xa_ldc2 (pc := 11) (n := 2) dX10_load_11 ctRX10_118 rfl ?_
    refine xa_callS (pc := 14) (as := [xa_l q, xa_l 0, xa_l 2]) (rest := []) dX10_load_14 ⟨qX10_in.1, qX10_in.2.1, qX10_in.2.2, by decide, by decide⟩ lkRX10_65 smX10_in rfl rfl (Nat.le_of_ble_eq_true rfl) (Nat.zero_le _) (Nat.zero_le _) (c_in _ _ _ ⟨by omega, by omega⟩ ⟨by omega, by omega⟩ ⟨by omega, by omega⟩) (fun r h' hq => ?_)
    obtain ⟨rfl, hq⟩ := hq
    have hq := hq.symm
    subst hq
    refine xa_if_eq (pc := 17) (tgt := 33) dX10_load_17 (by decide) xa_okb (fun c_17 => ?_) (fun c_17 => ?_)
    · have c_17 := xa_b0.mp c_17
      refine xa_iconst (pc := 33) dX10_load_33 ?_
      refine xa_ireturn (pc := 34) dX10_load_34 rfl trivial ?_
      exact ⟨congrArg (fun z => some (xa_i z)) (show (-1) = if (0 ≤ p ∧ p ≤ F 2 0 - 1) ∧ 0 ≤ q ∧ q ≤ 2 then F 3 (3 * p + q).toNat else -1 by (first | (rw [if_pos (by omega)]; done) | (rw [if_neg (by omega)]; done))), rfl⟩
    · have c_17 := xa_b1.mp c_17
      refine xa_aload_n (pc := 20) dX10_load_20 rfl ?_
      refine xa_getfield (pc := 21) dX10_load_21 flRX10_16 (by omega) (by omega) hM0 rfl ?_
      refine xa_iconst (pc := 24) dX10_load_24 ?_
      refine xa_iload_n (pc := 25) dX10_load_25 rfl ?_
      refine xa_imul (pc := 26) dX10_load_26 ?_
      refine xa_iload_n (pc := 27) dX10_load_27 rfl ?_
      refine xa_iadd (pc := 28) dX10_load_28 ?_
      refine xa_ialdw (pc := 29) (((3 * p) + q).toNat) dX10_load_29 (by omega) hM3 (by omega) (by omega) rfl ?_
      refine xa_goto (pc := 30) (tgt := 34) dX10_load_30 (by decide) ?_
      refine xa_ireturn (pc := 34) dX10_load_34 rfl trivial ?_
      exact ⟨congrArg (fun z => some (xa_i z)) (show (F 3) (((3 * p) + q).toNat) = if (0 ≤ p ∧ p ≤ F 2 0 - 1) ∧ 0 ≤ q ∧ q ≤ 2 then F 3 (3 * p + q).toNat else -1 by (first | (rw [if_pos (by omega)]; done) | (rw [if_neg (by omega)]; done))), rfl⟩
theorem c_mJointAt {G : xa_G} {h : xa_H} (k : Nat) (F : Nat → Nat → Int) (s : Nat → Int) (j q : Int) (hj : xa_ok j) (hq : xa_ok q) (hM : xM h k F s) (hv : xMv F)  : xa_M G mX10_joint [xa_r k, xa_i j, xa_i q] h 0 0 (fun r h' => r = some (xa_i (if (0 ≤ j ∧ j ≤ F 4 0 - 1) ∧ 0 ≤ q ∧ q ≤ 1 then (if q = 0 then F 5 j.toNat else F 6 j.toNat) else -1)) ∧ h' = h) := by
  refine xa_enter (by decide +kernel) (Nat.le_of_ble_eq_true rfl) ?_
  refine xa_locals (ls' := [some (xa_r k), some (xa_i j), some (xa_i q)]) rfl ?_
  obtain ⟨hM0, hM1, hM2, hM3, hM4, hM5, hM6, hM7, hM8, hM9, hM10, hM11, hM12, hM13, hM14, hM15, hM16, hMk, hMn⟩ := hM
  obtain ⟨v1, v2, v3, v4, v5⟩ := id hv
  refine xa_aload_n (pc := 0) dX10_joint_0 rfl ?_
  refine xa_iload_n (pc := 1) dX10_joint_1 rfl ?_
  refine xa_callV (pc := 2) (as := [xa_i j]) (rest := []) dX10_joint_2 ⟨qX10_isJoint.1, qX10_isJoint.2.1, qX10_isJoint.2.2, by decide, by decide⟩ lkRX10_120 imX10_isJoint seX10_isJoint rfl rfl (by omega) (by omega) hM0 rfl (Nat.le_of_ble_eq_true rfl) (Nat.zero_le _) (Nat.zero_le _) (c_mJoint _ _ _ _ ⟨by omega, by omega⟩ ⟨hM0, hM1, hM2, hM3, hM4, hM5, hM6, hM7, hM8, hM9, hM10, hM11, hM12, hM13, hM14, hM15, hM16, by omega, by omega⟩ hv) (fun r h' hq => ?_)
  obtain ⟨rfl, hq⟩ := hq
  have hq := hq.symm
  subst hq
  refine xa_if_eq (pc := 5) (tgt := 40) dX10_joint_5 (by decide) xa_okb (fun c_5 => ?_) (fun c_5 => ?_)
  · have c_5 := xa_b0.mp c_5
    refine xa_iconst (pc := 40) dX10_joint_40 ?_
    refine xa_ireturn (pc := 41) dX10_joint_41 rfl trivial ?_
    exact ⟨congrArg (fun z => some (xa_i z)) (show (-1) = if (0 ≤ j ∧ j ≤ F 4 0 - 1) ∧ 0 ≤ q ∧ q ≤ 1 then (if q = 0 then F 5 j.toNat else F 6 j.toNat) else -1 by (first | (rw [if_pos (by omega), if_pos (by omega)]; done) | (rw [if_pos (by omega), if_neg (by omega)]; done) | (rw [if_neg (by omega)]; done))), rfl⟩
  · have c_5 := xa_b1.mp c_5
    refine xa_iload_n (pc := 8) dX10_joint_8 rfl ?_
    refine xa_i2l (pc := 9) dX10_joint_9 ⟨by omega, by omega⟩ ?_
    refine xa_lconst (pc := 10) (n := 0) dX10_joint_10 rfl ?_
    refine xa_lconst (pc := 11) (n := 1) dX10_joint_11 rfl ?_
    refine xa_callS (pc := 12) (as := [xa_l q, xa_l 0, xa_l 1]) (rest := []) dX10_joint_12 ⟨qX10_in.1, qX10_in.2.1, qX10_in.2.2, by decide, by decide⟩ lkRX10_65 smX10_in rfl rfl (Nat.le_of_ble_eq_true rfl) (Nat.zero_le _) (Nat.zero_le _) (c_in _ _ _ ⟨by omega, by omega⟩ ⟨by omega, by omega⟩ ⟨by omega, by omega⟩) (fun r h' hq => ?_)
    obtain ⟨rfl, hq⟩ := hq
    have hq := hq.symm
    subst hq
    refine xa_if_eq (pc := 15) (tgt := 40) dX10_joint_15 (by decide) xa_okb (fun c_15 => ?_) (fun c_15 => ?_)
    · have c_15 := xa_b0.mp c_15
      refine xa_iconst (pc := 40) dX10_joint_40 ?_
      refine xa_ireturn (pc := 41) dX10_joint_41 rfl trivial ?_
      exact ⟨congrArg (fun z => some (xa_i z)) (show (-1) = if (0 ≤ j ∧ j ≤ F 4 0 - 1) ∧ 0 ≤ q ∧ q ≤ 1 then (if q = 0 then F 5 j.toNat else F 6 j.toNat) else -1 by (first | (rw [if_pos (by omega), if_pos (by omega)]; done) | (rw [if_pos (by omega), if_neg (by omega)]; done) | (rw [if_neg (by omega)]; done))), rfl⟩
    · have c_15 := xa_b1.mp c_15
      refine xa_iload_n (pc := 18) dX10_joint_18 rfl ?_
      refine xa_if_ne (pc := 19) (tgt := 31) dX10_joint_19 (by decide) ⟨by omega, by omega⟩ (fun c_19 => ?_) (fun c_19 => ?_)
      · skip
        refine xa_aload_n (pc := 31) dX10_joint_31 rfl ?_
        refine xa_getfield (pc := 32) dX10_joint_32 flRX10_25 (by omega) (by omega) hM0 rfl ?_
        refine xa_iload_n (pc := 35) dX10_joint_35 rfl ?_
        refine xa_ialdw (pc := 36) j.toNat dX10_joint_36 (by omega) hM6 (by omega) (by omega) rfl ?_
        refine xa_goto (pc := 37) (tgt := 41) dX10_joint_37 (by decide) ?_
        refine xa_ireturn (pc := 41) dX10_joint_41 rfl trivial ?_
        exact ⟨congrArg (fun z => some (xa_i z)) (show (F 6) j.toNat = if (0 ≤ j ∧ j ≤ F 4 0 - 1) ∧ 0 ≤ q ∧ q ≤ 1 then (if q = 0 then F 5 j.toNat else F 6 j.toNat) else -1 by (first | (rw [if_pos (by omega), if_pos (by omega)]; done) | (rw [if_pos (by omega), if_neg (by omega)]; done) | (rw [if_neg (by omega)]; done))), rfl⟩
      · skip
        refine xa_aload_n (pc := 22) dX10_joint_22 rfl ?_
        refine xa_getfield (pc := 23) dX10_joint_23 flRX10_22 (by omega) (by omega) hM0 rfl ?_
        refine xa_iload_n (pc := 26) dX10_joint_26 rfl ?_
        refine xa_ialdw (pc := 27) j.toNat dX10_joint_27 (by omega) hM5 (by omega) (by omega) rfl ?_
        refine xa_goto (pc := 28) (tgt := 41) dX10_joint_28 (by decide) ?_
        refine xa_ireturn (pc := 41) dX10_joint_41 rfl trivial ?_
        exact ⟨congrArg (fun z => some (xa_i z)) (show (F 5) j.toNat = if (0 ≤ j ∧ j ≤ F 4 0 - 1) ∧ 0 ≤ q ∧ q ≤ 1 then (if q = 0 then F 5 j.toNat else F 6 j.toNat) else -1 by (first | (rw [if_pos (by omega), if_pos (by omega)]; done) | (rw [if_pos (by omega), if_neg (by omega)]; done) | (rw [if_neg (by omega)]; done))), rfl⟩
theorem c_mBegun {G : xa_G} {h : xa_H} (k : Nat) (F : Nat → Nat → Int) (s : Nat → Int) (q : Int) (hq : xa_ok q) (hM : xM h k F s) (hv : xMv F)  : xa_M G mX10_begun [xa_r k, xa_i q] h 0 0 (fun r h' => r = some (xa_i (if q = 0 then F 7 0 else if q = 1 then F 8 0 else -10000)) ∧ h' = h) := by
  refine xa_enter (by decide +kernel) (Nat.le_of_ble_eq_true rfl) ?_
  refine xa_locals (ls' := [some (xa_r k), some (xa_i q)]) rfl ?_
  obtain ⟨hM0, hM1, hM2, hM3, hM4, hM5, hM6, hM7, hM8, hM9, hM10, hM11, hM12, hM13, hM14, hM15, hM16, hMk, hMn⟩ := hM
  obtain ⟨v1, v2, v3, v4, v5⟩ := id hv
  refine xa_iload_n (pc := 0) dX10_begun_0 rfl ?_
  refine xa_if_ne (pc := 1) (tgt := 13) dX10_begun_1 (by decide) ⟨by omega, by omega⟩ (fun c_1 => ?_) (fun c_1 => ?_)
  · skip
    refine xa_iload_n (pc := 13) dX10_begun_13 rfl ?_
    refine xa_iconst (pc := 14) dX10_begun_14 ?_
    refine xa_icmp_ne (pc := 15) (tgt := 27) dX10_begun_15 (by decide) ⟨by omega, by omega⟩ (by decide) (fun c_15 => ?_) (fun c_15 => ?_)
    · skip
      refine xa_sipush (pc := 27) dX10_begun_27 rfl ?_
      refine xa_ireturn (pc := 30) dX10_begun_30 rfl trivial ?_
      exact ⟨congrArg (fun z => some (xa_i z)) (show (-10000) = if q = 0 then F 7 0 else if q = 1 then F 8 0 else -10000 by (first | (rw [if_pos (by omega)]; done) | (rw [if_neg (by omega), if_pos (by omega)]; done) | (rw [if_neg (by omega), if_neg (by omega)]; done))), rfl⟩
    · skip
      refine xa_aload_n (pc := 18) dX10_begun_18 rfl ?_
      refine xa_getfield (pc := 19) dX10_begun_19 flRX10_31 (by omega) (by omega) hM0 rfl ?_
      refine xa_iconst (pc := 22) dX10_begun_22 ?_
      refine xa_ialdw (pc := 23) 0 dX10_begun_23 (by omega) hM8 (by omega) (by omega) rfl ?_
      refine xa_goto (pc := 24) (tgt := 30) dX10_begun_24 (by decide) ?_
      refine xa_ireturn (pc := 30) dX10_begun_30 rfl trivial ?_
      exact ⟨congrArg (fun z => some (xa_i z)) (show (F 8) 0 = if q = 0 then F 7 0 else if q = 1 then F 8 0 else -10000 by (first | (rw [if_pos (by omega)]; done) | (rw [if_neg (by omega), if_pos (by omega)]; done) | (rw [if_neg (by omega), if_neg (by omega)]; done))), rfl⟩
  · skip
    refine xa_aload_n (pc := 4) dX10_begun_4 rfl ?_
    refine xa_getfield (pc := 5) dX10_begun_5 flRX10_28 (by omega) (by omega) hM0 rfl ?_
    refine xa_iconst (pc := 8) dX10_begun_8 ?_
    refine xa_ialdw (pc := 9) 0 dX10_begun_9 (by omega) hM7 (by omega) (by omega) rfl ?_
    refine xa_goto (pc := 10) (tgt := 30) dX10_begun_10 (by decide) ?_
    refine xa_ireturn (pc := 30) dX10_begun_30 rfl trivial ?_
    exact ⟨congrArg (fun z => some (xa_i z)) (show (F 7) 0 = if q = 0 then F 7 0 else if q = 1 then F 8 0 else -10000 by (first | (rw [if_pos (by omega)]; done) | (rw [if_neg (by omega), if_pos (by omega)]; done) | (rw [if_neg (by omega), if_neg (by omega)]; done))), rfl⟩
