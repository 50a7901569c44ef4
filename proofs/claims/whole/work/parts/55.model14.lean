/-! The model: meetings -/
def xMq (h : xa_H) (k : Nat) (F : Nat → Nat → Int) (s : Nat → Int) (q : xTQ) : Prop := xM h k (xa_uF (xa_uF F 14 q.1) 15 q.2.1) (xa_upf s 23 ((q.2.2 : Nat) : Int))
theorem mq_b {N : Nat} {q : xTQ} (h : mq_ok N q) {x : Nat} (hx : x < N) : -1 ≤ q.1 x ∧ q.1 x ≤ N := by
  have a := h.2.2.2 x hx
  by_cases e : 0 ≤ q.1 x
  · obtain ⟨i, i1, i2⟩ := h.2.2.1 x hx e
    have b := h.1 i i1
    have c := mq_le h
    rw [i2, Int.toNat_natCast] at b
    omega
  · omega
theorem c_kPose {G : xa_G} {h : xa_H} {k : Nat} {F : Nat → Nat → Int} {s : Nat → Int} {ld dg : Nat → Int} {pa jo : Nat} {wa sr pu ri : Int} (ho : mOk F ld dg pa jo wa sr pu ri) (hM : xM h k F s) {c : xCf} (hc : cf_ok pa jo wa sr c) (j : Nat) (hj : j < 3) : xa_M G mX10_poseOf [xa_r k, xa_i (mE jo wa sr c), xa_i ((j : Nat) : Int)] h 0 0 (fun r h' => r = some (xa_i (cf_pk c j)) ∧ h' = h) := by
  refine xa_mono (c_mPose k F s _ (mE_9 ho.1 ho.2.1 hc) _ ⟨by omega, by omega⟩ hM ho.hv) (fun r h' hq => ⟨?_, hq.2⟩)
  obtain ⟨e0, e1, e2⟩ := mE_pose ho.1 ho.2.1 hc
  rcases (show j = 0 ∨ j = 1 ∨ j = 2 by omega) with rfl | rfl | rfl
  · rw [hq.1, show sm_pose F (mE jo wa sr c) ((0 : Nat) : Int) = _ from e0]; rfl
  · rw [hq.1, show sm_pose F (mE jo wa sr c) ((1 : Nat) : Int) = _ from e1]; rfl
  · rw [hq.1, show sm_pose F (mE jo wa sr c) ((2 : Nat) : Int) = _ from e2]; rfl
theorem c_kPosed {G : xa_G} {h : xa_H} {k : Nat} {F : Nat → Nat → Int} {s : Nat → Int} {ld dg : Nat → Int} {pa jo : Nat} {wa sr pu ri : Int} (ho : mOk F ld dg pa jo wa sr pu ri) (hM : xM h k F s) {c : xCf} (hc : cf_ok pa jo wa sr c) (j : Nat) (hj : j < 3) (q : Int) : xa_M G mX10_posed [xa_r k, xa_i (mE jo wa sr c), xa_i ((j : Nat) : Int), xa_i q] h 0 0 (fun r h' => r = some (xa_i (mE jo wa sr (cf_sp c j q))) ∧ h' = h) := by
  refine xa_mono (c_mPosed k F s _ (mE_9 ho.1 ho.2.1 hc) _ _ ⟨by omega, by omega⟩ hM ho.hv) (fun r h' hq => ⟨?_, hq.2⟩)
  obtain ⟨e0, e1, e2⟩ := mE_posed ho.1 ho.2.1 hc q
  rcases (show j = 0 ∨ j = 1 ∨ j = 2 by omega) with rfl | rfl | rfl
  · rw [hq.1, show sm_posed F (mE jo wa sr c) ((0 : Nat) : Int) q = _ from e0]; rfl
  · rw [hq.1, show sm_posed F (mE jo wa sr c) ((1 : Nat) : Int) q = _ from e1]; rfl
  · rw [hq.1, show sm_posed F (mE jo wa sr c) ((2 : Nat) : Int) q = _ from e2]; rfl
theorem c_kBent {G : xa_G} {h : xa_H} {k : Nat} {F : Nat → Nat → Int} {s : Nat → Int} {ld dg : Nat → Int} {pa jo : Nat} {wa sr pu ri : Int} (ho : mOk F ld dg pa jo wa sr pu ri) (hM : xM h k F s) {c : xCf} (hc : cf_ok pa jo wa sr c) (n : Nat) (hn : n < 4) (hj : n / 2 < jo) (d : Int) (hd : d = if n % 2 = 0 then -1 else 1) : xa_M G mX10_bent [xa_r k, xa_i (mE jo wa sr c), xa_i ((n / 2 : Nat) : Int), xa_i d] h 0 0 (fun r h' => ((∃ c1, cf_move pa jo wa sr c (cf_inv c ((n + 1 : Nat) : Int)) = some c1 ∧ cf_ok pa jo wa sr c1 ∧ r = some (xa_i (mE jo wa sr c1))) ∨ (cf_move pa jo wa sr c (cf_inv c ((n + 1 : Nat) : Int)) = none ∧ r = some (xa_i (-4)))) ∧ h' = h) := by
  have hd2 : d = 1 ∨ d = -1 := by split at hd <;> omega
  refine xa_mono (c_mBent k F s _ (mE_9 ho.1 ho.2.1 hc) _ d (by omega) hd2 hM ho.hv) (fun r h' hq => ⟨?_, hq.2⟩)
  have key : sm_bent F (mE jo wa sr c) ((n / 2 : Nat) : Int) d = (match cf_move pa jo wa sr c (cf_inv c ((n + 1 : Nat) : Int)) with | some c1 => mE jo wa sr c1 | none => -4) := by
    obtain ⟨b1, b2⟩ := mE_bent ho.1 ho.2.1 hc d hd2
    rcases (show n = 0 ∨ n = 1 ∨ n = 2 ∨ n = 3 by omega) with rfl | rfl | rfl | rfl
    · subst hd
      rw [show sm_bent F (mE jo wa sr c) ((0 / 2 : Nat) : Int) _ = _ from b1 hj, show cf_inv c ((0 + 1 : Nat) : Int) = 2 from rfl, cf_m2, if_pos (show 0 < jo from hj)]
      show (match cf_step wa sr 0 c.2.2.2.1 (-1) with | some s => _ | none => -4) = _
      cases cf_step wa sr 0 c.2.2.2.1 (-1) <;> rfl
    · subst hd
      rw [show sm_bent F (mE jo wa sr c) ((1 / 2 : Nat) : Int) _ = _ from b1 hj, show cf_inv c ((1 + 1 : Nat) : Int) = 1 from rfl, cf_m1, if_pos (show 0 < jo from hj)]
      show (match cf_step wa sr 0 c.2.2.2.1 1 with | some s => _ | none => -4) = _
      cases cf_step wa sr 0 c.2.2.2.1 1 <;> rfl
    · subst hd
      rw [show sm_bent F (mE jo wa sr c) ((2 / 2 : Nat) : Int) _ = _ from b2 hj, show cf_inv c ((2 + 1 : Nat) : Int) = 4 from rfl, cf_m4, if_pos (show 1 < jo from hj)]
      show (match cf_step wa sr 1 c.2.2.2.2 (-1) with | some s => _ | none => -4) = _
      cases cf_step wa sr 1 c.2.2.2.2 (-1) <;> rfl
    · subst hd
      rw [show sm_bent F (mE jo wa sr c) ((3 / 2 : Nat) : Int) _ = _ from b2 hj, show cf_inv c ((3 + 1 : Nat) : Int) = 3 from rfl, cf_m3, if_pos (show 1 < jo from hj)]
      show (match cf_step wa sr 1 c.2.2.2.2 1 with | some s => _ | none => -4) = _
      cases cf_step wa sr 1 c.2.2.2.2 1 <;> rfl
  cases hm : cf_move pa jo wa sr c (cf_inv c ((n + 1 : Nat) : Int)) with
  | none =>
    rw [hm] at key
    exact Or.inr ⟨rfl, by rw [hq.1, key]⟩
  | some c1 =>
    rw [hm] at key
    exact Or.inl ⟨c1, rfl, cf_move_ok ho.1 hc hm, by rw [hq.1, key]⟩
theorem c_has {G : xa_G} {h : xa_H} (J i : Int) (hJ : J = 0 ∨ J = 1 ∨ J = 2 ∨ J = 3) (hi : i = 0 ∨ i = 1)  : xa_M G mX10_has [xa_i J, xa_i i] h 0 0 (fun r h' => r = some (xa_i (xa_b (J = 3 ∨ J = i + 1))) ∧ h' = h) := by
  refine xa_enter (by decide +kernel) (Nat.le_of_ble_eq_true rfl) ?_
  refine xa_locals (ls' := [some (xa_i J), some (xa_i i)]) rfl ?_
  refine xa_iload_n (pc := 0) dX10_has_0 rfl ?_
  refine xa_iload_n (pc := 1) dX10_has_1 rfl ?_
  refine xa_ishr (pc := 2) dX10_has_2 ?_
  refine xa_iconst (pc := 3) dX10_has_3 ?_
  refine xa_iand (pc := 4) dX10_has_4 ?_
  refine xa_top (y := xa_b (J = 3 ∨ J = i + 1)) (by rcases hJ with rfl | rfl | rfl | rfl <;> rcases hi with rfl | rfl <;> decide +kernel) ?_
  refine xa_iconst (pc := 5) dX10_has_5 ?_
  refine xa_icmp_ne (pc := 6) (tgt := 13) dX10_has_6 (by decide) xa_okb (by decide) (fun c_6 => ?_) (fun c_6 => ?_)
  · skip
    refine xa_iconst (pc := 13) dX10_has_13 ?_
    refine xa_ireturn (pc := 14) dX10_has_14 rfl (Or.inl rfl) ?_
    exact ⟨congrArg (fun z => some (xa_i z)) (xa_bf (by unfold xa_b at c_6; split at c_6 <;> omega)), rfl⟩
  · skip
    refine xa_iconst (pc := 9) dX10_has_9 ?_
    refine xa_goto (pc := 10) (tgt := 14) dX10_has_10 (by decide) ?_
    refine xa_ireturn (pc := 14) dX10_has_14 rfl (Or.inr rfl) ?_
    exact ⟨congrArg (fun z => some (xa_i z)) (xa_bt (by unfold xa_b at c_6; split at c_6 <;> omega)), rfl⟩
theorem c_barred {G : xa_G} {h : xa_H} (mv J : Int) (hmv : 0 ≤ mv ∧ mv ≤ 18) (hJ : J = 0 ∨ J = 1 ∨ J = 2 ∨ J = 3)  : xa_M G mX10_isBarred [xa_i mv, xa_i J] h 0 0 (fun r h' => r = some (xa_i (xa_b ((1 ≤ mv ∧ mv ≤ 4) ∧ ¬ (J = 3 ∨ J = (mv - 1) / 2 + 1)))) ∧ h' = h) := by
  refine xa_enter (by decide +kernel) (Nat.le_of_ble_eq_true rfl) ?_
  refine xa_locals (ls' := [some (xa_i mv), some (xa_i J)]) rfl ?_
  refine xa_iload_n (pc := 0) dX10_isBarred_0 rfl ?_
  refine xa_i2l (pc := 1) dX10_isBarred_1 ⟨by omega, by omega⟩ ?_
  refine xa_lconst (pc := 2) (n := 1) dX10_isBarred_2 rfl ?_
  refine xa_ldc2 (pc := 3) (n := 4) dX10_isBarred_3 ctRX10_85 rfl ?_
  refine xa_callS (pc := 6) (as := [xa_l mv, xa_l 1, xa_l 4]) (rest := []) dX10_isBarred_6 ⟨qX10_in.1, qX10_in.2.1, qX10_in.2.2, by decide, by decide⟩ lkRX10_65 smX10_in rfl rfl (Nat.le_of_ble_eq_true rfl) (Nat.zero_le _) (Nat.zero_le _) (c_in _ _ _ ⟨by omega, by omega⟩ ⟨by omega, by omega⟩ ⟨by omega, by omega⟩) (fun r h' hq => ?_)
  obtain ⟨rfl, hq⟩ := hq
  have hq := hq.symm
  subst hq
  refine xa_if_eq (pc := 9) (tgt := 28) dX10_isBarred_9 (by decide) xa_okb (fun c_9 => ?_) (fun c_9 => ?_)
  · have c_9 := xa_b0.mp c_9
    refine xa_iconst (pc := 28) dX10_isBarred_28 ?_
    refine xa_ireturn (pc := 29) dX10_isBarred_29 rfl (Or.inl rfl) ?_
    exact ⟨congrArg (fun z => some (xa_i z)) (xa_bf (by omega)), rfl⟩
  · have c_9 := xa_b1.mp c_9
    refine xa_iload_n (pc := 12) dX10_isBarred_12 rfl ?_
    refine xa_iload_n (pc := 13) dX10_isBarred_13 rfl ?_
    refine xa_iconst (pc := 14) dX10_isBarred_14 ?_
    refine xa_isub (pc := 15) dX10_isBarred_15 ?_
    refine xa_iconst (pc := 16) dX10_isBarred_16 ?_
    refine xa_idivn (pc := 17) dX10_isBarred_17 ⟨by omega, by omega⟩ (by decide) (by omega) (by omega) ?_
    refine xa_callS (pc := 18) (as := [xa_i J, xa_i ((mv - 1) / 2)]) (rest := []) dX10_isBarred_18 ⟨qX10_has.1, qX10_has.2.1, qX10_has.2.2, by decide, by decide⟩ lkRX10_202 smX10_has rfl rfl (Nat.le_of_ble_eq_true rfl) (Nat.zero_le _) (Nat.zero_le _) (c_has _ _ (by omega) (by omega)) (fun r h' hq => ?_)
    obtain ⟨rfl, hq⟩ := hq
    have hq := hq.symm
    subst hq
    refine xa_if_ne (pc := 21) (tgt := 28) dX10_isBarred_21 (by decide) xa_okb (fun c_21 => ?_) (fun c_21 => ?_)
    · have c_21 := xa_b1.mp c_21
      refine xa_iconst (pc := 28) dX10_isBarred_28 ?_
      refine xa_ireturn (pc := 29) dX10_isBarred_29 rfl (Or.inl rfl) ?_
      exact ⟨congrArg (fun z => some (xa_i z)) (xa_bf (by omega)), rfl⟩
    · have c_21 := xa_b0.mp c_21
      refine xa_iconst (pc := 24) dX10_isBarred_24 ?_
      refine xa_goto (pc := 25) (tgt := 29) dX10_isBarred_25 (by decide) ?_
      refine xa_ireturn (pc := 29) dX10_isBarred_29 rfl (Or.inr rfl) ?_
      exact ⟨congrArg (fun z => some (xa_i z)) (xa_bt (by omega)), rfl⟩
theorem c_mAll {G : xa_G} {h : xa_H} (k : Nat) (F : Nat → Nat → Int) (s : Nat → Int) (ld dg : Nat → Int) (pa jo : Nat) (wa sr pu ri : Int) (ho : mOk F ld dg pa jo wa sr pu ri) (hM : xM h k F s)  : xa_M G mX10_allJoints [xa_r k] h 0 0 (fun r h' => r = some (xa_i (if jo = 1 then 1 else 3)) ∧ h' = h) := by
  refine xa_enter (by decide +kernel) (Nat.le_of_ble_eq_true rfl) ?_
  refine xa_locals (ls' := [some (xa_r k)]) rfl ?_
  obtain ⟨hM0, hM1, hM2, hM3, hM4, hM5, hM6, hM7, hM8, hM9, hM10, hM11, hM12, hM13, hM14, hM15, hM16, hMk, hMn⟩ := hM
  refine xa_iconst (pc := 0) dX10_allJoints_0 ?_
  refine xa_aload_n (pc := 1) dX10_allJoints_1 rfl ?_
  refine xa_getfield (pc := 2) dX10_allJoints_2 flRX10_19 (by omega) (by omega) hM0 rfl ?_
  refine xa_iconst (pc := 5) dX10_allJoints_5 ?_
  refine xa_ialdw (pc := 6) 0 dX10_allJoints_6 (by omega) hM4 (by omega) (by omega) rfl ?_
  refine xa_ishl (pc := 7) dX10_allJoints_7 ?_
  refine xa_top (y := if jo = 1 then 2 else 4) (by rw [ho.2.1.2.1]; rcases (show jo = 1 ∨ jo = 2 by have := ho.1.1; omega) with rfl | rfl <;> decide +kernel) ?_
  refine xa_iconst (pc := 8) dX10_allJoints_8 ?_
  refine xa_isub (pc := 9) dX10_allJoints_9 ?_
  refine xa_ireturn (pc := 10) dX10_allJoints_10 rfl trivial ?_
  exact ⟨congrArg (fun z => some (xa_i z)) (show (if jo = 1 then 2 else 4) - 1 = (if jo = 1 then 1 else 3) by split <;> rfl), rfl⟩
theorem c_mMeet {G : xa_G} {h : xa_H} {c : xCf} {q : xTQ} {N : Nat} (k x : Nat) (t v : Int) (F : Nat → Nat → Int) (s : Nat → Int) (ld dg : Nat → Int) (pa jo : Nat) (wa sr pu ri : Int) (hc : 0 ≤ mE jo wa sr c ∧ mE jo wa sr c ≤ 4000000) (ht : -1000000 ≤ t ∧ t ≤ 1000000) (hx : ((x : Nat) : Int) = 360 * mE jo wa sr c + t % 360) (hxN : x < N) (hN : N ≤ 583200) (hqo : mq_ok N q) (hM : xMq h k F s q)  : xa_M G mX10_meet [xa_r k, xa_i (mE jo wa sr c), xa_i t, xa_i v] h 0 0 (fun r h' => (r = none ∧ xMq h' k F s (mq_meet v q x)) ∧ h'.2 = h.2 ∧ ∀ i, (i < k ∨ k + 17 ≤ i) → h'.1 i = h.1 i) := by
  refine xa_enter (by decide +kernel) (Nat.le_of_ble_eq_true rfl) ?_
  refine xa_locals (ls' := [some (xa_r k), some (xa_i (mE jo wa sr c)), some (xa_i t), some (xa_i v), none]) rfl ?_
  have hn : h.2 = h.2 := rfl
  have fr : ∀ i, (i < k ∨ k + 17 ≤ i) → h.1 i = h.1 i := fun _ _ => rfl
  obtain ⟨hM0, hM1, hM2, hM3, hM4, hM5, hM6, hM7, hM8, hM9, hM10, hM11, hM12, hM13, hM14, hM15, hM16, hMk, hMn⟩ := hM
  have hlt : q.1 x < 0 → q.2.2 < N := fun z => mq_lt hqo hxN z
  have hM0 : h.1 k = xa_o 10 [xa_i (s 0), xa_r (k + 1), xa_r (k + 2), xa_r (k + 3), xa_r (k + 4), xa_r (k + 5), xa_r (k + 6), xa_r (k + 7), xa_r (k + 8), xa_r (k + 9), xa_r (k + 10), xa_r (k + 11), xa_r (k + 12), xa_i (s 13), xa_i (s 14), xa_i (s 15), xa_r (k + 13), xa_i (s 17), xa_i (s 18), xa_i (s 19), xa_i (s 20), xa_r (k + 14), xa_r (k + 15), xa_i ((q.2.2 : Nat) : Int), xa_r (k + 16)] := hM0
  have hM1 : h.1 (k + 1) = xa_a 120 (F 1) := hM1
  have hM2 : h.1 (k + 2) = xa_a 2 (F 2) := hM2
  have hM3 : h.1 (k + 3) = xa_a 18 (F 3) := hM3
  have hM4 : h.1 (k + 4) = xa_a 2 (F 4) := hM4
  have hM5 : h.1 (k + 5) = xa_a 4 (F 5) := hM5
  have hM6 : h.1 (k + 6) = xa_a 4 (F 6) := hM6
  have hM7 : h.1 (k + 7) = xa_a 2 (F 7) := hM7
  have hM8 : h.1 (k + 8) = xa_a 2 (F 8) := hM8
  have hM9 : h.1 (k + 9) = xa_a 12 (F 9) := hM9
  have hM10 : h.1 (k + 10) = xa_a 720 (F 10) := hM10
  have hM11 : h.1 (k + 11) = xa_a 3 (F 11) := hM11
  have hM12 : h.1 (k + 12) = xa_a 360 (F 12) := hM12
  have hM13 : h.1 (k + 13) = xa_a 3 (F 13) := hM13
  have hM14 : h.1 (k + 14) = xa_a 583200 q.1 := hM14
  have hM15 : h.1 (k + 15) = xa_a 583200 q.2.1 := hM15
  have hM16 : h.1 (k + 16) = xa_a 4 (F 16) := hM16
  refine xa_sipush (pc := 0) dX10_meet_0 rfl ?_
  refine xa_iload_n (pc := 3) dX10_meet_3 rfl ?_
  refine xa_imul (pc := 4) dX10_meet_4 ?_
  refine xa_iload_n (pc := 5) dX10_meet_5 rfl ?_
  refine xa_callS (pc := 6) (as := [xa_i t]) (rest := [xa_i (360 * (mE jo wa sr c))]) dX10_meet_6 ⟨qX10_round.1, qX10_round.2.1, qX10_round.2.2, by decide, by decide⟩ lkRX10_179 smX10_round rfl rfl (Nat.le_of_ble_eq_true rfl) (Nat.zero_le _) (Nat.zero_le _) (c_round _ (by omega)) (fun r h' hq => ?_)
  obtain ⟨rfl, hq⟩ := hq
  have hq := hq.symm
  subst hq
  refine xa_iadd (pc := 9) dX10_meet_9 ?_
  refine xa_top (y := ((x : Nat) : Int)) (by omega) ?_
  refine xa_istorew (pc := 10) [some (xa_r k), some (xa_i (mE jo wa sr c)), some (xa_i t), some (xa_i v), some (xa_i ((x : Nat) : Int))] dX10_meet_10 (by decide) (Nat.le_of_ble_eq_true rfl) rfl rfl ?_
  refine xa_aload_n (pc := 12) dX10_meet_12 rfl ?_
  refine xa_getfield (pc := 13) dX10_meet_13 flRX10_54 (by omega) (by omega) hM0 rfl ?_
  refine xa_iload (pc := 16) dX10_meet_16 rfl ?_
  refine xa_ialdw (pc := 18) x dX10_meet_18 (by omega) hM14 (by omega) (by omega) (Int.toNat_natCast _) ?_
  have tb_18 := mq_b hqo hxN
  refine xa_if_ge (pc := 19) (tgt := 51) dX10_meet_19 (by decide) ⟨by omega, by omega⟩ (fun c_19 => ?_) (fun c_19 => ?_)
  · skip
    refine xa_return (pc := 51) dX10_meet_51 rfl ?_
    have e : mq_meet v q x = q := if_neg (by omega)
    rw [e]
    exact ⟨⟨rfl, ⟨hM0, hM1, hM2, hM3, hM4, hM5, hM6, hM7, hM8, hM9, hM10, hM11, hM12, hM13, hM14, hM15, hM16, by omega, by omega⟩⟩, hn, fr⟩
  · skip
    refine xa_aload_n (pc := 22) dX10_meet_22 rfl ?_
    refine xa_getfield (pc := 23) dX10_meet_23 flRX10_54 (by omega) (by omega) hM0 rfl ?_
    refine xa_iload (pc := 26) dX10_meet_26 rfl ?_
    refine xa_iload_n (pc := 28) dX10_meet_28 rfl ?_
    refine xa_iastw (pc := 29) x dX10_meet_29 (by omega) (by omega) hM14 (by omega) (by omega) (Int.toNat_natCast _) (fun h1 nh1 ch1 oh1 => ?_)
    have hM14 : h1.1 (k + 14) = xa_a 583200 (xa_upf q.1 x v) := ch1
    have hM0 : h1.1 k = xa_o 10 [xa_i (s 0), xa_r (k + 1), xa_r (k + 2), xa_r (k + 3), xa_r (k + 4), xa_r (k + 5), xa_r (k + 6), xa_r (k + 7), xa_r (k + 8), xa_r (k + 9), xa_r (k + 10), xa_r (k + 11), xa_r (k + 12), xa_i (s 13), xa_i (s 14), xa_i (s 15), xa_r (k + 13), xa_i (s 17), xa_i (s 18), xa_i (s 19), xa_i (s 20), xa_r (k + 14), xa_r (k + 15), xa_i ((q.2.2 : Nat) : Int), xa_r (k + 16)] := (oh1 _ (by omega)).trans hM0
    have hM1 : h1.1 (k + 1) = xa_a 120 (F 1) := (oh1 _ (by omega)).trans hM1
    have hM2 : h1.1 (k + 2) = xa_a 2 (F 2) := (oh1 _ (by omega)).trans hM2
    have hM3 : h1.1 (k + 3) = xa_a 18 (F 3) := (oh1 _ (by omega)).trans hM3
    have hM4 : h1.1 (k + 4) = xa_a 2 (F 4) := (oh1 _ (by omega)).trans hM4
    have hM5 : h1.1 (k + 5) = xa_a 4 (F 5) := (oh1 _ (by omega)).trans hM5
    have hM6 : h1.1 (k + 6) = xa_a 4 (F 6) := (oh1 _ (by omega)).trans hM6
    have hM7 : h1.1 (k + 7) = xa_a 2 (F 7) := (oh1 _ (by omega)).trans hM7
    have hM8 : h1.1 (k + 8) = xa_a 2 (F 8) := (oh1 _ (by omega)).trans hM8
    have hM9 : h1.1 (k + 9) = xa_a 12 (F 9) := (oh1 _ (by omega)).trans hM9
    have hM10 : h1.1 (k + 10) = xa_a 720 (F 10) := (oh1 _ (by omega)).trans hM10
    have hM11 : h1.1 (k + 11) = xa_a 3 (F 11) := (oh1 _ (by omega)).trans hM11
    have hM12 : h1.1 (k + 12) = xa_a 360 (F 12) := (oh1 _ (by omega)).trans hM12
    have hM13 : h1.1 (k + 13) = xa_a 3 (F 13) := (oh1 _ (by omega)).trans hM13
    have hM15 : h1.1 (k + 15) = xa_a 583200 q.2.1 := (oh1 _ (by omega)).trans hM15
    have hM16 : h1.1 (k + 16) = xa_a 4 (F 16) := (oh1 _ (by omega)).trans hM16
    have hn : h1.2 = h.2 := nh1.trans hn
    have fr : ∀ i, (i < k ∨ k + 17 ≤ i) → h1.1 i = h.1 i := fun i hi => (oh1 i (by omega)).trans (fr i hi)
    refine xa_aload_n (pc := 30) dX10_meet_30 rfl ?_
    refine xa_getfield (pc := 31) dX10_meet_31 flRX10_57 (by omega) (by omega) hM0 rfl ?_
    refine xa_aload_n (pc := 34) dX10_meet_34 rfl ?_
    refine xa_getfield (pc := 35) dX10_meet_35 flRX10_206 (by omega) (by omega) hM0 rfl ?_
    refine xa_iload (pc := 38) dX10_meet_38 rfl ?_
    refine xa_iastw (pc := 40) q.2.2 dX10_meet_40 (by omega) (by omega) hM15 (by omega) (by omega) (Int.toNat_natCast _) (fun h2 nh2 ch2 oh2 => ?_)
    have hM15 : h2.1 (k + 15) = xa_a 583200 (xa_upf q.2.1 q.2.2 ((x : Nat) : Int)) := ch2
    have hM0 : h2.1 k = xa_o 10 [xa_i (s 0), xa_r (k + 1), xa_r (k + 2), xa_r (k + 3), xa_r (k + 4), xa_r (k + 5), xa_r (k + 6), xa_r (k + 7), xa_r (k + 8), xa_r (k + 9), xa_r (k + 10), xa_r (k + 11), xa_r (k + 12), xa_i (s 13), xa_i (s 14), xa_i (s 15), xa_r (k + 13), xa_i (s 17), xa_i (s 18), xa_i (s 19), xa_i (s 20), xa_r (k + 14), xa_r (k + 15), xa_i ((q.2.2 : Nat) : Int), xa_r (k + 16)] := (oh2 _ (by omega)).trans hM0
    have hM1 : h2.1 (k + 1) = xa_a 120 (F 1) := (oh2 _ (by omega)).trans hM1
    have hM2 : h2.1 (k + 2) = xa_a 2 (F 2) := (oh2 _ (by omega)).trans hM2
    have hM3 : h2.1 (k + 3) = xa_a 18 (F 3) := (oh2 _ (by omega)).trans hM3
    have hM4 : h2.1 (k + 4) = xa_a 2 (F 4) := (oh2 _ (by omega)).trans hM4
    have hM5 : h2.1 (k + 5) = xa_a 4 (F 5) := (oh2 _ (by omega)).trans hM5
    have hM6 : h2.1 (k + 6) = xa_a 4 (F 6) := (oh2 _ (by omega)).trans hM6
    have hM7 : h2.1 (k + 7) = xa_a 2 (F 7) := (oh2 _ (by omega)).trans hM7
    have hM8 : h2.1 (k + 8) = xa_a 2 (F 8) := (oh2 _ (by omega)).trans hM8
    have hM9 : h2.1 (k + 9) = xa_a 12 (F 9) := (oh2 _ (by omega)).trans hM9
    have hM10 : h2.1 (k + 10) = xa_a 720 (F 10) := (oh2 _ (by omega)).trans hM10
    have hM11 : h2.1 (k + 11) = xa_a 3 (F 11) := (oh2 _ (by omega)).trans hM11
    have hM12 : h2.1 (k + 12) = xa_a 360 (F 12) := (oh2 _ (by omega)).trans hM12
    have hM13 : h2.1 (k + 13) = xa_a 3 (F 13) := (oh2 _ (by omega)).trans hM13
    have hM14 : h2.1 (k + 14) = xa_a 583200 (xa_upf q.1 x v) := (oh2 _ (by omega)).trans hM14
    have hM16 : h2.1 (k + 16) = xa_a 4 (F 16) := (oh2 _ (by omega)).trans hM16
    have hn : h2.2 = h.2 := nh2.trans hn
    have fr : ∀ i, (i < k ∨ k + 17 ≤ i) → h2.1 i = h.1 i := fun i hi => (oh2 i (by omega)).trans (fr i hi)
    refine xa_aload_n (pc := 41) dX10_meet_41 rfl ?_
    refine xa_dup (pc := 42) dX10_meet_42 rfl ?_
    refine xa_getfield (pc := 43) dX10_meet_43 flRX10_206 (by omega) (by omega) hM0 rfl ?_
    refine xa_iconst (pc := 46) dX10_meet_46 ?_
    refine xa_iadd (pc := 47) dX10_meet_47 ?_
    refine xa_top (y := ((q.2.2 + 1 : Nat) : Int)) (by omega) ?_
    refine xa_putw (pc := 48) [xa_i (s 0), xa_r (k + 1), xa_r (k + 2), xa_r (k + 3), xa_r (k + 4), xa_r (k + 5), xa_r (k + 6), xa_r (k + 7), xa_r (k + 8), xa_r (k + 9), xa_r (k + 10), xa_r (k + 11), xa_r (k + 12), xa_i (s 13), xa_i (s 14), xa_i (s 15), xa_r (k + 13), xa_i (s 17), xa_i (s 18), xa_i (s 19), xa_i (s 20), xa_r (k + 14), xa_r (k + 15), xa_i ((q.2.2 + 1 : Nat) : Int), xa_r (k + 16)] dX10_meet_48 flRX10_206 plX10_23 (by omega) (by omega) hM0 trivial rfl (fun h3 nh3 ch3 oh3 => ?_)
    have hM0 : h3.1 k = xa_o 10 [xa_i (s 0), xa_r (k + 1), xa_r (k + 2), xa_r (k + 3), xa_r (k + 4), xa_r (k + 5), xa_r (k + 6), xa_r (k + 7), xa_r (k + 8), xa_r (k + 9), xa_r (k + 10), xa_r (k + 11), xa_r (k + 12), xa_i (s 13), xa_i (s 14), xa_i (s 15), xa_r (k + 13), xa_i (s 17), xa_i (s 18), xa_i (s 19), xa_i (s 20), xa_r (k + 14), xa_r (k + 15), xa_i ((q.2.2 + 1 : Nat) : Int), xa_r (k + 16)] := ch3
    have hM1 : h3.1 (k + 1) = xa_a 120 (F 1) := (oh3 _ (by omega)).trans hM1
    have hM2 : h3.1 (k + 2) = xa_a 2 (F 2) := (oh3 _ (by omega)).trans hM2
    have hM3 : h3.1 (k + 3) = xa_a 18 (F 3) := (oh3 _ (by omega)).trans hM3
    have hM4 : h3.1 (k + 4) = xa_a 2 (F 4) := (oh3 _ (by omega)).trans hM4
    have hM5 : h3.1 (k + 5) = xa_a 4 (F 5) := (oh3 _ (by omega)).trans hM5
    have hM6 : h3.1 (k + 6) = xa_a 4 (F 6) := (oh3 _ (by omega)).trans hM6
    have hM7 : h3.1 (k + 7) = xa_a 2 (F 7) := (oh3 _ (by omega)).trans hM7
    have hM8 : h3.1 (k + 8) = xa_a 2 (F 8) := (oh3 _ (by omega)).trans hM8
    have hM9 : h3.1 (k + 9) = xa_a 12 (F 9) := (oh3 _ (by omega)).trans hM9
    have hM10 : h3.1 (k + 10) = xa_a 720 (F 10) := (oh3 _ (by omega)).trans hM10
    have hM11 : h3.1 (k + 11) = xa_a 3 (F 11) := (oh3 _ (by omega)).trans hM11
    have hM12 : h3.1 (k + 12) = xa_a 360 (F 12) := (oh3 _ (by omega)).trans hM12
    have hM13 : h3.1 (k + 13) = xa_a 3 (F 13) := (oh3 _ (by omega)).trans hM13
    have hM14 : h3.1 (k + 14) = xa_a 583200 (xa_upf q.1 x v) := (oh3 _ (by omega)).trans hM14
    have hM15 : h3.1 (k + 15) = xa_a 583200 (xa_upf q.2.1 q.2.2 ((x : Nat) : Int)) := (oh3 _ (by omega)).trans hM15
    have hM16 : h3.1 (k + 16) = xa_a 4 (F 16) := (oh3 _ (by omega)).trans hM16
    have hn : h3.2 = h.2 := nh3.trans hn
    have fr : ∀ i, (i < k ∨ k + 17 ≤ i) → h3.1 i = h.1 i := fun i hi => (oh3 i (by omega)).trans (fr i hi)
    refine xa_return (pc := 51) dX10_meet_51 rfl ?_
    have e : mq_meet v q x = (xa_upf q.1 x v, xa_upf q.2.1 q.2.2 ((x : Nat) : Int), q.2.2 + 1) := if_pos (by omega)
    rw [e]
    exact ⟨⟨rfl, ⟨hM0, hM1, hM2, hM3, hM4, hM5, hM6, hM7, hM8, hM9, hM10, hM11, hM12, hM13, hM14, hM15, hM16, by omega, by omega⟩⟩, hn, fr⟩
