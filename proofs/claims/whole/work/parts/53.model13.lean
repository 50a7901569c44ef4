/-! The model: heads -/
theorem cf_turn_0 (ld dg : Nat → Int) (pa : Nat) (pu : Int) (c : xCf) : cf_turn ld dg pa pu c 0 = pu.tdiv (cf_all ld pa c) := by
  unfold cf_turn
  rw [cf_b9 ld dg pa c (by omega), Int.sub_zero]
theorem hd_B_y {ld dg : Nat → Int} {pa jo : Nat} {wa sr pu ri : Int} {ms : Nat → Int} {len : Nat} {f : Int} {c : xCf} {u : Int} (h : cr_run ld dg pa jo wa sr pu ms len = some (c, u)) : hd_B ld dg pa jo wa sr pu ri ms len f = decide ((c.2.2.2.1 = 0 ∧ c.2.2.2.2 = 0) ∧ sp_off (f + u) 0 ≤ ri) := by
  unfold hd_B
  rw [h]
theorem hd_B_n {ld dg : Nat → Int} {pa jo : Nat} {wa sr pu ri : Int} {ms : Nat → Int} {len : Nat} {f : Int} (h : cr_run ld dg pa jo wa sr pu ms len = none) : hd_B ld dg pa jo wa sr pu ri ms len f = false := by
  unfold hd_B
  rw [h]
theorem mul_b60 {n x : Int} (hn : 0 ≤ n ∧ n ≤ 60) (hx : -9999 ≤ x ∧ x ≤ 9999) : -600000 ≤ n * x ∧ n * x ≤ 600000 := by
  have h1 : n * x ≤ n * 9999 := Int.mul_le_mul_of_nonneg_left hx.2 hn.1
  have h2 : n * (-9999) ≤ n * x := Int.mul_le_mul_of_nonneg_left hx.1 hn.1
  omega
theorem c_mRight {G : xa_G} {h : xa_H} (k : Nat) (t : Int) (F : Nat → Nat → Int) (s : Nat → Int) (ld dg : Nat → Int) (pa jo : Nat) (wa sr pu ri : Int) (ht : 0 ≤ t ∧ t ≤ 359) (ho : mOk F ld dg pa jo wa sr pu ri) (hM : xM h k F s)  : xa_M G mX10_isRight [xa_r k, xa_i t] h 0 0 (fun r h' => r = some (xa_i (xa_b (sp_off t 0 ≤ ri))) ∧ h' = h) := by
  refine xa_enter (by decide +kernel) (Nat.le_of_ble_eq_true rfl) ?_
  refine xa_locals (ls' := [some (xa_r k), some (xa_i t)]) rfl ?_
  obtain ⟨hM0, hM1, hM2, hM3, hM4, hM5, hM6, hM7, hM8, hM9, hM10, hM11, hM12, hM13, hM14, hM15, hM16, hMk, hMn⟩ := hM
  have hri := ho.1.2.2.2.2.2.2.2
  refine xa_iload_n (pc := 0) dX10_isRight_0 rfl ?_
  refine xa_aload_n (pc := 1) dX10_isRight_1 rfl ?_
  refine xa_getfield (pc := 2) dX10_isRight_2 flRX10_31 (by omega) (by omega) hM0 rfl ?_
  refine xa_iconst (pc := 5) dX10_isRight_5 ?_
  refine xa_ialdw (pc := 6) 0 dX10_isRight_6 (by omega) hM8 (by omega) (by omega) rfl ?_
  refine xa_top (y := ri) ho.2.2.2.2.1 ?_
  refine xa_icmp_le (pc := 7) (tgt := 24) dX10_isRight_7 (by decide) ⟨by omega, by omega⟩ ⟨by omega, by omega⟩ (fun c_7 => ?_) (fun c_7 => ?_)
  · skip
    refine xa_iconst (pc := 24) dX10_isRight_24 ?_
    refine xa_goto (pc := 25) (tgt := 29) dX10_isRight_25 (by decide) ?_
    refine xa_ireturn (pc := 29) dX10_isRight_29 rfl (Or.inr rfl) ?_
    exact ⟨congrArg (fun z => some (xa_i z)) (xa_bt (by unfold sp_off; omega)), rfl⟩
  · skip
    refine xa_sipush (pc := 10) dX10_isRight_10 rfl ?_
    refine xa_iload_n (pc := 13) dX10_isRight_13 rfl ?_
    refine xa_isub (pc := 14) dX10_isRight_14 ?_
    refine xa_aload_n (pc := 15) dX10_isRight_15 rfl ?_
    refine xa_getfield (pc := 16) dX10_isRight_16 flRX10_31 (by omega) (by omega) hM0 rfl ?_
    refine xa_iconst (pc := 19) dX10_isRight_19 ?_
    refine xa_ialdw (pc := 20) 0 dX10_isRight_20 (by omega) hM8 (by omega) (by omega) rfl ?_
    refine xa_top (y := ri) ho.2.2.2.2.1 ?_
    refine xa_icmp_gt (pc := 21) (tgt := 28) dX10_isRight_21 (by decide) ⟨by omega, by omega⟩ ⟨by omega, by omega⟩ (fun c_21 => ?_) (fun c_21 => ?_)
    · skip
      refine xa_iconst (pc := 28) dX10_isRight_28 ?_
      refine xa_ireturn (pc := 29) dX10_isRight_29 rfl (Or.inl rfl) ?_
      exact ⟨congrArg (fun z => some (xa_i z)) (xa_bf (by unfold sp_off; omega)), rfl⟩
    · skip
      refine xa_iconst (pc := 24) dX10_isRight_24 ?_
      refine xa_goto (pc := 25) (tgt := 29) dX10_isRight_25 (by decide) ?_
      refine xa_ireturn (pc := 29) dX10_isRight_29 rfl (Or.inr rfl) ?_
      exact ⟨congrArg (fun z => some (xa_i z)) (xa_bt (by unfold sp_off; omega)), rfl⟩
theorem c_mHead_loop {G : xa_G} {h0 : xa_H} {k : Nat} {turn n fr0_ : Int} {F : Nat → Nat → Int} {s : Nat → Int} {ld dg : Nat → Int} {pa jo : Nat} {wa sr pu ri : Int} (hk : 2 ≤ k) (hfrom : fr0_ = (turn + hd_late ld pa pu n) % 360) (ho : mOk F ld dg pa jo wa sr pu ri) (hpu : -9999 ≤ pu ∧ pu ≤ 9999) : ∀ (d : Nat) (w : Nat) (s1 : Nat → Int) (h : xa_H), 4 - w < d → (w ≤ 4) → (∀ w' : Nat, w' < w → ¬ hd_ok ld dg pa jo wa sr pu ri (wy (F 10) w') (F 9 w').toNat (turn + hd_late ld pa pu n)) → (msF s s1) → (h.2 = h0.2) → (k + 16 < h.2) → (h.1 k = xa_o 10 [xa_i (s1 0), xa_r (k + 1), xa_r (k + 2), xa_r (k + 3), xa_r (k + 4), xa_r (k + 5), xa_r (k + 6), xa_r (k + 7), xa_r (k + 8), xa_r (k + 9), xa_r (k + 10), xa_r (k + 11), xa_r (k + 12), xa_i (s1 13), xa_i pu, xa_i (s1 15), xa_r (k + 13), xa_i (s1 17), xa_i (s1 18), xa_i (s1 19), xa_i (s1 20), xa_r (k + 14), xa_r (k + 15), xa_i (s1 23), xa_r (k + 16)]) → (h.1 (k + 1) = xa_a 120 (F 1)) → (h.1 (k + 2) = xa_a 2 (F 2)) → (h.1 (k + 3) = xa_a 18 (F 3)) → (h.1 (k + 4) = xa_a 2 (F 4)) → (h.1 (k + 5) = xa_a 4 (F 5)) → (h.1 (k + 6) = xa_a 4 (F 6)) → (h.1 (k + 7) = xa_a 2 (F 7)) → (h.1 (k + 8) = xa_a 2 (F 8)) → (h.1 (k + 9) = xa_a 12 (F 9)) → (h.1 (k + 10) = xa_a 720 (F 10)) → (h.1 (k + 11) = xa_a 3 (F 11)) → (h.1 (k + 12) = xa_a 360 (F 12)) → (h.1 (k + 13) = xa_a 3 (F 13)) → (h.1 (k + 14) = xa_a 583200 (F 14)) → (h.1 (k + 15) = xa_a 583200 (F 15)) → (h.1 (k + 16) = xa_a 4 (F 16)) → (∀ i, (i < k ∨ k + 17 ≤ i) → h.1 i = h0.1 i) → xa_W G mX10_headOf (xa_Z G (fun r h' => (∃ (r0 : Int) (s' : Nat → Int), r = some (xa_i r0) ∧ an_head ld dg pa jo wa sr pu ri (F 10) (F 9) (turn + hd_late ld pa pu n) r0 ∧ msF s s' ∧ xM h' k F s') ∧ h'.2 = h0.2 ∧ ∀ i, (i < k ∨ k + 17 ≤ i) → h'.1 i = h0.1 i)) 30 [some (xa_r k), some (xa_i turn), some (xa_i n), some (xa_i fr0_), some (xa_i ((w : Nat) : Int))] [] h 0 0 := by
  intro d
  induction d with
  | zero => intros; exfalso; omega
  | succ d ih =>
    intro w s1 h hd hw hno hms hn0 hkn hM0 hM1 hM2 hM3 hM4 hM5 hM6 hM7 hM8 hM9 hM10 hM11 hM12 hM13 hM14 hM15 hM16 fr0
    have hn : h.2 = h.2 := rfl
    have fr : ∀ i, (i < k ∨ k + 17 ≤ i) → h.1 i = h.1 i := fun _ _ => rfl
    have hpa := ho.1.1
    have h9w := ho.2.2.2.2.2.1 w
    refine xa_iload (pc := 30) dX10_headOf_30 rfl ?_
    refine xa_iconst (pc := 32) dX10_headOf_32 ?_
    refine xa_icmp_ge (pc := 33) (tgt := 90) dX10_headOf_33 (by decide) ⟨by omega, by omega⟩ (by decide) (fun c_33 => ?_) (fun c_33 => ?_)
    · skip
      refine xa_bipush (pc := 90) dX10_headOf_90 rfl ?_
      refine xa_ireturn (pc := 92) dX10_headOf_92 rfl trivial ?_
      have hw4 : w = 4 := by omega
      subst hw4
      exact ⟨⟨_, xa_upf s1 14 pu, rfl, Or.inr ⟨hno, rfl⟩, hms, ⟨hM0, hM1, hM2, hM3, hM4, hM5, hM6, hM7, hM8, hM9, hM10, hM11, hM12, hM13, hM14, hM15, hM16, by omega, by omega⟩⟩, by omega, fun i hi => (fr i hi).trans (fr0 i hi)⟩
    · skip
      refine xa_aload_n (pc := 36) dX10_headOf_36 rfl ?_
      refine xa_iload (pc := 37) dX10_headOf_37 rfl ?_
      refine xa_iload_n (pc := 39) dX10_headOf_39 rfl ?_
      refine xa_bipush (pc := 40) dX10_headOf_40 rfl ?_
      refine xa_callV (pc := 42) (as := [xa_i ((w : Nat) : Int), xa_i fr0_, xa_i 60]) (rest := []) dX10_headOf_42 ⟨qX10_go.1, qX10_go.2.1, qX10_go.2.2, by decide, by decide⟩ lkRX10_187 imX10_go seX10_go rfl rfl (by omega) (by omega) hM0 rfl (Nat.le_of_ble_eq_true rfl) (Nat.zero_le _) (Nat.zero_le _) (c_mGo _ w fr0_ 60 F (xa_upf (xa_upf (xa_upf (xa_upf (xa_upf (xa_upf (xa_upf (xa_upf (xa_upf s 0 (s1 0)) 13 (s1 13)) 14 pu) 15 (s1 15)) 17 (s1 17)) 18 (s1 18)) 19 (s1 19)) 20 (s1 20)) 23 (s1 23)) ld dg pa jo wa sr pu ri (by omega) (by omega) (by omega) ho (by show -9999 ≤ pu ∧ pu ≤ 9999; omega) ⟨hM0, hM1, hM2, hM3, hM4, hM5, hM6, hM7, hM8, hM9, hM10, hM11, hM12, hM13, hM14, hM15, hM16, by omega, by omega⟩) (fun r h' hq => ?_)
      obtain ⟨⟨rfl, m, c, u, hm, hm2, hrun, hc, hfail, hM⟩, hqn, hqf⟩ := hq
      obtain ⟨hM0, hM1, hM2, hM3, hM4, hM5, hM6, hM7, hM8, hM9, hM10, hM11, hM12, hM13, hM14, hM15, hM16, hMk, hMn⟩ := hM
      have hM0 : h'.1 k = xa_o 10 [xa_i (s1 0), xa_r (k + 1), xa_r (k + 2), xa_r (k + 3), xa_r (k + 4), xa_r (k + 5), xa_r (k + 6), xa_r (k + 7), xa_r (k + 8), xa_r (k + 9), xa_r (k + 10), xa_r (k + 11), xa_r (k + 12), xa_i (s1 13), xa_i pu, xa_i (s1 15), xa_r (k + 13), xa_i (mE jo wa sr c), xa_i ((fr0_ + u) % 360), xa_i ((m : Nat) : Int), xa_i (s1 20), xa_r (k + 14), xa_r (k + 15), xa_i (s1 23), xa_r (k + 16)] := hM0
      have hM1 : h'.1 (k + 1) = xa_a 120 (F 1) := hM1
      have hM2 : h'.1 (k + 2) = xa_a 2 (F 2) := hM2
      have hM3 : h'.1 (k + 3) = xa_a 18 (F 3) := hM3
      have hM4 : h'.1 (k + 4) = xa_a 2 (F 4) := hM4
      have hM5 : h'.1 (k + 5) = xa_a 4 (F 5) := hM5
      have hM6 : h'.1 (k + 6) = xa_a 4 (F 6) := hM6
      have hM7 : h'.1 (k + 7) = xa_a 2 (F 7) := hM7
      have hM8 : h'.1 (k + 8) = xa_a 2 (F 8) := hM8
      have hM9 : h'.1 (k + 9) = xa_a 12 (F 9) := hM9
      have hM10 : h'.1 (k + 10) = xa_a 720 (F 10) := hM10
      have hM11 : h'.1 (k + 11) = xa_a 3 (F 11) := hM11
      have hM12 : h'.1 (k + 12) = xa_a 360 (F 12) := hM12
      have hM13 : h'.1 (k + 13) = xa_a 3 (F 13) := hM13
      have hM14 : h'.1 (k + 14) = xa_a 583200 (F 14) := hM14
      have hM15 : h'.1 (k + 15) = xa_a 583200 (F 15) := hM15
      have hM16 : h'.1 (k + 16) = xa_a 4 (F 16) := hM16
      have hn : h'.2 = h.2 := hqn.trans hn
      have fr : ∀ i, (i < k ∨ k + 17 ≤ i) → h'.1 i = h.1 i := fun i hi => (hqf i (by omega)).trans (fr i hi)
      have hmb := mE_9 ho.1 ho.2.1 hc
      have h9 := ho.2.2.2.2.2.1 w
      refine xa_aload_n (pc := 45) dX10_headOf_45 rfl ?_
      refine xa_getfield (pc := 46) dX10_headOf_46 flRX10_170 (by omega) (by omega) hM0 rfl ?_
      refine xa_aload_n (pc := 49) dX10_headOf_49 rfl ?_
      refine xa_getfield (pc := 50) dX10_headOf_50 flRX10_34 (by omega) (by omega) hM0 rfl ?_
      refine xa_iload (pc := 53) dX10_headOf_53 rfl ?_
      refine xa_ialdw (pc := 55) w dX10_headOf_55 (by omega) hM9 (by omega) (by omega) (Int.toNat_natCast _) ?_
      refine xa_icmp_ne (pc := 56) (tgt := 84) dX10_headOf_56 (by decide) ⟨by omega, by omega⟩ ⟨by omega, by omega⟩ (fun c_56 => ?_) (fun c_56 => ?_)
      · skip
        refine xa_iincw (pc := 84) (y := ((w + 1 : Nat) : Int)) [some (xa_r k), some (xa_i turn), some (xa_i n), some (xa_i fr0_), some (xa_i ((w + 1 : Nat) : Int))] dX10_headOf_84 (by decide) rfl rfl (by omega) rfl ?_
        refine xa_goto (pc := 87) (tgt := 30) dX10_headOf_87 (by decide) ?_
        have hdone : cr_done ld dg pa jo wa sr pu (wy (F 10) (w : Int)) (F 9 w).toNat m c u := ⟨by omega, hrun, fun q => hfail (by omega) (by omega)⟩
        have hb : hd_B ld dg pa jo wa sr pu ri (wy (F 10) (w : Int)) (F 9 w).toNat (turn + hd_late ld pa pu n) = false := hd_B_n (by
          have q2 := (cr_stop hdone (t := (F 9 w).toNat) (by omega)).mp
          cases hr : cr_run ld dg pa jo wa sr pu (wy (F 10) (w : Int)) (F 9 w).toNat with
          | none => rfl
          | some z => exact absurd (q2 (by rw [hr]; rfl)) (by omega))
        exact ih (w + 1) (xa_upf (xa_upf (xa_upf (xa_upf s1 14 pu) 17 (mE jo wa sr c)) 18 ((fr0_ + u) % 360)) 19 ((m : Nat) : Int)) _ (by omega) (by omega) (fun w2 hw2 => if e : w2 = w then (by rw [e]; unfold hd_ok; rw [hb]; decide) else hno w2 (by omega)) hms (by omega) (by omega) hM0 hM1 hM2 hM3 hM4 hM5 hM6 hM7 hM8 hM9 hM10 hM11 hM12 hM13 hM14 hM15 hM16 (fun i hi => (fr i hi).trans (fr0 i hi))
      · skip
        refine xa_aload_n (pc := 59) dX10_headOf_59 rfl ?_
        refine xa_aload_n (pc := 60) dX10_headOf_60 rfl ?_
        refine xa_getfield (pc := 61) dX10_headOf_61 flRX10_164 (by omega) (by omega) hM0 rfl ?_
        refine xa_callV (pc := 64) (as := [xa_i (mE jo wa sr c)]) (rest := []) dX10_headOf_64 ⟨qX10_isStraight.1, qX10_isStraight.2.1, qX10_isStraight.2.2, by decide, by decide⟩ lkRX10_197 imX10_isStraight seX10_isStraight rfl rfl (by omega) (by omega) hM0 rfl (Nat.le_of_ble_eq_true rfl) (Nat.zero_le _) (Nat.zero_le _) (c_kStraight (F := F) (s := xa_upf (xa_upf (xa_upf (xa_upf s1 14 pu) 17 (mE jo wa sr c)) 18 ((fr0_ + u) % 360)) 19 ((m : Nat) : Int)) ho ⟨hM0, hM1, hM2, hM3, hM4, hM5, hM6, hM7, hM8, hM9, hM10, hM11, hM12, hM13, hM14, hM15, hM16, by omega, by omega⟩ hc) (fun r h' hq => ?_)
        obtain ⟨rfl, hq⟩ := hq
        have hq := hq.symm
        subst hq
        refine xa_if_eq (pc := 67) (tgt := 84) dX10_headOf_67 (by decide) xa_okb (fun c_67 => ?_) (fun c_67 => ?_)
        · have c_67 := xa_b0.mp c_67
          refine xa_iincw (pc := 84) (y := ((w + 1 : Nat) : Int)) [some (xa_r k), some (xa_i turn), some (xa_i n), some (xa_i fr0_), some (xa_i ((w + 1 : Nat) : Int))] dX10_headOf_84 (by decide) rfl rfl (by omega) rfl ?_
          refine xa_goto (pc := 87) (tgt := 30) dX10_headOf_87 (by decide) ?_
          have hmt : m = (F 9 w).toNat := by omega
          have hb := hd_B_y (ri := ri) (f := turn + hd_late ld pa pu n) (show cr_run ld dg pa jo wa sr pu (wy (F 10) (w : Int)) (F 9 w).toNat = some (c, u) by rw [← hmt]; exact hrun)
          rw [decide_eq_false (fun z => c_67 z.1)] at hb
          exact ih (w + 1) (xa_upf (xa_upf (xa_upf (xa_upf s1 14 pu) 17 (mE jo wa sr c)) 18 ((fr0_ + u) % 360)) 19 ((m : Nat) : Int)) _ (by omega) (by omega) (fun w2 hw2 => if e : w2 = w then (by rw [e]; unfold hd_ok; rw [hb]; decide) else hno w2 (by omega)) hms (by omega) (by omega) hM0 hM1 hM2 hM3 hM4 hM5 hM6 hM7 hM8 hM9 hM10 hM11 hM12 hM13 hM14 hM15 hM16 (fun i hi => (fr i hi).trans (fr0 i hi))
        · have c_67 := xa_b1.mp c_67
          refine xa_aload_n (pc := 70) dX10_headOf_70 rfl ?_
          refine xa_aload_n (pc := 71) dX10_headOf_71 rfl ?_
          refine xa_getfield (pc := 72) dX10_headOf_72 flRX10_167 (by omega) (by omega) hM0 rfl ?_
          refine xa_callV (pc := 75) (as := [xa_i ((fr0_ + u) % 360)]) (rest := []) dX10_headOf_75 ⟨qX10_isRight.1, qX10_isRight.2.1, qX10_isRight.2.2, by decide, by decide⟩ lkRX10_215 imX10_isRight seX10_isRight rfl rfl (by omega) (by omega) hM0 rfl (Nat.le_of_ble_eq_true rfl) (Nat.zero_le _) (Nat.zero_le _) (c_mRight _ ((fr0_ + u) % 360) F (xa_upf (xa_upf (xa_upf (xa_upf s1 14 pu) 17 (mE jo wa sr c)) 18 ((fr0_ + u) % 360)) 19 ((m : Nat) : Int)) ld dg pa jo wa sr pu ri (by omega) ho ⟨hM0, hM1, hM2, hM3, hM4, hM5, hM6, hM7, hM8, hM9, hM10, hM11, hM12, hM13, hM14, hM15, hM16, by omega, by omega⟩) (fun r h' hq => ?_)
          obtain ⟨rfl, hq⟩ := hq
          have hq := hq.symm
          subst hq
          refine xa_if_eq (pc := 78) (tgt := 84) dX10_headOf_78 (by decide) xa_okb (fun c_78 => ?_) (fun c_78 => ?_)
          · have c_78 := xa_b0.mp c_78
            refine xa_iincw (pc := 84) (y := ((w + 1 : Nat) : Int)) [some (xa_r k), some (xa_i turn), some (xa_i n), some (xa_i fr0_), some (xa_i ((w + 1 : Nat) : Int))] dX10_headOf_84 (by decide) rfl rfl (by omega) rfl ?_
            refine xa_goto (pc := 87) (tgt := 30) dX10_headOf_87 (by decide) ?_
            have hmt : m = (F 9 w).toNat := by omega
            have hb := hd_B_y (ri := ri) (f := turn + hd_late ld pa pu n) (show cr_run ld dg pa jo wa sr pu (wy (F 10) (w : Int)) (F 9 w).toNat = some (c, u) by rw [← hmt]; exact hrun)
            rw [decide_eq_false (fun z => (by have z2 := z.2; unfold sp_off at c_78 z2; omega))] at hb
            exact ih (w + 1) (xa_upf (xa_upf (xa_upf (xa_upf s1 14 pu) 17 (mE jo wa sr c)) 18 ((fr0_ + u) % 360)) 19 ((m : Nat) : Int)) _ (by omega) (by omega) (fun w2 hw2 => if e : w2 = w then (by rw [e]; unfold hd_ok; rw [hb]; decide) else hno w2 (by omega)) hms (by omega) (by omega) hM0 hM1 hM2 hM3 hM4 hM5 hM6 hM7 hM8 hM9 hM10 hM11 hM12 hM13 hM14 hM15 hM16 (fun i hi => (fr i hi).trans (fr0 i hi))
          · have c_78 := xa_b1.mp c_78
            refine xa_iload (pc := 81) dX10_headOf_81 rfl ?_
            refine xa_ireturn (pc := 83) dX10_headOf_83 rfl trivial ?_
            have hmt : m = (F 9 w).toNat := by omega
            have hb := hd_B_y (ri := ri) (f := turn + hd_late ld pa pu n) (show cr_run ld dg pa jo wa sr pu (wy (F 10) (w : Int)) (F 9 w).toNat = some (c, u) by rw [← hmt]; exact hrun)
            rw [decide_eq_true ⟨c_67, by unfold sp_off at c_78 ⊢; omega⟩] at hb
            exact ⟨⟨_, xa_upf (xa_upf (xa_upf (xa_upf s1 14 pu) 17 (mE jo wa sr c)) 18 ((fr0_ + u) % 360)) 19 ((m : Nat) : Int), rfl, Or.inl ⟨w, by omega, hb, hno, rfl⟩, hms, ⟨hM0, hM1, hM2, hM3, hM4, hM5, hM6, hM7, hM8, hM9, hM10, hM11, hM12, hM13, hM14, hM15, hM16, by omega, by omega⟩⟩, by omega, fun i hi => (fr i hi).trans (fr0 i hi)⟩
theorem c_mHeadOf {G : xa_G} {h : xa_H} (k : Nat) (turn n : Int) (F : Nat → Nat → Int) (s : Nat → Int) (ld dg : Nat → Int) (pa jo : Nat) (wa sr pu ri : Int) (htu : 0 ≤ turn ∧ turn ≤ 359) (hn60 : 0 ≤ n ∧ n ≤ 60) (ho : mOk F ld dg pa jo wa sr pu ri) (hM : xM h k F s)  : xa_M G mX10_headOf [xa_r k, xa_i turn, xa_i n] h 0 0 (fun r h' => (∃ (r0 : Int) (s' : Nat → Int), r = some (xa_i r0) ∧ an_head ld dg pa jo wa sr pu ri (F 10) (F 9) (turn + hd_late ld pa pu n) r0 ∧ msF s s' ∧ xM h' k F s') ∧ h'.2 = h.2 ∧ ∀ i, (i < k ∨ k + 17 ≤ i) → h'.1 i = h.1 i) := by
  refine xa_enter (by decide +kernel) (Nat.le_of_ble_eq_true rfl) ?_
  refine xa_locals (ls' := [some (xa_r k), some (xa_i turn), some (xa_i n), none, none]) rfl ?_
  have hn : h.2 = h.2 := rfl
  have fr : ∀ i, (i < k ∨ k + 17 ≤ i) → h.1 i = h.1 i := fun _ _ => rfl
  obtain ⟨hM0, hM1, hM2, hM3, hM4, hM5, hM6, hM7, hM8, hM9, hM10, hM11, hM12, hM13, hM14, hM15, hM16, hMk, hMn⟩ := hM
  refine xa_aload_n (pc := 0) dX10_headOf_0 rfl ?_
  refine xa_aload_n (pc := 1) dX10_headOf_1 rfl ?_
  refine xa_getfield (pc := 2) dX10_headOf_2 flRX10_28 (by omega) (by omega) hM0 rfl ?_
  refine xa_iconst (pc := 5) dX10_headOf_5 ?_
  refine xa_ialdw (pc := 6) 0 dX10_headOf_6 (by omega) hM7 (by omega) (by omega) rfl ?_
  refine xa_top (y := pu) ho.2.2.2.1 ?_
  have hpb := ho.1.2.2.2.2.2.2.1
  refine xa_putw (pc := 7) [xa_i (s 0), xa_r (k + 1), xa_r (k + 2), xa_r (k + 3), xa_r (k + 4), xa_r (k + 5), xa_r (k + 6), xa_r (k + 7), xa_r (k + 8), xa_r (k + 9), xa_r (k + 10), xa_r (k + 11), xa_r (k + 12), xa_i (s 13), xa_i pu, xa_i (s 15), xa_r (k + 13), xa_i (s 17), xa_i (s 18), xa_i (s 19), xa_i (s 20), xa_r (k + 14), xa_r (k + 15), xa_i (s 23), xa_r (k + 16)] dX10_headOf_7 flRX10_149 plX10_14 (by omega) (by omega) hM0 trivial rfl (fun h1 nh1 ch1 oh1 => ?_)
  have hM0 : h1.1 k = xa_o 10 [xa_i (s 0), xa_r (k + 1), xa_r (k + 2), xa_r (k + 3), xa_r (k + 4), xa_r (k + 5), xa_r (k + 6), xa_r (k + 7), xa_r (k + 8), xa_r (k + 9), xa_r (k + 10), xa_r (k + 11), xa_r (k + 12), xa_i (s 13), xa_i pu, xa_i (s 15), xa_r (k + 13), xa_i (s 17), xa_i (s 18), xa_i (s 19), xa_i (s 20), xa_r (k + 14), xa_r (k + 15), xa_i (s 23), xa_r (k + 16)] := ch1
  have hM1 : h1.1 (k + 1) = xa_a 120 (F 1) := (oh1 _ (by omega)).trans hM1
  have hM2 : h1.1 (k + 2) = xa_a 2 (F 2) := (oh1 _ (by omega)).trans hM2
  have hM3 : h1.1 (k + 3) = xa_a 18 (F 3) := (oh1 _ (by omega)).trans hM3
  have hM4 : h1.1 (k + 4) = xa_a 2 (F 4) := (oh1 _ (by omega)).trans hM4
  have hM5 : h1.1 (k + 5) = xa_a 4 (F 5) := (oh1 _ (by omega)).trans hM5
  have hM6 : h1.1 (k + 6) = xa_a 4 (F 6) := (oh1 _ (by omega)).trans hM6
  have hM7 : h1.1 (k + 7) = xa_a 2 (F 7) := (oh1 _ (by omega)).trans hM7
  have hM8 : h1.1 (k + 8) = xa_a 2 (F 8) := (oh1 _ (by omega)).trans hM8
  have hM9 : h1.1 (k + 9) = xa_a 12 (F 9) := (oh1 _ (by omega)).trans hM9
  have hM10 : h1.1 (k + 10) = xa_a 720 (F 10) := (oh1 _ (by omega)).trans hM10
  have hM11 : h1.1 (k + 11) = xa_a 3 (F 11) := (oh1 _ (by omega)).trans hM11
  have hM12 : h1.1 (k + 12) = xa_a 360 (F 12) := (oh1 _ (by omega)).trans hM12
  have hM13 : h1.1 (k + 13) = xa_a 3 (F 13) := (oh1 _ (by omega)).trans hM13
  have hM14 : h1.1 (k + 14) = xa_a 583200 (F 14) := (oh1 _ (by omega)).trans hM14
  have hM15 : h1.1 (k + 15) = xa_a 583200 (F 15) := (oh1 _ (by omega)).trans hM15
  have hM16 : h1.1 (k + 16) = xa_a 4 (F 16) := (oh1 _ (by omega)).trans hM16
  have hn : h1.2 = h.2 := nh1.trans hn
  have fr : ∀ i, (i < k ∨ k + 17 ≤ i) → h1.1 i = h.1 i := fun i hi => (oh1 i (by omega)).trans (fr i hi)
  refine xa_iload_n (pc := 10) dX10_headOf_10 rfl ?_
  refine xa_iload_n (pc := 11) dX10_headOf_11 rfl ?_
  refine xa_aload_n (pc := 12) dX10_headOf_12 rfl ?_
  refine xa_aload_n (pc := 13) dX10_headOf_13 rfl ?_
  refine xa_callV (pc := 14) (as := []) (rest := [xa_r k, xa_i n, xa_i turn]) dX10_headOf_14 ⟨qX10_rest.1, qX10_rest.2.1, qX10_rest.2.2, by decide, by decide⟩ lkRX10_161 imX10_rest seX10_rest rfl rfl (by omega) (by omega) hM0 rfl (Nat.le_of_ble_eq_true rfl) (Nat.zero_le _) (Nat.zero_le _) (c_kRest (F := F) (s := xa_upf s 14 pu) ho ⟨hM0, hM1, hM2, hM3, hM4, hM5, hM6, hM7, hM8, hM9, hM10, hM11, hM12, hM13, hM14, hM15, hM16, by omega, by omega⟩) (fun r h' hq => ?_)
  obtain ⟨rfl, hq⟩ := hq
  have hq := hq.symm
  subst hq
  refine xa_iconst (pc := 17) dX10_headOf_17 ?_
  refine xa_callV (pc := 18) (as := [xa_i (mE jo wa sr (cf_rest pa)), xa_i 0]) (rest := [xa_i n, xa_i turn]) dX10_headOf_18 ⟨qX10_turnedBy.1, qX10_turnedBy.2.1, qX10_turnedBy.2.2, by decide, by decide⟩ lkRX10_176 imX10_turnedBy seX10_turnedBy rfl rfl (by omega) (by omega) hM0 rfl (Nat.le_of_ble_eq_true rfl) (Nat.zero_le _) (Nat.zero_le _) (c_kTurned (F := F) (s := xa_upf s 14 pu) ho ⟨hM0, hM1, hM2, hM3, hM4, hM5, hM6, hM7, hM8, hM9, hM10, hM11, hM12, hM13, hM14, hM15, hM16, by omega, by omega⟩ (cf_rest_ok ho.1) 0 (by omega) (by omega) (by show -9999 ≤ pu ∧ pu ≤ 9999; omega)) (fun r h' hq => ?_)
  obtain ⟨rfl, hq⟩ := hq
  have hq := hq.symm
  subst hq
  refine xa_top (y := pu.tdiv (cf_all ld pa (cf_rest pa))) (cf_turn_0 ld dg pa pu (cf_rest pa)) ?_
  have tb := tdiv_b (n := 9999) hpb (by have := cf_all_b ho.1 (cf_rest_ok ho.1); omega : 1 ≤ cf_all ld pa (cf_rest pa))
  have tb2 := mul_b60 hn60 tb
  refine xa_imul (pc := 21) dX10_headOf_21 ?_
  refine xa_iadd (pc := 22) dX10_headOf_22 ?_
  refine xa_callS (pc := 23) (as := [xa_i (turn + (n * (pu.tdiv (cf_all ld pa (cf_rest pa)))))]) (rest := []) dX10_headOf_23 ⟨qX10_round.1, qX10_round.2.1, qX10_round.2.2, by decide, by decide⟩ lkRX10_179 smX10_round rfl rfl (Nat.le_of_ble_eq_true rfl) (Nat.zero_le _) (Nat.zero_le _) (c_round _ (by omega)) (fun r h' hq => ?_)
  obtain ⟨rfl, hq⟩ := hq
  have hq := hq.symm
  subst hq
  refine xa_istoren (pc := 26) [some (xa_r k), some (xa_i turn), some (xa_i n), some (xa_i ((turn + (n * (pu.tdiv (cf_all ld pa (cf_rest pa))))) % 360)), none] dX10_headOf_26 (by decide) (Nat.le_of_ble_eq_true rfl) rfl rfl ?_
  refine xa_iconst (pc := 27) dX10_headOf_27 ?_
  refine xa_istorew (pc := 28) [some (xa_r k), some (xa_i turn), some (xa_i n), some (xa_i ((turn + (n * (pu.tdiv (cf_all ld pa (cf_rest pa))))) % 360)), some (xa_i 0)] dX10_headOf_28 (by decide) (Nat.le_of_ble_eq_true rfl) rfl rfl ?_
  exact c_mHead_loop hMk rfl ho hpb 5 0 (xa_upf s 14 pu) _ (by omega) (by omega) (fun w2 hw2 => absurd hw2 (Nat.not_lt_zero _)) ⟨rfl, rfl, rfl⟩ (by omega) (by omega) hM0 hM1 hM2 hM3 hM4 hM5 hM6 hM7 hM8 hM9 hM10 hM11 hM12 hM13 hM14 hM15 hM16 fr
theorem an_head_ok {ld dg : Nat → Int} {pa jo : Nat} {wa sr pu ri : Int} {mvs les : Nat → Int} {f r : Int} (h : an_head ld dg pa jo wa sr pu ri mvs les f r) : xa_ok r := by
  rcases h with ⟨w, a1, a2, a3, a4⟩ | ⟨a1, a2⟩
  · exact ⟨by omega, by omega⟩
  · rw [a2]; decide
theorem c_mHeadA {G : xa_G} {h : xa_H} (k : Nat) (turn n : Int) (F : Nat → Nat → Int) (s : Nat → Int) (ld dg : Nat → Int) (pa jo : Nat) (wa sr pu ri : Int) (h1 : xa_ok turn) (h2 : xa_ok n) (ho : mOk F ld dg pa jo wa sr pu ri) (hM : xM h k F s)  : xa_M G mX10_head [xa_r k, xa_i turn, xa_i n] h 0 0 (fun r h' => (∃ (r0 : Int) (s' : Nat → Int), r = some (xa_i r0) ∧ sq_head ld dg pa jo wa sr pu ri (F 10) (F 9) turn n r0 ∧ msF s s' ∧ xM h' k F s') ∧ h'.2 = h.2 ∧ ∀ i, (i < k ∨ k + 17 ≤ i) → h'.1 i = h.1 i) := by
  refine xa_enter (by decide +kernel) (Nat.le_of_ble_eq_true rfl) ?_
  refine xa_locals (ls' := [some (xa_r k), some (xa_i turn), some (xa_i n)]) rfl ?_
  have hn : h.2 = h.2 := rfl
  have fr : ∀ i, (i < k ∨ k + 17 ≤ i) → h.1 i = h.1 i := fun _ _ => rfl
  obtain ⟨hM0, hM1, hM2, hM3, hM4, hM5, hM6, hM7, hM8, hM9, hM10, hM11, hM12, hM13, hM14, hM15, hM16, hMk, hMn⟩ := hM
  refine xa_iload_n (pc := 0) dX10_head_0 rfl ?_
  refine xa_callS (pc := 1) (as := [xa_i turn]) (rest := []) dX10_head_1 ⟨qX10_isTurn.1, qX10_isTurn.2.1, qX10_isTurn.2.2, by decide, by decide⟩ lkRX10_182 smX10_isTurn rfl rfl (Nat.le_of_ble_eq_true rfl) (Nat.zero_le _) (Nat.zero_le _) (c_mTurn _ ⟨by omega, by omega⟩) (fun r h' hq => ?_)
  obtain ⟨rfl, hq⟩ := hq
  have hq := hq.symm
  subst hq
  refine xa_if_eq (pc := 4) (tgt := 28) dX10_head_4 (by decide) xa_okb (fun c_4 => ?_) (fun c_4 => ?_)
  · have c_4 := xa_b0.mp c_4
    refine xa_iconst (pc := 28) dX10_head_28 ?_
    refine xa_ireturn (pc := 29) dX10_head_29 rfl trivial ?_
    exact ⟨⟨_, s, rfl, Or.inl ⟨by omega, rfl⟩, ⟨rfl, rfl, rfl⟩, ⟨hM0, hM1, hM2, hM3, hM4, hM5, hM6, hM7, hM8, hM9, hM10, hM11, hM12, hM13, hM14, hM15, hM16, by omega, by omega⟩⟩, hn, fr⟩
  · have c_4 := xa_b1.mp c_4
    refine xa_iload_n (pc := 7) dX10_head_7 rfl ?_
    refine xa_i2l (pc := 8) dX10_head_8 ⟨by omega, by omega⟩ ?_
    refine xa_lconst (pc := 9) (n := 0) dX10_head_9 rfl ?_
    refine xa_ldc2 (pc := 10) (n := 60) dX10_head_10 ctRX10_185 rfl ?_
    refine xa_callS (pc := 13) (as := [xa_l n, xa_l 0, xa_l 60]) (rest := []) dX10_head_13 ⟨qX10_in.1, qX10_in.2.1, qX10_in.2.2, by decide, by decide⟩ lkRX10_65 smX10_in rfl rfl (Nat.le_of_ble_eq_true rfl) (Nat.zero_le _) (Nat.zero_le _) (c_in _ _ _ ⟨by omega, by omega⟩ ⟨by omega, by omega⟩ ⟨by omega, by omega⟩) (fun r h' hq => ?_)
    obtain ⟨rfl, hq⟩ := hq
    have hq := hq.symm
    subst hq
    refine xa_if_eq (pc := 16) (tgt := 28) dX10_head_16 (by decide) xa_okb (fun c_16 => ?_) (fun c_16 => ?_)
    · have c_16 := xa_b0.mp c_16
      refine xa_iconst (pc := 28) dX10_head_28 ?_
      refine xa_ireturn (pc := 29) dX10_head_29 rfl trivial ?_
      exact ⟨⟨_, s, rfl, Or.inl ⟨by omega, rfl⟩, ⟨rfl, rfl, rfl⟩, ⟨hM0, hM1, hM2, hM3, hM4, hM5, hM6, hM7, hM8, hM9, hM10, hM11, hM12, hM13, hM14, hM15, hM16, by omega, by omega⟩⟩, hn, fr⟩
    · have c_16 := xa_b1.mp c_16
      refine xa_aload_n (pc := 19) dX10_head_19 rfl ?_
      refine xa_iload_n (pc := 20) dX10_head_20 rfl ?_
      refine xa_iload_n (pc := 21) dX10_head_21 rfl ?_
      refine xa_callV (pc := 22) (as := [xa_i turn, xa_i n]) (rest := []) dX10_head_22 ⟨qX10_headOf.1, qX10_headOf.2.1, qX10_headOf.2.2, by decide, by decide⟩ lkRX10_254 imX10_headOf seX10_headOf rfl rfl (by omega) (by omega) hM0 rfl (Nat.le_of_ble_eq_true rfl) (Nat.zero_le _) (Nat.zero_le _) (c_mHeadOf _ turn n F s ld dg pa jo wa sr pu ri (by omega) (by omega) ho ⟨hM0, hM1, hM2, hM3, hM4, hM5, hM6, hM7, hM8, hM9, hM10, hM11, hM12, hM13, hM14, hM15, hM16, by omega, by omega⟩) (fun r h' hq => ?_)
      obtain ⟨⟨r9, s9, rfl, han, hms9, hM⟩, hqn, hqf⟩ := hq
      have hms9 : msF s s9 := ⟨hms9.1.trans (show msF s s from ⟨rfl, rfl, rfl⟩).1, hms9.2.1.trans (show msF s s from ⟨rfl, rfl, rfl⟩).2.1, hms9.2.2.trans (show msF s s from ⟨rfl, rfl, rfl⟩).2.2⟩
      obtain ⟨hM0, hM1, hM2, hM3, hM4, hM5, hM6, hM7, hM8, hM9, hM10, hM11, hM12, hM13, hM14, hM15, hM16, hMk, hMn⟩ := hM
      have hM0 : h'.1 k = xa_o 10 [xa_i (s9 0), xa_r (k + 1), xa_r (k + 2), xa_r (k + 3), xa_r (k + 4), xa_r (k + 5), xa_r (k + 6), xa_r (k + 7), xa_r (k + 8), xa_r (k + 9), xa_r (k + 10), xa_r (k + 11), xa_r (k + 12), xa_i (s9 13), xa_i (s9 14), xa_i (s9 15), xa_r (k + 13), xa_i (s9 17), xa_i (s9 18), xa_i (s9 19), xa_i (s9 20), xa_r (k + 14), xa_r (k + 15), xa_i (s9 23), xa_r (k + 16)] := hM0
      have hM1 : h'.1 (k + 1) = xa_a 120 (F 1) := hM1
      have hM2 : h'.1 (k + 2) = xa_a 2 (F 2) := hM2
      have hM3 : h'.1 (k + 3) = xa_a 18 (F 3) := hM3
      have hM4 : h'.1 (k + 4) = xa_a 2 (F 4) := hM4
      have hM5 : h'.1 (k + 5) = xa_a 4 (F 5) := hM5
      have hM6 : h'.1 (k + 6) = xa_a 4 (F 6) := hM6
      have hM7 : h'.1 (k + 7) = xa_a 2 (F 7) := hM7
      have hM8 : h'.1 (k + 8) = xa_a 2 (F 8) := hM8
      have hM9 : h'.1 (k + 9) = xa_a 12 (F 9) := hM9
      have hM10 : h'.1 (k + 10) = xa_a 720 (F 10) := hM10
      have hM11 : h'.1 (k + 11) = xa_a 3 (F 11) := hM11
      have hM12 : h'.1 (k + 12) = xa_a 360 (F 12) := hM12
      have hM13 : h'.1 (k + 13) = xa_a 3 (F 13) := hM13
      have hM14 : h'.1 (k + 14) = xa_a 583200 (F 14) := hM14
      have hM15 : h'.1 (k + 15) = xa_a 583200 (F 15) := hM15
      have hM16 : h'.1 (k + 16) = xa_a 4 (F 16) := hM16
      have hn : h'.2 = h.2 := hqn.trans hn
      have fr : ∀ i, (i < k ∨ k + 17 ≤ i) → h'.1 i = h.1 i := fun i hi => (hqf i (by omega)).trans (fr i hi)
      have h9b : xa_ok r9 := an_head_ok han
      refine xa_goto (pc := 25) (tgt := 29) dX10_head_25 (by decide) ?_
      refine xa_ireturn (pc := 29) dX10_head_29 rfl trivial ?_
      exact ⟨⟨_, s9, rfl, Or.inr ⟨by omega, han⟩, hms9, ⟨hM0, hM1, hM2, hM3, hM4, hM5, hM6, hM7, hM8, hM9, hM10, hM11, hM12, hM13, hM14, hM15, hM16, by omega, by omega⟩⟩, hn, fr⟩
theorem c_mDown_loop {G : xa_G} {h0 : xa_H} {k : Nat} {n : Int} {F : Nat → Nat → Int} {s : Nat → Int} {ld dg : Nat → Int} {pa jo : Nat} {wa sr pu ri : Int} (hk : 2 ≤ k) (hn60 : 0 ≤ n ∧ n ≤ 60) (ho : mOk F ld dg pa jo wa sr pu ri) : ∀ (d : Nat) (e : Nat) (s1 : Nat → Int) (h : xa_H), 360 - e < d → (e ≤ 360) → (msF s s1) → (h.2 = h0.2) → (k + 16 < h.2) → (h.1 k = xa_o 10 [xa_i (s1 0), xa_r (k + 1), xa_r (k + 2), xa_r (k + 3), xa_r (k + 4), xa_r (k + 5), xa_r (k + 6), xa_r (k + 7), xa_r (k + 8), xa_r (k + 9), xa_r (k + 10), xa_r (k + 11), xa_r (k + 12), xa_i (s1 13), xa_i (s1 14), xa_i (s1 15), xa_r (k + 13), xa_i (s1 17), xa_i (s1 18), xa_i (s1 19), xa_i (s1 20), xa_r (k + 14), xa_r (k + 15), xa_i (s1 23), xa_r (k + 16)]) → (h.1 (k + 1) = xa_a 120 (F 1)) → (h.1 (k + 2) = xa_a 2 (F 2)) → (h.1 (k + 3) = xa_a 18 (F 3)) → (h.1 (k + 4) = xa_a 2 (F 4)) → (h.1 (k + 5) = xa_a 4 (F 5)) → (h.1 (k + 6) = xa_a 4 (F 6)) → (h.1 (k + 7) = xa_a 2 (F 7)) → (h.1 (k + 8) = xa_a 2 (F 8)) → (h.1 (k + 9) = xa_a 12 (F 9)) → (h.1 (k + 10) = xa_a 720 (F 10)) → (h.1 (k + 11) = xa_a 3 (F 11)) → (h.1 (k + 12) = xa_a 360 (F 12)) → (h.1 (k + 13) = xa_a 3 (F 13)) → (h.1 (k + 14) = xa_a 583200 (F 14)) → (h.1 (k + 15) = xa_a 583200 (F 15)) → (h.1 (k + 16) = xa_a 4 (F 16)) → (∀ i, (i < k ∨ k + 17 ≤ i) → h.1 i = h0.1 i) → xa_W G mX10_down (xa_Z G (fun r h' => (∃ (r0 : Int) (s' : Nat → Int), r = some (xa_i r0) ∧ r0 = (ct_n (fun t => hd_any ld dg pa jo wa sr pu ri (F 10) (F 9) (((t : Nat) : Int) + hd_late ld pa pu n)) 360 : Int) ∧ msF s s' ∧ xM h' k F s') ∧ h'.2 = h0.2 ∧ ∀ i, (i < k ∨ k + 17 ≤ i) → h'.1 i = h0.1 i)) 18 [some (xa_r k), some (xa_i n), some (xa_i ((ct_n (fun t => hd_any ld dg pa jo wa sr pu ri (F 10) (F 9) (((t : Nat) : Int) + hd_late ld pa pu n)) e : Nat) : Int)), some (xa_i ((e : Nat) : Int))] [] h 0 0 := by
  intro d
  induction d with
  | zero => intros; exfalso; omega
  | succ d ih =>
    intro e s1 h hd he hms hn0 hkn hM0 hM1 hM2 hM3 hM4 hM5 hM6 hM7 hM8 hM9 hM10 hM11 hM12 hM13 hM14 hM15 hM16 fr0
    have hn : h.2 = h.2 := rfl
    have fr : ∀ i, (i < k ∨ k + 17 ≤ i) → h.1 i = h.1 i := fun _ _ => rfl
    refine xa_iload_n (pc := 18) dX10_down_18 rfl ?_
    refine xa_sipush (pc := 19) dX10_down_19 rfl ?_
    refine xa_icmp_ge (pc := 22) (tgt := 50) dX10_down_22 (by decide) ⟨by omega, by omega⟩ (by decide) (fun c_22 => ?_) (fun c_22 => ?_)
    · skip
      refine xa_iload_n (pc := 50) dX10_down_50 rfl ?_
      refine xa_ireturn (pc := 51) dX10_down_51 rfl trivial ?_
      have he3 : e = 360 := by omega
      subst he3
      exact ⟨⟨_, s1, rfl, rfl, hms, ⟨hM0, hM1, hM2, hM3, hM4, hM5, hM6, hM7, hM8, hM9, hM10, hM11, hM12, hM13, hM14, hM15, hM16, by omega, by omega⟩⟩, by omega, fun i hi => (fr i hi).trans (fr0 i hi)⟩
    · skip
      refine xa_iload_n (pc := 25) dX10_down_25 rfl ?_
      refine xa_aload_n (pc := 26) dX10_down_26 rfl ?_
      refine xa_iload_n (pc := 27) dX10_down_27 rfl ?_
      refine xa_iload_n (pc := 28) dX10_down_28 rfl ?_
      refine xa_callV (pc := 29) (as := [xa_i ((e : Nat) : Int), xa_i n]) (rest := [xa_i ((ct_n (fun t => hd_any ld dg pa jo wa sr pu ri (F 10) (F 9) (((t : Nat) : Int) + hd_late ld pa pu n)) e : Nat) : Int)]) dX10_down_29 ⟨qX10_headOf.1, qX10_headOf.2.1, qX10_headOf.2.2, by decide, by decide⟩ lkRX10_254 imX10_headOf seX10_headOf rfl rfl (by omega) (by omega) hM0 rfl (Nat.le_of_ble_eq_true rfl) (Nat.zero_le _) (Nat.zero_le _) (c_mHeadOf _ ((e : Nat) : Int) n F (xa_upf (xa_upf (xa_upf (xa_upf (xa_upf (xa_upf (xa_upf (xa_upf (xa_upf s 0 (s1 0)) 13 (s1 13)) 14 (s1 14)) 15 (s1 15)) 17 (s1 17)) 18 (s1 18)) 19 (s1 19)) 20 (s1 20)) 23 (s1 23)) ld dg pa jo wa sr pu ri (by omega) (by omega) ho ⟨hM0, hM1, hM2, hM3, hM4, hM5, hM6, hM7, hM8, hM9, hM10, hM11, hM12, hM13, hM14, hM15, hM16, by omega, by omega⟩) (fun r h' hq => ?_)
      obtain ⟨⟨r9, s9, rfl, han, hms9, hM⟩, hqn, hqf⟩ := hq
      have hms9 : msF s s9 := ⟨hms9.1.trans hms.1, hms9.2.1.trans hms.2.1, hms9.2.2.trans hms.2.2⟩
      obtain ⟨hM0, hM1, hM2, hM3, hM4, hM5, hM6, hM7, hM8, hM9, hM10, hM11, hM12, hM13, hM14, hM15, hM16, hMk, hMn⟩ := hM
      have hM0 : h'.1 k = xa_o 10 [xa_i (s9 0), xa_r (k + 1), xa_r (k + 2), xa_r (k + 3), xa_r (k + 4), xa_r (k + 5), xa_r (k + 6), xa_r (k + 7), xa_r (k + 8), xa_r (k + 9), xa_r (k + 10), xa_r (k + 11), xa_r (k + 12), xa_i (s9 13), xa_i (s9 14), xa_i (s9 15), xa_r (k + 13), xa_i (s9 17), xa_i (s9 18), xa_i (s9 19), xa_i (s9 20), xa_r (k + 14), xa_r (k + 15), xa_i (s9 23), xa_r (k + 16)] := hM0
      have hM1 : h'.1 (k + 1) = xa_a 120 (F 1) := hM1
      have hM2 : h'.1 (k + 2) = xa_a 2 (F 2) := hM2
      have hM3 : h'.1 (k + 3) = xa_a 18 (F 3) := hM3
      have hM4 : h'.1 (k + 4) = xa_a 2 (F 4) := hM4
      have hM5 : h'.1 (k + 5) = xa_a 4 (F 5) := hM5
      have hM6 : h'.1 (k + 6) = xa_a 4 (F 6) := hM6
      have hM7 : h'.1 (k + 7) = xa_a 2 (F 7) := hM7
      have hM8 : h'.1 (k + 8) = xa_a 2 (F 8) := hM8
      have hM9 : h'.1 (k + 9) = xa_a 12 (F 9) := hM9
      have hM10 : h'.1 (k + 10) = xa_a 720 (F 10) := hM10
      have hM11 : h'.1 (k + 11) = xa_a 3 (F 11) := hM11
      have hM12 : h'.1 (k + 12) = xa_a 360 (F 12) := hM12
      have hM13 : h'.1 (k + 13) = xa_a 3 (F 13) := hM13
      have hM14 : h'.1 (k + 14) = xa_a 583200 (F 14) := hM14
      have hM15 : h'.1 (k + 15) = xa_a 583200 (F 15) := hM15
      have hM16 : h'.1 (k + 16) = xa_a 4 (F 16) := hM16
      have hn : h'.2 = h.2 := hqn.trans hn
      have fr : ∀ i, (i < k ∨ k + 17 ≤ i) → h'.1 i = h.1 i := fun i hi => (hqf i (by omega)).trans (fr i hi)
      have h9b : xa_ok r9 := an_head_ok han
      refine xa_bipush (pc := 32) dX10_down_32 rfl ?_
      refine xa_icmp_eq (pc := 34) (tgt := 41) dX10_down_34 (by decide) ⟨by omega, by omega⟩ (by decide) (fun c_34 => ?_) (fun c_34 => ?_)
      · skip
        refine xa_iconst (pc := 41) dX10_down_41 ?_
        refine xa_iadd (pc := 42) dX10_down_42 ?_
        refine xa_istoren (pc := 43) [some (xa_r k), some (xa_i n), some (xa_i (((ct_n (fun t => hd_any ld dg pa jo wa sr pu ri (F 10) (F 9) (((t : Nat) : Int) + hd_late ld pa pu n)) e : Nat) : Int) + 0)), some (xa_i ((e : Nat) : Int))] dX10_down_43 (by decide) (Nat.le_of_ble_eq_true rfl) rfl rfl ?_
        refine xa_iincw (pc := 44) (y := ((e + 1 : Nat) : Int)) [some (xa_r k), some (xa_i n), some (xa_i (((ct_n (fun t => hd_any ld dg pa jo wa sr pu ri (F 10) (F 9) (((t : Nat) : Int) + hd_late ld pa pu n)) e : Nat) : Int) + 0)), some (xa_i ((e + 1 : Nat) : Int))] dX10_down_44 (by decide) rfl rfl (by omega) rfl ?_
        refine xa_goto (pc := 47) (tgt := 18) dX10_down_47 (by decide) ?_
        have ec : ((ct_n (fun t => hd_any ld dg pa jo wa sr pu ri (F 10) (F 9) (((t : Nat) : Int) + hd_late ld pa pu n)) e : Nat) : Int) + 0 = ((ct_n (fun t => hd_any ld dg pa jo wa sr pu ri (F 10) (F 9) (((t : Nat) : Int) + hd_late ld pa pu n)) (e + 1) : Nat) : Int) := by
          show ((ct_n (fun t => hd_any ld dg pa jo wa sr pu ri (F 10) (F 9) (((t : Nat) : Int) + hd_late ld pa pu n)) e : Nat) : Int) + 0 = ((ct_n (fun t => hd_any ld dg pa jo wa sr pu ri (F 10) (F 9) (((t : Nat) : Int) + hd_late ld pa pu n)) e + (if (fun t => hd_any ld dg pa jo wa sr pu ri (F 10) (F 9) (((t : Nat) : Int) + hd_late ld pa pu n)) e = true then 1 else 0) : Nat) : Int)
          rw [if_neg (fun z => (an_head_any han).mp z c_34)]
          all_goals omega
        rw [ec]
        exact ih (e + 1) s9 _ (by omega) (by omega) hms9 (by omega) (by omega) hM0 hM1 hM2 hM3 hM4 hM5 hM6 hM7 hM8 hM9 hM10 hM11 hM12 hM13 hM14 hM15 hM16 (fun i hi => (fr i hi).trans (fr0 i hi))
      · skip
        refine xa_iconst (pc := 37) dX10_down_37 ?_
        refine xa_goto (pc := 38) (tgt := 42) dX10_down_38 (by decide) ?_
        refine xa_iadd (pc := 42) dX10_down_42 ?_
        refine xa_istoren (pc := 43) [some (xa_r k), some (xa_i n), some (xa_i (((ct_n (fun t => hd_any ld dg pa jo wa sr pu ri (F 10) (F 9) (((t : Nat) : Int) + hd_late ld pa pu n)) e : Nat) : Int) + 1)), some (xa_i ((e : Nat) : Int))] dX10_down_43 (by decide) (Nat.le_of_ble_eq_true rfl) rfl rfl ?_
        refine xa_iincw (pc := 44) (y := ((e + 1 : Nat) : Int)) [some (xa_r k), some (xa_i n), some (xa_i (((ct_n (fun t => hd_any ld dg pa jo wa sr pu ri (F 10) (F 9) (((t : Nat) : Int) + hd_late ld pa pu n)) e : Nat) : Int) + 1)), some (xa_i ((e + 1 : Nat) : Int))] dX10_down_44 (by decide) rfl rfl (by omega) rfl ?_
        refine xa_goto (pc := 47) (tgt := 18) dX10_down_47 (by decide) ?_
        have ec : ((ct_n (fun t => hd_any ld dg pa jo wa sr pu ri (F 10) (F 9) (((t : Nat) : Int) + hd_late ld pa pu n)) e : Nat) : Int) + 1 = ((ct_n (fun t => hd_any ld dg pa jo wa sr pu ri (F 10) (F 9) (((t : Nat) : Int) + hd_late ld pa pu n)) (e + 1) : Nat) : Int) := by
          show ((ct_n (fun t => hd_any ld dg pa jo wa sr pu ri (F 10) (F 9) (((t : Nat) : Int) + hd_late ld pa pu n)) e : Nat) : Int) + 1 = ((ct_n (fun t => hd_any ld dg pa jo wa sr pu ri (F 10) (F 9) (((t : Nat) : Int) + hd_late ld pa pu n)) e + (if (fun t => hd_any ld dg pa jo wa sr pu ri (F 10) (F 9) (((t : Nat) : Int) + hd_late ld pa pu n)) e = true then 1 else 0) : Nat) : Int)
          rw [if_pos ((an_head_any han).mpr c_34)]
          all_goals omega
        rw [ec]
        exact ih (e + 1) s9 _ (by omega) (by omega) hms9 (by omega) (by omega) hM0 hM1 hM2 hM3 hM4 hM5 hM6 hM7 hM8 hM9 hM10 hM11 hM12 hM13 hM14 hM15 hM16 (fun i hi => (fr i hi).trans (fr0 i hi))
theorem c_mDown {G : xa_G} {h : xa_H} (k : Nat) (n : Int) (F : Nat → Nat → Int) (s : Nat → Int) (ld dg : Nat → Int) (pa jo : Nat) (wa sr pu ri : Int) (h2 : xa_ok n) (ho : mOk F ld dg pa jo wa sr pu ri) (hM : xM h k F s)  : xa_M G mX10_down [xa_r k, xa_i n] h 0 0 (fun r h' => (∃ (r0 : Int) (s' : Nat → Int), r = some (xa_i r0) ∧ sq_down ld dg pa jo wa sr pu ri (F 10) (F 9) n r0 ∧ msF s s' ∧ xM h' k F s') ∧ h'.2 = h.2 ∧ ∀ i, (i < k ∨ k + 17 ≤ i) → h'.1 i = h.1 i) := by
  refine xa_enter (by decide +kernel) (Nat.le_of_ble_eq_true rfl) ?_
  refine xa_locals (ls' := [some (xa_r k), some (xa_i n), none, none]) rfl ?_
  have hn : h.2 = h.2 := rfl
  have fr : ∀ i, (i < k ∨ k + 17 ≤ i) → h.1 i = h.1 i := fun _ _ => rfl
  obtain ⟨hM0, hM1, hM2, hM3, hM4, hM5, hM6, hM7, hM8, hM9, hM10, hM11, hM12, hM13, hM14, hM15, hM16, hMk, hMn⟩ := hM
  refine xa_iload_n (pc := 0) dX10_down_0 rfl ?_
  refine xa_i2l (pc := 1) dX10_down_1 ⟨by omega, by omega⟩ ?_
  refine xa_lconst (pc := 2) (n := 0) dX10_down_2 rfl ?_
  refine xa_ldc2 (pc := 3) (n := 60) dX10_down_3 ctRX10_185 rfl ?_
  refine xa_callS (pc := 6) (as := [xa_l n, xa_l 0, xa_l 60]) (rest := []) dX10_down_6 ⟨qX10_in.1, qX10_in.2.1, qX10_in.2.2, by decide, by decide⟩ lkRX10_65 smX10_in rfl rfl (Nat.le_of_ble_eq_true rfl) (Nat.zero_le _) (Nat.zero_le _) (c_in _ _ _ ⟨by omega, by omega⟩ ⟨by omega, by omega⟩ ⟨by omega, by omega⟩) (fun r h' hq => ?_)
  obtain ⟨rfl, hq⟩ := hq
  have hq := hq.symm
  subst hq
  refine xa_if_ne (pc := 9) (tgt := 14) dX10_down_9 (by decide) xa_okb (fun c_9 => ?_) (fun c_9 => ?_)
  · have c_9 := xa_b1.mp c_9
    refine xa_iconst (pc := 14) dX10_down_14 ?_
    refine xa_istoren (pc := 15) [some (xa_r k), some (xa_i n), some (xa_i 0), none] dX10_down_15 (by decide) (Nat.le_of_ble_eq_true rfl) rfl rfl ?_
    refine xa_iconst (pc := 16) dX10_down_16 ?_
    refine xa_istoren (pc := 17) [some (xa_r k), some (xa_i n), some (xa_i 0), some (xa_i 0)] dX10_down_17 (by decide) (Nat.le_of_ble_eq_true rfl) rfl rfl ?_
    refine xa_wmono ?_ (c_mDown_loop hMk (by omega) ho 361 0 s _ (by omega) (by omega) ⟨rfl, rfl, rfl⟩ (by omega) (by omega) hM0 hM1 hM2 hM3 hM4 hM5 hM6 hM7 hM8 hM9 hM10 hM11 hM12 hM13 hM14 hM15 hM16 fr)
    rintro r h1 ⟨⟨r0, s1, e1, e2, e3, e4⟩, e5⟩
    exact ⟨⟨r0, s1, e1, Or.inr ⟨by omega, e2⟩, e3, e4⟩, e5⟩
  · have c_9 := xa_b0.mp c_9
    refine xa_iconst (pc := 12) dX10_down_12 ?_
    refine xa_ireturn (pc := 13) dX10_down_13 rfl trivial ?_
    exact ⟨⟨_, s, rfl, Or.inl ⟨by omega, rfl⟩, ⟨rfl, rfl, rfl⟩, ⟨hM0, hM1, hM2, hM3, hM4, hM5, hM6, hM7, hM8, hM9, hM10, hM11, hM12, hM13, hM14, hM15, hM16, by omega, by omega⟩⟩, hn, fr⟩
