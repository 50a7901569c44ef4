/-! The model: fewest -/
theorem fr_0 {ld dg : Nat → Int} {pa jo : Nat} {wa sr pu ri r : Int} (hB : vB ld dg pa jo wa sr pu ri) (h : fr_is ld dg pa jo wa sr ((0 : Nat) : Int) r) : r = 1 := by
  have k := lp_fr (J := ((0 : Nat) : Int)) hB
  rw [fr_u h k]
  have e : lp_M ld dg pa jo wa sr ((0 : Nat) : Int) = 360 := by
    unfold lp_M lp_1
    rw [if_neg (show ¬ ((((0 : Nat) : Int) = 2 ∨ ((0 : Nat) : Int) = 3) ∧ 1 < jo) from fun z => absurd z.1 (by decide)), if_neg (by decide)]
  rw [e]
  rfl
theorem fewest_of {ld dg : Nat → Int} {pa jo : Nat} {wa sr pu ri r : Int} (hB : vB ld dg pa jo wa sr pu ri) (h : ∀ f : Nat → Int, (∀ J : Nat, J < 4 → fr_is ld dg pa jo wa sr (J : Int) (f J)) → r = if f 1 > 1 then 1 else if jo = 1 then -4 else if f 2 > 1 then 2 else if f 3 > 1 then 3 else -4) : sq_fewest ld dg pa jo wa sr r :=
  ⟨fun J => ((360 / lp_M ld dg pa jo wa sr ((J : Nat) : Int) : Nat) : Int), fun J _ => lp_fr hB, h _ (fun J _ => lp_fr hB)⟩

set_option maxHeartbeats 4000000 in
theorem c_mFewest {G : xa_G} {h : xa_H} (k : Nat) (F : Nat → Nat → Int) (s : Nat → Int) (ld dg : Nat → Int) (pa jo : Nat) (wa sr pu ri : Int) (ho : mOk F ld dg pa jo wa sr pu ri) (hl : mLi F s ld dg pa jo wa sr pu ri) (hfre : mFre F ld dg pa jo wa sr) (hM : xM h k F s)  : xa_M G mX10_fewest [xa_r k] h 0 0 (fun r h' => (∃ (r0 : Int) (F' : Nat → Nat → Int) (s' : Nat → Int), r = some (xa_i r0) ∧ sq_fewest ld dg pa jo wa sr r0 ∧ mSim3 F F' s s' ∧ mLi F' s' ld dg pa jo wa sr pu ri ∧ mFre F' ld dg pa jo wa sr ∧ xM h' k F' s') ∧ h'.2 = h.2 ∧ ∀ i, (i < k ∨ k + 17 ≤ i) → h'.1 i = h.1 i) := by
  refine xa_enter (by decide +kernel) (Nat.le_of_ble_eq_true rfl) ?_
  refine xa_locals (ls' := [some (xa_r k), none, none, none]) rfl ?_
  have hn : h.2 = h.2 := rfl
  have fr : ∀ i, (i < k ∨ k + 17 ≤ i) → h.1 i = h.1 i := fun _ _ => rfl
  obtain ⟨hM0, hM1, hM2, hM3, hM4, hM5, hM6, hM7, hM8, hM9, hM10, hM11, hM12, hM13, hM14, hM15, hM16, hMk, hMn⟩ := hM
  have h0' := ho.1.1
  refine xa_bipush (pc := 0) dX10_fewest_0 rfl ?_
  refine xa_istoren (pc := 2) [some (xa_r k), some (xa_i (-4)), none, none] dX10_fewest_2 (by decide) (Nat.le_of_ble_eq_true rfl) rfl rfl ?_
  refine xa_iconst (pc := 3) dX10_fewest_3 ?_
  refine xa_istoren (pc := 4) [some (xa_r k), some (xa_i (-4)), some (xa_i 0), none] dX10_fewest_4 (by decide) (Nat.le_of_ble_eq_true rfl) rfl rfl ?_
  refine xa_iload_n (pc := 5) dX10_fewest_5 rfl ?_
  refine xa_aload_n (pc := 6) dX10_fewest_6 rfl ?_
  refine xa_callV (pc := 7) (as := []) (rest := [xa_i 0]) dX10_fewest_7 ⟨qX10_allJoints.1, qX10_allJoints.2.1, qX10_allJoints.2.2, by decide, by decide⟩ lkRX10_228 imX10_allJoints seX10_allJoints rfl rfl (by omega) (by omega) hM0 rfl (Nat.le_of_ble_eq_true rfl) (Nat.zero_le _) (Nat.zero_le _) (c_mAll _ F s ld dg pa jo wa sr pu ri ho ⟨hM0, hM1, hM2, hM3, hM4, hM5, hM6, hM7, hM8, hM9, hM10, hM11, hM12, hM13, hM14, hM15, hM16, by omega, by omega⟩) (fun r h' hq => ?_)
  obtain ⟨rfl, hq⟩ := hq
  have hq := hq.symm
  subst hq
  refine xa_icmp_gt (pc := 10) (tgt := 60) dX10_fewest_10 (by decide) (by decide) ⟨by split <;> decide, by split <;> decide⟩ (fun c_10 => ?_) (fun c_10 => ?_)
  · skip
    exfalso; omega
  · skip
    refine xa_iload_n (pc := 13) dX10_fewest_13 rfl ?_
    refine xa_bipush (pc := 14) dX10_fewest_14 rfl ?_
    refine xa_icmp_eq (pc := 16) (tgt := 29) dX10_fewest_16 (by decide) (by decide) (by decide) (fun c_16 => ?_) (fun c_16 => ?_)
    · skip
      refine xa_iconst (pc := 29) dX10_fewest_29 ?_
      refine xa_goto (pc := 30) (tgt := 34) dX10_fewest_30 (by decide) ?_
      refine xa_istoren (pc := 34) [some (xa_r k), some (xa_i (-4)), some (xa_i 0), some (xa_i 1)] dX10_fewest_34 (by decide) (Nat.le_of_ble_eq_true rfl) rfl rfl ?_
      refine xa_iload_n (pc := 35) dX10_fewest_35 rfl ?_
      refine xa_if_eq (pc := 36) (tgt := 52) dX10_fewest_36 (by decide) (by decide) (fun c_36 => ?_) (fun c_36 => ?_)
      · skip
        exfalso; omega
      · skip
        refine xa_aload_n (pc := 39) dX10_fewest_39 rfl ?_
        refine xa_iload_n (pc := 40) dX10_fewest_40 rfl ?_
        refine xa_callV (pc := 41) (as := [xa_i 0]) (rest := []) dX10_fewest_41 ⟨qX10_freeBy.1, qX10_freeBy.2.1, qX10_freeBy.2.2, by decide, by decide⟩ lkRX10_245 imX10_freeBy seX10_freeBy rfl rfl (by omega) (by omega) hM0 rfl (Nat.le_of_ble_eq_true rfl) (Nat.zero_le _) (Nat.zero_le _) (c_mFreeBy _ 0 F s ld dg pa jo wa sr pu ri (by decide) ho hl hfre ⟨hM0, hM1, hM2, hM3, hM4, hM5, hM6, hM7, hM8, hM9, hM10, hM11, hM12, hM13, hM14, hM15, hM16, by omega, by omega⟩) (fun r h' hq => ?_)
        obtain ⟨⟨r0, F0, s0, rfl, hb0, hfr0, hsm0, hl0, hfre0, hM⟩, hqn, hqf⟩ := hq
        obtain ⟨hM0, hM1, hM2, hM3, hM4, hM5, hM6, hM7, hM8, hM9, hM10, hM11, hM12, hM13, hM14, hM15, hM16, hMk, hMn⟩ := hM
        have hM0 : h'.1 k = xa_o 10 [xa_i (s0 0), xa_r (k + 1), xa_r (k + 2), xa_r (k + 3), xa_r (k + 4), xa_r (k + 5), xa_r (k + 6), xa_r (k + 7), xa_r (k + 8), xa_r (k + 9), xa_r (k + 10), xa_r (k + 11), xa_r (k + 12), xa_i (s0 13), xa_i (s0 14), xa_i (s0 15), xa_r (k + 13), xa_i (s0 17), xa_i (s0 18), xa_i (s0 19), xa_i (s0 20), xa_r (k + 14), xa_r (k + 15), xa_i (s0 23), xa_r (k + 16)] := hM0
        have hM1 : h'.1 (k + 1) = xa_a 120 (F0 1) := hM1
        have hM2 : h'.1 (k + 2) = xa_a 2 (F0 2) := hM2
        have hM3 : h'.1 (k + 3) = xa_a 18 (F0 3) := hM3
        have hM4 : h'.1 (k + 4) = xa_a 2 (F0 4) := hM4
        have hM5 : h'.1 (k + 5) = xa_a 4 (F0 5) := hM5
        have hM6 : h'.1 (k + 6) = xa_a 4 (F0 6) := hM6
        have hM7 : h'.1 (k + 7) = xa_a 2 (F0 7) := hM7
        have hM8 : h'.1 (k + 8) = xa_a 2 (F0 8) := hM8
        have hM9 : h'.1 (k + 9) = xa_a 12 (F0 9) := hM9
        have hM10 : h'.1 (k + 10) = xa_a 720 (F0 10) := hM10
        have hM11 : h'.1 (k + 11) = xa_a 3 (F0 11) := hM11
        have hM12 : h'.1 (k + 12) = xa_a 360 (F0 12) := hM12
        have hM13 : h'.1 (k + 13) = xa_a 3 (F0 13) := hM13
        have hM14 : h'.1 (k + 14) = xa_a 583200 (F0 14) := hM14
        have hM15 : h'.1 (k + 15) = xa_a 583200 (F0 15) := hM15
        have hM16 : h'.1 (k + 16) = xa_a 4 (F0 16) := hM16
        have hn : h'.2 = h.2 := hqn.trans hn
        have fr : ∀ i, (i < k ∨ k + 17 ≤ i) → h'.1 i = h.1 i := fun i hi => (hqf i (by omega)).trans (fr i hi)
        have ho0 := hsm0.ok ho
        have hst0 : mSim3 F F0 s s0 := hsm0
        have hr0 := fr_0 ho.1 hfr0
        refine xa_iconst (pc := 44) dX10_fewest_44 ?_
        refine xa_icmp_le (pc := 45) (tgt := 52) dX10_fewest_45 (by decide) ⟨by omega, by omega⟩ (by decide) (fun c_45 => ?_) (fun c_45 => ?_)
        · skip
          refine xa_iload_n (pc := 52) dX10_fewest_52 rfl ?_
          refine xa_istoren (pc := 53) [some (xa_r k), some (xa_i (-4)), some (xa_i 0), some (xa_i 1)] dX10_fewest_53 (by decide) (Nat.le_of_ble_eq_true rfl) rfl rfl ?_
          refine xa_iincw (pc := 54) (y := 1) [some (xa_r k), some (xa_i (-4)), some (xa_i 1), some (xa_i 1)] dX10_fewest_54 (by decide) rfl rfl rfl rfl ?_
          refine xa_goto (pc := 57) (tgt := 5) dX10_fewest_57 (by decide) ?_
          refine xa_iload_n (pc := 5) dX10_fewest_5 rfl ?_
          refine xa_aload_n (pc := 6) dX10_fewest_6 rfl ?_
          refine xa_callV (pc := 7) (as := []) (rest := [xa_i 1]) dX10_fewest_7 ⟨qX10_allJoints.1, qX10_allJoints.2.1, qX10_allJoints.2.2, by decide, by decide⟩ lkRX10_228 imX10_allJoints seX10_allJoints rfl rfl (by omega) (by omega) hM0 rfl (Nat.le_of_ble_eq_true rfl) (Nat.zero_le _) (Nat.zero_le _) (c_mAll _ F0 s0 ld dg pa jo wa sr pu ri ho0 ⟨hM0, hM1, hM2, hM3, hM4, hM5, hM6, hM7, hM8, hM9, hM10, hM11, hM12, hM13, hM14, hM15, hM16, by omega, by omega⟩) (fun r h' hq => ?_)
          obtain ⟨rfl, hq⟩ := hq
          have hq := hq.symm
          subst hq
          refine xa_icmp_gt (pc := 10) (tgt := 60) dX10_fewest_10 (by decide) (by decide) ⟨by split <;> decide, by split <;> decide⟩ (fun c_10 => ?_) (fun c_10 => ?_)
          · skip
            exfalso; omega
          · skip
            refine xa_iload_n (pc := 13) dX10_fewest_13 rfl ?_
            refine xa_bipush (pc := 14) dX10_fewest_14 rfl ?_
            refine xa_icmp_eq (pc := 16) (tgt := 29) dX10_fewest_16 (by decide) (by decide) (by decide) (fun c_16 => ?_) (fun c_16 => ?_)
            · skip
              refine xa_iconst (pc := 29) dX10_fewest_29 ?_
              refine xa_goto (pc := 30) (tgt := 34) dX10_fewest_30 (by decide) ?_
              refine xa_istoren (pc := 34) [some (xa_r k), some (xa_i (-4)), some (xa_i 1), some (xa_i 1)] dX10_fewest_34 (by decide) (Nat.le_of_ble_eq_true rfl) rfl rfl ?_
              refine xa_iload_n (pc := 35) dX10_fewest_35 rfl ?_
              refine xa_if_eq (pc := 36) (tgt := 52) dX10_fewest_36 (by decide) (by decide) (fun c_36 => ?_) (fun c_36 => ?_)
              · skip
                exfalso; omega
              · skip
                refine xa_aload_n (pc := 39) dX10_fewest_39 rfl ?_
                refine xa_iload_n (pc := 40) dX10_fewest_40 rfl ?_
                refine xa_callV (pc := 41) (as := [xa_i 1]) (rest := []) dX10_fewest_41 ⟨qX10_freeBy.1, qX10_freeBy.2.1, qX10_freeBy.2.2, by decide, by decide⟩ lkRX10_245 imX10_freeBy seX10_freeBy rfl rfl (by omega) (by omega) hM0 rfl (Nat.le_of_ble_eq_true rfl) (Nat.zero_le _) (Nat.zero_le _) (c_mFreeBy _ 1 F0 s0 ld dg pa jo wa sr pu ri (by decide) ho0 hl0 hfre0 ⟨hM0, hM1, hM2, hM3, hM4, hM5, hM6, hM7, hM8, hM9, hM10, hM11, hM12, hM13, hM14, hM15, hM16, by omega, by omega⟩) (fun r h' hq => ?_)
                obtain ⟨⟨r01, F01, s01, rfl, hb01, hfr01, hsm01, hl01, hfre01, hM⟩, hqn, hqf⟩ := hq
                obtain ⟨hM0, hM1, hM2, hM3, hM4, hM5, hM6, hM7, hM8, hM9, hM10, hM11, hM12, hM13, hM14, hM15, hM16, hMk, hMn⟩ := hM
                have hM0 : h'.1 k = xa_o 10 [xa_i (s01 0), xa_r (k + 1), xa_r (k + 2), xa_r (k + 3), xa_r (k + 4), xa_r (k + 5), xa_r (k + 6), xa_r (k + 7), xa_r (k + 8), xa_r (k + 9), xa_r (k + 10), xa_r (k + 11), xa_r (k + 12), xa_i (s01 13), xa_i (s01 14), xa_i (s01 15), xa_r (k + 13), xa_i (s01 17), xa_i (s01 18), xa_i (s01 19), xa_i (s01 20), xa_r (k + 14), xa_r (k + 15), xa_i (s01 23), xa_r (k + 16)] := hM0
                have hM1 : h'.1 (k + 1) = xa_a 120 (F01 1) := hM1
                have hM2 : h'.1 (k + 2) = xa_a 2 (F01 2) := hM2
                have hM3 : h'.1 (k + 3) = xa_a 18 (F01 3) := hM3
                have hM4 : h'.1 (k + 4) = xa_a 2 (F01 4) := hM4
                have hM5 : h'.1 (k + 5) = xa_a 4 (F01 5) := hM5
                have hM6 : h'.1 (k + 6) = xa_a 4 (F01 6) := hM6
                have hM7 : h'.1 (k + 7) = xa_a 2 (F01 7) := hM7
                have hM8 : h'.1 (k + 8) = xa_a 2 (F01 8) := hM8
                have hM9 : h'.1 (k + 9) = xa_a 12 (F01 9) := hM9
                have hM10 : h'.1 (k + 10) = xa_a 720 (F01 10) := hM10
                have hM11 : h'.1 (k + 11) = xa_a 3 (F01 11) := hM11
                have hM12 : h'.1 (k + 12) = xa_a 360 (F01 12) := hM12
                have hM13 : h'.1 (k + 13) = xa_a 3 (F01 13) := hM13
                have hM14 : h'.1 (k + 14) = xa_a 583200 (F01 14) := hM14
                have hM15 : h'.1 (k + 15) = xa_a 583200 (F01 15) := hM15
                have hM16 : h'.1 (k + 16) = xa_a 4 (F01 16) := hM16
                have hn : h'.2 = h.2 := hqn.trans hn
                have fr : ∀ i, (i < k ∨ k + 17 ≤ i) → h'.1 i = h.1 i := fun i hi => (hqf i (by omega)).trans (fr i hi)
                have ho01 := hsm01.ok ho0
                have hst01 : mSim3 F F01 s s01 := hst0.tr hsm01
                refine xa_iconst (pc := 44) dX10_fewest_44 ?_
                refine xa_icmp_le (pc := 45) (tgt := 52) dX10_fewest_45 (by decide) ⟨by omega, by omega⟩ (by decide) (fun c_45 => ?_) (fun c_45 => ?_)
                · skip
                  refine xa_iload_n (pc := 52) dX10_fewest_52 rfl ?_
                  refine xa_istoren (pc := 53) [some (xa_r k), some (xa_i (-4)), some (xa_i 1), some (xa_i 1)] dX10_fewest_53 (by decide) (Nat.le_of_ble_eq_true rfl) rfl rfl ?_
                  refine xa_iincw (pc := 54) (y := 2) [some (xa_r k), some (xa_i (-4)), some (xa_i 2), some (xa_i 1)] dX10_fewest_54 (by decide) rfl rfl rfl rfl ?_
                  refine xa_goto (pc := 57) (tgt := 5) dX10_fewest_57 (by decide) ?_
                  refine xa_iload_n (pc := 5) dX10_fewest_5 rfl ?_
                  refine xa_aload_n (pc := 6) dX10_fewest_6 rfl ?_
                  refine xa_callV (pc := 7) (as := []) (rest := [xa_i 2]) dX10_fewest_7 ⟨qX10_allJoints.1, qX10_allJoints.2.1, qX10_allJoints.2.2, by decide, by decide⟩ lkRX10_228 imX10_allJoints seX10_allJoints rfl rfl (by omega) (by omega) hM0 rfl (Nat.le_of_ble_eq_true rfl) (Nat.zero_le _) (Nat.zero_le _) (c_mAll _ F01 s01 ld dg pa jo wa sr pu ri ho01 ⟨hM0, hM1, hM2, hM3, hM4, hM5, hM6, hM7, hM8, hM9, hM10, hM11, hM12, hM13, hM14, hM15, hM16, by omega, by omega⟩) (fun r h' hq => ?_)
                  obtain ⟨rfl, hq⟩ := hq
                  have hq := hq.symm
                  subst hq
                  refine xa_icmp_gt (pc := 10) (tgt := 60) dX10_fewest_10 (by decide) (by decide) ⟨by split <;> decide, by split <;> decide⟩ (fun c_10 => ?_) (fun c_10 => ?_)
                  · skip
                    refine xa_iload_n (pc := 60) dX10_fewest_60 rfl ?_
                    refine xa_ireturn (pc := 61) dX10_fewest_61 rfl trivial ?_
                    exact ⟨⟨_, F01, s01, rfl, fewest_of ho.1 (fun f hf => by
                        have e1 := fr_u hfr01 (hf 1 (by decide))
                        (repeat' split) <;> omega), hst01, hl01, hfre01, ⟨hM0, hM1, hM2, hM3, hM4, hM5, hM6, hM7, hM8, hM9, hM10, hM11, hM12, hM13, hM14, hM15, hM16, by omega, by omega⟩⟩, hn, fr⟩
                  · skip
                    refine xa_iload_n (pc := 13) dX10_fewest_13 rfl ?_
                    refine xa_bipush (pc := 14) dX10_fewest_14 rfl ?_
                    refine xa_icmp_eq (pc := 16) (tgt := 29) dX10_fewest_16 (by decide) (by decide) (by decide) (fun c_16 => ?_) (fun c_16 => ?_)
                    · skip
                      refine xa_iconst (pc := 29) dX10_fewest_29 ?_
                      refine xa_goto (pc := 30) (tgt := 34) dX10_fewest_30 (by decide) ?_
                      refine xa_istoren (pc := 34) [some (xa_r k), some (xa_i (-4)), some (xa_i 2), some (xa_i 1)] dX10_fewest_34 (by decide) (Nat.le_of_ble_eq_true rfl) rfl rfl ?_
                      refine xa_iload_n (pc := 35) dX10_fewest_35 rfl ?_
                      refine xa_if_eq (pc := 36) (tgt := 52) dX10_fewest_36 (by decide) (by decide) (fun c_36 => ?_) (fun c_36 => ?_)
                      · skip
                        exfalso; omega
                      · skip
                        refine xa_aload_n (pc := 39) dX10_fewest_39 rfl ?_
                        refine xa_iload_n (pc := 40) dX10_fewest_40 rfl ?_
                        refine xa_callV (pc := 41) (as := [xa_i 2]) (rest := []) dX10_fewest_41 ⟨qX10_freeBy.1, qX10_freeBy.2.1, qX10_freeBy.2.2, by decide, by decide⟩ lkRX10_245 imX10_freeBy seX10_freeBy rfl rfl (by omega) (by omega) hM0 rfl (Nat.le_of_ble_eq_true rfl) (Nat.zero_le _) (Nat.zero_le _) (c_mFreeBy _ 2 F01 s01 ld dg pa jo wa sr pu ri (by decide) ho01 hl01 hfre01 ⟨hM0, hM1, hM2, hM3, hM4, hM5, hM6, hM7, hM8, hM9, hM10, hM11, hM12, hM13, hM14, hM15, hM16, by omega, by omega⟩) (fun r h' hq => ?_)
                        obtain ⟨⟨r012, F012, s012, rfl, hb012, hfr012, hsm012, hl012, hfre012, hM⟩, hqn, hqf⟩ := hq
                        obtain ⟨hM0, hM1, hM2, hM3, hM4, hM5, hM6, hM7, hM8, hM9, hM10, hM11, hM12, hM13, hM14, hM15, hM16, hMk, hMn⟩ := hM
                        have hM0 : h'.1 k = xa_o 10 [xa_i (s012 0), xa_r (k + 1), xa_r (k + 2), xa_r (k + 3), xa_r (k + 4), xa_r (k + 5), xa_r (k + 6), xa_r (k + 7), xa_r (k + 8), xa_r (k + 9), xa_r (k + 10), xa_r (k + 11), xa_r (k + 12), xa_i (s012 13), xa_i (s012 14), xa_i (s012 15), xa_r (k + 13), xa_i (s012 17), xa_i (s012 18), xa_i (s012 19), xa_i (s012 20), xa_r (k + 14), xa_r (k + 15), xa_i (s012 23), xa_r (k + 16)] := hM0
                        have hM1 : h'.1 (k + 1) = xa_a 120 (F012 1) := hM1
                        have hM2 : h'.1 (k + 2) = xa_a 2 (F012 2) := hM2
                        have hM3 : h'.1 (k + 3) = xa_a 18 (F012 3) := hM3
                        have hM4 : h'.1 (k + 4) = xa_a 2 (F012 4) := hM4
                        have hM5 : h'.1 (k + 5) = xa_a 4 (F012 5) := hM5
                        have hM6 : h'.1 (k + 6) = xa_a 4 (F012 6) := hM6
                        have hM7 : h'.1 (k + 7) = xa_a 2 (F012 7) := hM7
                        have hM8 : h'.1 (k + 8) = xa_a 2 (F012 8) := hM8
                        have hM9 : h'.1 (k + 9) = xa_a 12 (F012 9) := hM9
                        have hM10 : h'.1 (k + 10) = xa_a 720 (F012 10) := hM10
                        have hM11 : h'.1 (k + 11) = xa_a 3 (F012 11) := hM11
                        have hM12 : h'.1 (k + 12) = xa_a 360 (F012 12) := hM12
                        have hM13 : h'.1 (k + 13) = xa_a 3 (F012 13) := hM13
                        have hM14 : h'.1 (k + 14) = xa_a 583200 (F012 14) := hM14
                        have hM15 : h'.1 (k + 15) = xa_a 583200 (F012 15) := hM15
                        have hM16 : h'.1 (k + 16) = xa_a 4 (F012 16) := hM16
                        have hn : h'.2 = h.2 := hqn.trans hn
                        have fr : ∀ i, (i < k ∨ k + 17 ≤ i) → h'.1 i = h.1 i := fun i hi => (hqf i (by omega)).trans (fr i hi)
                        have ho012 := hsm012.ok ho01
                        have hst012 : mSim3 F F012 s s012 := hst01.tr hsm012
                        refine xa_iconst (pc := 44) dX10_fewest_44 ?_
                        refine xa_icmp_le (pc := 45) (tgt := 52) dX10_fewest_45 (by decide) ⟨by omega, by omega⟩ (by decide) (fun c_45 => ?_) (fun c_45 => ?_)
                        · skip
                          refine xa_iload_n (pc := 52) dX10_fewest_52 rfl ?_
                          refine xa_istoren (pc := 53) [some (xa_r k), some (xa_i (-4)), some (xa_i 2), some (xa_i 1)] dX10_fewest_53 (by decide) (Nat.le_of_ble_eq_true rfl) rfl rfl ?_
                          refine xa_iincw (pc := 54) (y := 3) [some (xa_r k), some (xa_i (-4)), some (xa_i 3), some (xa_i 1)] dX10_fewest_54 (by decide) rfl rfl rfl rfl ?_
                          refine xa_goto (pc := 57) (tgt := 5) dX10_fewest_57 (by decide) ?_
                          refine xa_iload_n (pc := 5) dX10_fewest_5 rfl ?_
                          refine xa_aload_n (pc := 6) dX10_fewest_6 rfl ?_
                          refine xa_callV (pc := 7) (as := []) (rest := [xa_i 3]) dX10_fewest_7 ⟨qX10_allJoints.1, qX10_allJoints.2.1, qX10_allJoints.2.2, by decide, by decide⟩ lkRX10_228 imX10_allJoints seX10_allJoints rfl rfl (by omega) (by omega) hM0 rfl (Nat.le_of_ble_eq_true rfl) (Nat.zero_le _) (Nat.zero_le _) (c_mAll _ F012 s012 ld dg pa jo wa sr pu ri ho012 ⟨hM0, hM1, hM2, hM3, hM4, hM5, hM6, hM7, hM8, hM9, hM10, hM11, hM12, hM13, hM14, hM15, hM16, by omega, by omega⟩) (fun r h' hq => ?_)
                          obtain ⟨rfl, hq⟩ := hq
                          have hq := hq.symm
                          subst hq
                          refine xa_icmp_gt (pc := 10) (tgt := 60) dX10_fewest_10 (by decide) (by decide) ⟨by split <;> decide, by split <;> decide⟩ (fun c_10 => ?_) (fun c_10 => ?_)
                          · skip
                            refine xa_iload_n (pc := 60) dX10_fewest_60 rfl ?_
                            refine xa_ireturn (pc := 61) dX10_fewest_61 rfl trivial ?_
                            exact ⟨⟨_, F012, s012, rfl, fewest_of ho.1 (fun f hf => by
                                have e1 := fr_u hfr01 (hf 1 (by decide))
                                have e2 := fr_u hfr012 (hf 2 (by decide))
                                (repeat' split) <;> omega), hst012, hl012, hfre012, ⟨hM0, hM1, hM2, hM3, hM4, hM5, hM6, hM7, hM8, hM9, hM10, hM11, hM12, hM13, hM14, hM15, hM16, by omega, by omega⟩⟩, hn, fr⟩
                          · skip
                            refine xa_iload_n (pc := 13) dX10_fewest_13 rfl ?_
                            refine xa_bipush (pc := 14) dX10_fewest_14 rfl ?_
                            refine xa_icmp_eq (pc := 16) (tgt := 29) dX10_fewest_16 (by decide) (by decide) (by decide) (fun c_16 => ?_) (fun c_16 => ?_)
                            · skip
                              refine xa_iconst (pc := 29) dX10_fewest_29 ?_
                              refine xa_goto (pc := 30) (tgt := 34) dX10_fewest_30 (by decide) ?_
                              refine xa_istoren (pc := 34) [some (xa_r k), some (xa_i (-4)), some (xa_i 3), some (xa_i 1)] dX10_fewest_34 (by decide) (Nat.le_of_ble_eq_true rfl) rfl rfl ?_
                              refine xa_iload_n (pc := 35) dX10_fewest_35 rfl ?_
                              refine xa_if_eq (pc := 36) (tgt := 52) dX10_fewest_36 (by decide) (by decide) (fun c_36 => ?_) (fun c_36 => ?_)
                              · skip
                                exfalso; omega
                              · skip
                                refine xa_aload_n (pc := 39) dX10_fewest_39 rfl ?_
                                refine xa_iload_n (pc := 40) dX10_fewest_40 rfl ?_
                                refine xa_callV (pc := 41) (as := [xa_i 3]) (rest := []) dX10_fewest_41 ⟨qX10_freeBy.1, qX10_freeBy.2.1, qX10_freeBy.2.2, by decide, by decide⟩ lkRX10_245 imX10_freeBy seX10_freeBy rfl rfl (by omega) (by omega) hM0 rfl (Nat.le_of_ble_eq_true rfl) (Nat.zero_le _) (Nat.zero_le _) (c_mFreeBy _ 3 F012 s012 ld dg pa jo wa sr pu ri (by decide) ho012 hl012 hfre012 ⟨hM0, hM1, hM2, hM3, hM4, hM5, hM6, hM7, hM8, hM9, hM10, hM11, hM12, hM13, hM14, hM15, hM16, by omega, by omega⟩) (fun r h' hq => ?_)
                                obtain ⟨⟨r0123, F0123, s0123, rfl, hb0123, hfr0123, hsm0123, hl0123, hfre0123, hM⟩, hqn, hqf⟩ := hq
                                obtain ⟨hM0, hM1, hM2, hM3, hM4, hM5, hM6, hM7, hM8, hM9, hM10, hM11, hM12, hM13, hM14, hM15, hM16, hMk, hMn⟩ := hM
                                have hM0 : h'.1 k = xa_o 10 [xa_i (s0123 0), xa_r (k + 1), xa_r (k + 2), xa_r (k + 3), xa_r (k + 4), xa_r (k + 5), xa_r (k + 6), xa_r (k + 7), xa_r (k + 8), xa_r (k + 9), xa_r (k + 10), xa_r (k + 11), xa_r (k + 12), xa_i (s0123 13), xa_i (s0123 14), xa_i (s0123 15), xa_r (k + 13), xa_i (s0123 17), xa_i (s0123 18), xa_i (s0123 19), xa_i (s0123 20), xa_r (k + 14), xa_r (k + 15), xa_i (s0123 23), xa_r (k + 16)] := hM0
                                have hM1 : h'.1 (k + 1) = xa_a 120 (F0123 1) := hM1
                                have hM2 : h'.1 (k + 2) = xa_a 2 (F0123 2) := hM2
                                have hM3 : h'.1 (k + 3) = xa_a 18 (F0123 3) := hM3
                                have hM4 : h'.1 (k + 4) = xa_a 2 (F0123 4) := hM4
                                have hM5 : h'.1 (k + 5) = xa_a 4 (F0123 5) := hM5
                                have hM6 : h'.1 (k + 6) = xa_a 4 (F0123 6) := hM6
                                have hM7 : h'.1 (k + 7) = xa_a 2 (F0123 7) := hM7
                                have hM8 : h'.1 (k + 8) = xa_a 2 (F0123 8) := hM8
                                have hM9 : h'.1 (k + 9) = xa_a 12 (F0123 9) := hM9
                                have hM10 : h'.1 (k + 10) = xa_a 720 (F0123 10) := hM10
                                have hM11 : h'.1 (k + 11) = xa_a 3 (F0123 11) := hM11
                                have hM12 : h'.1 (k + 12) = xa_a 360 (F0123 12) := hM12
                                have hM13 : h'.1 (k + 13) = xa_a 3 (F0123 13) := hM13
                                have hM14 : h'.1 (k + 14) = xa_a 583200 (F0123 14) := hM14
                                have hM15 : h'.1 (k + 15) = xa_a 583200 (F0123 15) := hM15
                                have hM16 : h'.1 (k + 16) = xa_a 4 (F0123 16) := hM16
                                have hn : h'.2 = h.2 := hqn.trans hn
                                have fr : ∀ i, (i < k ∨ k + 17 ≤ i) → h'.1 i = h.1 i := fun i hi => (hqf i (by omega)).trans (fr i hi)
                                have ho0123 := hsm0123.ok ho012
                                have hst0123 : mSim3 F F0123 s s0123 := hst012.tr hsm0123
                                refine xa_iconst (pc := 44) dX10_fewest_44 ?_
                                refine xa_icmp_le (pc := 45) (tgt := 52) dX10_fewest_45 (by decide) ⟨by omega, by omega⟩ (by decide) (fun c_45 => ?_) (fun c_45 => ?_)
                                · skip
                                  refine xa_iload_n (pc := 52) dX10_fewest_52 rfl ?_
                                  refine xa_istoren (pc := 53) [some (xa_r k), some (xa_i (-4)), some (xa_i 3), some (xa_i 1)] dX10_fewest_53 (by decide) (Nat.le_of_ble_eq_true rfl) rfl rfl ?_
                                  refine xa_iincw (pc := 54) (y := 4) [some (xa_r k), some (xa_i (-4)), some (xa_i 4), some (xa_i 1)] dX10_fewest_54 (by decide) rfl rfl rfl rfl ?_
                                  refine xa_goto (pc := 57) (tgt := 5) dX10_fewest_57 (by decide) ?_
                                  refine xa_iload_n (pc := 5) dX10_fewest_5 rfl ?_
                                  refine xa_aload_n (pc := 6) dX10_fewest_6 rfl ?_
                                  refine xa_callV (pc := 7) (as := []) (rest := [xa_i 4]) dX10_fewest_7 ⟨qX10_allJoints.1, qX10_allJoints.2.1, qX10_allJoints.2.2, by decide, by decide⟩ lkRX10_228 imX10_allJoints seX10_allJoints rfl rfl (by omega) (by omega) hM0 rfl (Nat.le_of_ble_eq_true rfl) (Nat.zero_le _) (Nat.zero_le _) (c_mAll _ F0123 s0123 ld dg pa jo wa sr pu ri ho0123 ⟨hM0, hM1, hM2, hM3, hM4, hM5, hM6, hM7, hM8, hM9, hM10, hM11, hM12, hM13, hM14, hM15, hM16, by omega, by omega⟩) (fun r h' hq => ?_)
                                  obtain ⟨rfl, hq⟩ := hq
                                  have hq := hq.symm
                                  subst hq
                                  refine xa_icmp_gt (pc := 10) (tgt := 60) dX10_fewest_10 (by decide) (by decide) ⟨by split <;> decide, by split <;> decide⟩ (fun c_10 => ?_) (fun c_10 => ?_)
                                  · skip
                                    refine xa_iload_n (pc := 60) dX10_fewest_60 rfl ?_
                                    refine xa_ireturn (pc := 61) dX10_fewest_61 rfl trivial ?_
                                    exact ⟨⟨_, F0123, s0123, rfl, fewest_of ho.1 (fun f hf => by
                                        have e1 := fr_u hfr01 (hf 1 (by decide))
                                        have e2 := fr_u hfr012 (hf 2 (by decide))
                                        have e3 := fr_u hfr0123 (hf 3 (by decide))
                                        (repeat' split) <;> omega), hst0123, hl0123, hfre0123, ⟨hM0, hM1, hM2, hM3, hM4, hM5, hM6, hM7, hM8, hM9, hM10, hM11, hM12, hM13, hM14, hM15, hM16, by omega, by omega⟩⟩, hn, fr⟩
                                  · skip
                                    exfalso; omega
                                · skip
                                  refine xa_iload_n (pc := 48) dX10_fewest_48 rfl ?_
                                  refine xa_goto (pc := 49) (tgt := 53) dX10_fewest_49 (by decide) ?_
                                  refine xa_istoren (pc := 53) [some (xa_r k), some (xa_i 3), some (xa_i 3), some (xa_i 1)] dX10_fewest_53 (by decide) (Nat.le_of_ble_eq_true rfl) rfl rfl ?_
                                  refine xa_iincw (pc := 54) (y := 4) [some (xa_r k), some (xa_i 3), some (xa_i 4), some (xa_i 1)] dX10_fewest_54 (by decide) rfl rfl rfl rfl ?_
                                  refine xa_goto (pc := 57) (tgt := 5) dX10_fewest_57 (by decide) ?_
                                  refine xa_iload_n (pc := 5) dX10_fewest_5 rfl ?_
                                  refine xa_aload_n (pc := 6) dX10_fewest_6 rfl ?_
                                  refine xa_callV (pc := 7) (as := []) (rest := [xa_i 4]) dX10_fewest_7 ⟨qX10_allJoints.1, qX10_allJoints.2.1, qX10_allJoints.2.2, by decide, by decide⟩ lkRX10_228 imX10_allJoints seX10_allJoints rfl rfl (by omega) (by omega) hM0 rfl (Nat.le_of_ble_eq_true rfl) (Nat.zero_le _) (Nat.zero_le _) (c_mAll _ F0123 s0123 ld dg pa jo wa sr pu ri ho0123 ⟨hM0, hM1, hM2, hM3, hM4, hM5, hM6, hM7, hM8, hM9, hM10, hM11, hM12, hM13, hM14, hM15, hM16, by omega, by omega⟩) (fun r h' hq => ?_)
                                  obtain ⟨rfl, hq⟩ := hq
                                  have hq := hq.symm
                                  subst hq
                                  refine xa_icmp_gt (pc := 10) (tgt := 60) dX10_fewest_10 (by decide) (by decide) ⟨by split <;> decide, by split <;> decide⟩ (fun c_10 => ?_) (fun c_10 => ?_)
                                  · skip
                                    refine xa_iload_n (pc := 60) dX10_fewest_60 rfl ?_
                                    refine xa_ireturn (pc := 61) dX10_fewest_61 rfl trivial ?_
                                    exact ⟨⟨_, F0123, s0123, rfl, fewest_of ho.1 (fun f hf => by
                                        have e1 := fr_u hfr01 (hf 1 (by decide))
                                        have e2 := fr_u hfr012 (hf 2 (by decide))
                                        have e3 := fr_u hfr0123 (hf 3 (by decide))
                                        (repeat' split) <;> omega), hst0123, hl0123, hfre0123, ⟨hM0, hM1, hM2, hM3, hM4, hM5, hM6, hM7, hM8, hM9, hM10, hM11, hM12, hM13, hM14, hM15, hM16, by omega, by omega⟩⟩, hn, fr⟩
                                  · skip
                                    exfalso; omega
                            · skip
                              exfalso; omega
                        · skip
                          refine xa_iload_n (pc := 48) dX10_fewest_48 rfl ?_
                          refine xa_goto (pc := 49) (tgt := 53) dX10_fewest_49 (by decide) ?_
                          refine xa_istoren (pc := 53) [some (xa_r k), some (xa_i 2), some (xa_i 2), some (xa_i 1)] dX10_fewest_53 (by decide) (Nat.le_of_ble_eq_true rfl) rfl rfl ?_
                          refine xa_iincw (pc := 54) (y := 3) [some (xa_r k), some (xa_i 2), some (xa_i 3), some (xa_i 1)] dX10_fewest_54 (by decide) rfl rfl rfl rfl ?_
                          refine xa_goto (pc := 57) (tgt := 5) dX10_fewest_57 (by decide) ?_
                          refine xa_iload_n (pc := 5) dX10_fewest_5 rfl ?_
                          refine xa_aload_n (pc := 6) dX10_fewest_6 rfl ?_
                          refine xa_callV (pc := 7) (as := []) (rest := [xa_i 3]) dX10_fewest_7 ⟨qX10_allJoints.1, qX10_allJoints.2.1, qX10_allJoints.2.2, by decide, by decide⟩ lkRX10_228 imX10_allJoints seX10_allJoints rfl rfl (by omega) (by omega) hM0 rfl (Nat.le_of_ble_eq_true rfl) (Nat.zero_le _) (Nat.zero_le _) (c_mAll _ F012 s012 ld dg pa jo wa sr pu ri ho012 ⟨hM0, hM1, hM2, hM3, hM4, hM5, hM6, hM7, hM8, hM9, hM10, hM11, hM12, hM13, hM14, hM15, hM16, by omega, by omega⟩) (fun r h' hq => ?_)
                          obtain ⟨rfl, hq⟩ := hq
                          have hq := hq.symm
                          subst hq
                          refine xa_icmp_gt (pc := 10) (tgt := 60) dX10_fewest_10 (by decide) (by decide) ⟨by split <;> decide, by split <;> decide⟩ (fun c_10 => ?_) (fun c_10 => ?_)
                          · skip
                            refine xa_iload_n (pc := 60) dX10_fewest_60 rfl ?_
                            refine xa_ireturn (pc := 61) dX10_fewest_61 rfl trivial ?_
                            exact ⟨⟨_, F012, s012, rfl, fewest_of ho.1 (fun f hf => by
                                have e1 := fr_u hfr01 (hf 1 (by decide))
                                have e2 := fr_u hfr012 (hf 2 (by decide))
                                (repeat' split) <;> omega), hst012, hl012, hfre012, ⟨hM0, hM1, hM2, hM3, hM4, hM5, hM6, hM7, hM8, hM9, hM10, hM11, hM12, hM13, hM14, hM15, hM16, by omega, by omega⟩⟩, hn, fr⟩
                          · skip
                            refine xa_iload_n (pc := 13) dX10_fewest_13 rfl ?_
                            refine xa_bipush (pc := 14) dX10_fewest_14 rfl ?_
                            refine xa_icmp_eq (pc := 16) (tgt := 29) dX10_fewest_16 (by decide) (by decide) (by decide) (fun c_16 => ?_) (fun c_16 => ?_)
                            · skip
                              exfalso; omega
                            · skip
                              refine xa_iload_n (pc := 19) dX10_fewest_19 rfl ?_
                              refine xa_iconst (pc := 20) dX10_fewest_20 ?_
                              refine xa_icmp_ne (pc := 21) (tgt := 33) dX10_fewest_21 (by decide) (by decide) (by decide) (fun c_21 => ?_) (fun c_21 => ?_)
                              · skip
                                refine xa_iconst (pc := 33) dX10_fewest_33 ?_
                                refine xa_istoren (pc := 34) [some (xa_r k), some (xa_i 2), some (xa_i 3), some (xa_i 0)] dX10_fewest_34 (by decide) (Nat.le_of_ble_eq_true rfl) rfl rfl ?_
                                refine xa_iload_n (pc := 35) dX10_fewest_35 rfl ?_
                                refine xa_if_eq (pc := 36) (tgt := 52) dX10_fewest_36 (by decide) (by decide) (fun c_36 => ?_) (fun c_36 => ?_)
                                · skip
                                  refine xa_iload_n (pc := 52) dX10_fewest_52 rfl ?_
                                  refine xa_istoren (pc := 53) [some (xa_r k), some (xa_i 2), some (xa_i 3), some (xa_i 0)] dX10_fewest_53 (by decide) (Nat.le_of_ble_eq_true rfl) rfl rfl ?_
                                  refine xa_iincw (pc := 54) (y := 4) [some (xa_r k), some (xa_i 2), some (xa_i 4), some (xa_i 0)] dX10_fewest_54 (by decide) rfl rfl rfl rfl ?_
                                  refine xa_goto (pc := 57) (tgt := 5) dX10_fewest_57 (by decide) ?_
                                  refine xa_iload_n (pc := 5) dX10_fewest_5 rfl ?_
                                  refine xa_aload_n (pc := 6) dX10_fewest_6 rfl ?_
                                  refine xa_callV (pc := 7) (as := []) (rest := [xa_i 4]) dX10_fewest_7 ⟨qX10_allJoints.1, qX10_allJoints.2.1, qX10_allJoints.2.2, by decide, by decide⟩ lkRX10_228 imX10_allJoints seX10_allJoints rfl rfl (by omega) (by omega) hM0 rfl (Nat.le_of_ble_eq_true rfl) (Nat.zero_le _) (Nat.zero_le _) (c_mAll _ F012 s012 ld dg pa jo wa sr pu ri ho012 ⟨hM0, hM1, hM2, hM3, hM4, hM5, hM6, hM7, hM8, hM9, hM10, hM11, hM12, hM13, hM14, hM15, hM16, by omega, by omega⟩) (fun r h' hq => ?_)
                                  obtain ⟨rfl, hq⟩ := hq
                                  have hq := hq.symm
                                  subst hq
                                  refine xa_icmp_gt (pc := 10) (tgt := 60) dX10_fewest_10 (by decide) (by decide) ⟨by split <;> decide, by split <;> decide⟩ (fun c_10 => ?_) (fun c_10 => ?_)
                                  · skip
                                    refine xa_iload_n (pc := 60) dX10_fewest_60 rfl ?_
                                    refine xa_ireturn (pc := 61) dX10_fewest_61 rfl trivial ?_
                                    exact ⟨⟨_, F012, s012, rfl, fewest_of ho.1 (fun f hf => by
                                        have e1 := fr_u hfr01 (hf 1 (by decide))
                                        have e2 := fr_u hfr012 (hf 2 (by decide))
                                        (repeat' split) <;> omega), hst012, hl012, hfre012, ⟨hM0, hM1, hM2, hM3, hM4, hM5, hM6, hM7, hM8, hM9, hM10, hM11, hM12, hM13, hM14, hM15, hM16, by omega, by omega⟩⟩, hn, fr⟩
                                  · skip
                                    exfalso; omega
                                · skip
                                  exfalso; omega
                              · skip
                                exfalso; omega
                    · skip
                      exfalso; omega
                · skip
                  refine xa_iload_n (pc := 48) dX10_fewest_48 rfl ?_
                  refine xa_goto (pc := 49) (tgt := 53) dX10_fewest_49 (by decide) ?_
                  refine xa_istoren (pc := 53) [some (xa_r k), some (xa_i 1), some (xa_i 1), some (xa_i 1)] dX10_fewest_53 (by decide) (Nat.le_of_ble_eq_true rfl) rfl rfl ?_
                  refine xa_iincw (pc := 54) (y := 2) [some (xa_r k), some (xa_i 1), some (xa_i 2), some (xa_i 1)] dX10_fewest_54 (by decide) rfl rfl rfl rfl ?_
                  refine xa_goto (pc := 57) (tgt := 5) dX10_fewest_57 (by decide) ?_
                  refine xa_iload_n (pc := 5) dX10_fewest_5 rfl ?_
                  refine xa_aload_n (pc := 6) dX10_fewest_6 rfl ?_
                  refine xa_callV (pc := 7) (as := []) (rest := [xa_i 2]) dX10_fewest_7 ⟨qX10_allJoints.1, qX10_allJoints.2.1, qX10_allJoints.2.2, by decide, by decide⟩ lkRX10_228 imX10_allJoints seX10_allJoints rfl rfl (by omega) (by omega) hM0 rfl (Nat.le_of_ble_eq_true rfl) (Nat.zero_le _) (Nat.zero_le _) (c_mAll _ F01 s01 ld dg pa jo wa sr pu ri ho01 ⟨hM0, hM1, hM2, hM3, hM4, hM5, hM6, hM7, hM8, hM9, hM10, hM11, hM12, hM13, hM14, hM15, hM16, by omega, by omega⟩) (fun r h' hq => ?_)
                  obtain ⟨rfl, hq⟩ := hq
                  have hq := hq.symm
                  subst hq
                  refine xa_icmp_gt (pc := 10) (tgt := 60) dX10_fewest_10 (by decide) (by decide) ⟨by split <;> decide, by split <;> decide⟩ (fun c_10 => ?_) (fun c_10 => ?_)
                  · skip
                    refine xa_iload_n (pc := 60) dX10_fewest_60 rfl ?_
                    refine xa_ireturn (pc := 61) dX10_fewest_61 rfl trivial ?_
                    exact ⟨⟨_, F01, s01, rfl, fewest_of ho.1 (fun f hf => by
                        have e1 := fr_u hfr01 (hf 1 (by decide))
                        (repeat' split) <;> omega), hst01, hl01, hfre01, ⟨hM0, hM1, hM2, hM3, hM4, hM5, hM6, hM7, hM8, hM9, hM10, hM11, hM12, hM13, hM14, hM15, hM16, by omega, by omega⟩⟩, hn, fr⟩
                  · skip
                    refine xa_iload_n (pc := 13) dX10_fewest_13 rfl ?_
                    refine xa_bipush (pc := 14) dX10_fewest_14 rfl ?_
                    refine xa_icmp_eq (pc := 16) (tgt := 29) dX10_fewest_16 (by decide) (by decide) (by decide) (fun c_16 => ?_) (fun c_16 => ?_)
                    · skip
                      exfalso; omega
                    · skip
                      refine xa_iload_n (pc := 19) dX10_fewest_19 rfl ?_
                      refine xa_iconst (pc := 20) dX10_fewest_20 ?_
                      refine xa_icmp_ne (pc := 21) (tgt := 33) dX10_fewest_21 (by decide) (by decide) (by decide) (fun c_21 => ?_) (fun c_21 => ?_)
                      · skip
                        refine xa_iconst (pc := 33) dX10_fewest_33 ?_
                        refine xa_istoren (pc := 34) [some (xa_r k), some (xa_i 1), some (xa_i 2), some (xa_i 0)] dX10_fewest_34 (by decide) (Nat.le_of_ble_eq_true rfl) rfl rfl ?_
                        refine xa_iload_n (pc := 35) dX10_fewest_35 rfl ?_
                        refine xa_if_eq (pc := 36) (tgt := 52) dX10_fewest_36 (by decide) (by decide) (fun c_36 => ?_) (fun c_36 => ?_)
                        · skip
                          refine xa_iload_n (pc := 52) dX10_fewest_52 rfl ?_
                          refine xa_istoren (pc := 53) [some (xa_r k), some (xa_i 1), some (xa_i 2), some (xa_i 0)] dX10_fewest_53 (by decide) (Nat.le_of_ble_eq_true rfl) rfl rfl ?_
                          refine xa_iincw (pc := 54) (y := 3) [some (xa_r k), some (xa_i 1), some (xa_i 3), some (xa_i 0)] dX10_fewest_54 (by decide) rfl rfl rfl rfl ?_
                          refine xa_goto (pc := 57) (tgt := 5) dX10_fewest_57 (by decide) ?_
                          refine xa_iload_n (pc := 5) dX10_fewest_5 rfl ?_
                          refine xa_aload_n (pc := 6) dX10_fewest_6 rfl ?_
                          refine xa_callV (pc := 7) (as := []) (rest := [xa_i 3]) dX10_fewest_7 ⟨qX10_allJoints.1, qX10_allJoints.2.1, qX10_allJoints.2.2, by decide, by decide⟩ lkRX10_228 imX10_allJoints seX10_allJoints rfl rfl (by omega) (by omega) hM0 rfl (Nat.le_of_ble_eq_true rfl) (Nat.zero_le _) (Nat.zero_le _) (c_mAll _ F01 s01 ld dg pa jo wa sr pu ri ho01 ⟨hM0, hM1, hM2, hM3, hM4, hM5, hM6, hM7, hM8, hM9, hM10, hM11, hM12, hM13, hM14, hM15, hM16, by omega, by omega⟩) (fun r h' hq => ?_)
                          obtain ⟨rfl, hq⟩ := hq
                          have hq := hq.symm
                          subst hq
                          refine xa_icmp_gt (pc := 10) (tgt := 60) dX10_fewest_10 (by decide) (by decide) ⟨by split <;> decide, by split <;> decide⟩ (fun c_10 => ?_) (fun c_10 => ?_)
                          · skip
                            refine xa_iload_n (pc := 60) dX10_fewest_60 rfl ?_
                            refine xa_ireturn (pc := 61) dX10_fewest_61 rfl trivial ?_
                            exact ⟨⟨_, F01, s01, rfl, fewest_of ho.1 (fun f hf => by
                                have e1 := fr_u hfr01 (hf 1 (by decide))
                                (repeat' split) <;> omega), hst01, hl01, hfre01, ⟨hM0, hM1, hM2, hM3, hM4, hM5, hM6, hM7, hM8, hM9, hM10, hM11, hM12, hM13, hM14, hM15, hM16, by omega, by omega⟩⟩, hn, fr⟩
                          · skip
                            refine xa_iload_n (pc := 13) dX10_fewest_13 rfl ?_
                            refine xa_bipush (pc := 14) dX10_fewest_14 rfl ?_
                            refine xa_icmp_eq (pc := 16) (tgt := 29) dX10_fewest_16 (by decide) (by decide) (by decide) (fun c_16 => ?_) (fun c_16 => ?_)
                            · skip
                              exfalso; omega
                            · skip
                              refine xa_iload_n (pc := 19) dX10_fewest_19 rfl ?_
                              refine xa_iconst (pc := 20) dX10_fewest_20 ?_
                              refine xa_icmp_ne (pc := 21) (tgt := 33) dX10_fewest_21 (by decide) (by decide) (by decide) (fun c_21 => ?_) (fun c_21 => ?_)
                              · skip
                                refine xa_iconst (pc := 33) dX10_fewest_33 ?_
                                refine xa_istoren (pc := 34) [some (xa_r k), some (xa_i 1), some (xa_i 3), some (xa_i 0)] dX10_fewest_34 (by decide) (Nat.le_of_ble_eq_true rfl) rfl rfl ?_
                                refine xa_iload_n (pc := 35) dX10_fewest_35 rfl ?_
                                refine xa_if_eq (pc := 36) (tgt := 52) dX10_fewest_36 (by decide) (by decide) (fun c_36 => ?_) (fun c_36 => ?_)
                                · skip
                                  refine xa_iload_n (pc := 52) dX10_fewest_52 rfl ?_
                                  refine xa_istoren (pc := 53) [some (xa_r k), some (xa_i 1), some (xa_i 3), some (xa_i 0)] dX10_fewest_53 (by decide) (Nat.le_of_ble_eq_true rfl) rfl rfl ?_
                                  refine xa_iincw (pc := 54) (y := 4) [some (xa_r k), some (xa_i 1), some (xa_i 4), some (xa_i 0)] dX10_fewest_54 (by decide) rfl rfl rfl rfl ?_
                                  refine xa_goto (pc := 57) (tgt := 5) dX10_fewest_57 (by decide) ?_
                                  refine xa_iload_n (pc := 5) dX10_fewest_5 rfl ?_
                                  refine xa_aload_n (pc := 6) dX10_fewest_6 rfl ?_
                                  refine xa_callV (pc := 7) (as := []) (rest := [xa_i 4]) dX10_fewest_7 ⟨qX10_allJoints.1, qX10_allJoints.2.1, qX10_allJoints.2.2, by decide, by decide⟩ lkRX10_228 imX10_allJoints seX10_allJoints rfl rfl (by omega) (by omega) hM0 rfl (Nat.le_of_ble_eq_true rfl) (Nat.zero_le _) (Nat.zero_le _) (c_mAll _ F01 s01 ld dg pa jo wa sr pu ri ho01 ⟨hM0, hM1, hM2, hM3, hM4, hM5, hM6, hM7, hM8, hM9, hM10, hM11, hM12, hM13, hM14, hM15, hM16, by omega, by omega⟩) (fun r h' hq => ?_)
                                  obtain ⟨rfl, hq⟩ := hq
                                  have hq := hq.symm
                                  subst hq
                                  refine xa_icmp_gt (pc := 10) (tgt := 60) dX10_fewest_10 (by decide) (by decide) ⟨by split <;> decide, by split <;> decide⟩ (fun c_10 => ?_) (fun c_10 => ?_)
                                  · skip
                                    refine xa_iload_n (pc := 60) dX10_fewest_60 rfl ?_
                                    refine xa_ireturn (pc := 61) dX10_fewest_61 rfl trivial ?_
                                    exact ⟨⟨_, F01, s01, rfl, fewest_of ho.1 (fun f hf => by
                                        have e1 := fr_u hfr01 (hf 1 (by decide))
                                        (repeat' split) <;> omega), hst01, hl01, hfre01, ⟨hM0, hM1, hM2, hM3, hM4, hM5, hM6, hM7, hM8, hM9, hM10, hM11, hM12, hM13, hM14, hM15, hM16, by omega, by omega⟩⟩, hn, fr⟩
                                  · skip
                                    exfalso; omega
                                · skip
                                  exfalso; omega
                              · skip
                                exfalso; omega
                        · skip
                          exfalso; omega
                      · skip
                        exfalso; omega
            · skip
              exfalso; omega
        · skip
          refine xa_iload_n (pc := 48) dX10_fewest_48 rfl ?_
          refine xa_goto (pc := 49) (tgt := 53) dX10_fewest_49 (by decide) ?_
          refine xa_istoren (pc := 53) [some (xa_r k), some (xa_i 0), some (xa_i 0), some (xa_i 1)] dX10_fewest_53 (by decide) (Nat.le_of_ble_eq_true rfl) rfl rfl ?_
          refine xa_iincw (pc := 54) (y := 1) [some (xa_r k), some (xa_i 0), some (xa_i 1), some (xa_i 1)] dX10_fewest_54 (by decide) rfl rfl rfl rfl ?_
          refine xa_goto (pc := 57) (tgt := 5) dX10_fewest_57 (by decide) ?_
          refine xa_iload_n (pc := 5) dX10_fewest_5 rfl ?_
          refine xa_aload_n (pc := 6) dX10_fewest_6 rfl ?_
          refine xa_callV (pc := 7) (as := []) (rest := [xa_i 1]) dX10_fewest_7 ⟨qX10_allJoints.1, qX10_allJoints.2.1, qX10_allJoints.2.2, by decide, by decide⟩ lkRX10_228 imX10_allJoints seX10_allJoints rfl rfl (by omega) (by omega) hM0 rfl (Nat.le_of_ble_eq_true rfl) (Nat.zero_le _) (Nat.zero_le _) (c_mAll _ F0 s0 ld dg pa jo wa sr pu ri ho0 ⟨hM0, hM1, hM2, hM3, hM4, hM5, hM6, hM7, hM8, hM9, hM10, hM11, hM12, hM13, hM14, hM15, hM16, by omega, by omega⟩) (fun r h' hq => ?_)
          obtain ⟨rfl, hq⟩ := hq
          have hq := hq.symm
          subst hq
          refine xa_icmp_gt (pc := 10) (tgt := 60) dX10_fewest_10 (by decide) (by decide) ⟨by split <;> decide, by split <;> decide⟩ (fun c_10 => ?_) (fun c_10 => ?_)
          · skip
            exfalso; omega
          · skip
            refine xa_iload_n (pc := 13) dX10_fewest_13 rfl ?_
            refine xa_bipush (pc := 14) dX10_fewest_14 rfl ?_
            refine xa_icmp_eq (pc := 16) (tgt := 29) dX10_fewest_16 (by decide) (by decide) (by decide) (fun c_16 => ?_) (fun c_16 => ?_)
            · skip
              exfalso; omega
            · skip
              refine xa_iload_n (pc := 19) dX10_fewest_19 rfl ?_
              refine xa_iconst (pc := 20) dX10_fewest_20 ?_
              refine xa_icmp_ne (pc := 21) (tgt := 33) dX10_fewest_21 (by decide) (by decide) (by decide) (fun c_21 => ?_) (fun c_21 => ?_)
              · skip
                refine xa_iconst (pc := 33) dX10_fewest_33 ?_
                refine xa_istoren (pc := 34) [some (xa_r k), some (xa_i 0), some (xa_i 1), some (xa_i 0)] dX10_fewest_34 (by decide) (Nat.le_of_ble_eq_true rfl) rfl rfl ?_
                refine xa_iload_n (pc := 35) dX10_fewest_35 rfl ?_
                refine xa_if_eq (pc := 36) (tgt := 52) dX10_fewest_36 (by decide) (by decide) (fun c_36 => ?_) (fun c_36 => ?_)
                · skip
                  refine xa_iload_n (pc := 52) dX10_fewest_52 rfl ?_
                  refine xa_istoren (pc := 53) [some (xa_r k), some (xa_i 0), some (xa_i 1), some (xa_i 0)] dX10_fewest_53 (by decide) (Nat.le_of_ble_eq_true rfl) rfl rfl ?_
                  refine xa_iincw (pc := 54) (y := 2) [some (xa_r k), some (xa_i 0), some (xa_i 2), some (xa_i 0)] dX10_fewest_54 (by decide) rfl rfl rfl rfl ?_
                  refine xa_goto (pc := 57) (tgt := 5) dX10_fewest_57 (by decide) ?_
                  refine xa_iload_n (pc := 5) dX10_fewest_5 rfl ?_
                  refine xa_aload_n (pc := 6) dX10_fewest_6 rfl ?_
                  refine xa_callV (pc := 7) (as := []) (rest := [xa_i 2]) dX10_fewest_7 ⟨qX10_allJoints.1, qX10_allJoints.2.1, qX10_allJoints.2.2, by decide, by decide⟩ lkRX10_228 imX10_allJoints seX10_allJoints rfl rfl (by omega) (by omega) hM0 rfl (Nat.le_of_ble_eq_true rfl) (Nat.zero_le _) (Nat.zero_le _) (c_mAll _ F0 s0 ld dg pa jo wa sr pu ri ho0 ⟨hM0, hM1, hM2, hM3, hM4, hM5, hM6, hM7, hM8, hM9, hM10, hM11, hM12, hM13, hM14, hM15, hM16, by omega, by omega⟩) (fun r h' hq => ?_)
                  obtain ⟨rfl, hq⟩ := hq
                  have hq := hq.symm
                  subst hq
                  refine xa_icmp_gt (pc := 10) (tgt := 60) dX10_fewest_10 (by decide) (by decide) ⟨by split <;> decide, by split <;> decide⟩ (fun c_10 => ?_) (fun c_10 => ?_)
                  · skip
                    refine xa_iload_n (pc := 60) dX10_fewest_60 rfl ?_
                    refine xa_ireturn (pc := 61) dX10_fewest_61 rfl trivial ?_
                    exact ⟨⟨_, F0, s0, rfl, fewest_of ho.1 (fun f hf => by
                        (repeat' split) <;> omega), hst0, hl0, hfre0, ⟨hM0, hM1, hM2, hM3, hM4, hM5, hM6, hM7, hM8, hM9, hM10, hM11, hM12, hM13, hM14, hM15, hM16, by omega, by omega⟩⟩, hn, fr⟩
                  · skip
                    refine xa_iload_n (pc := 13) dX10_fewest_13 rfl ?_
                    refine xa_bipush (pc := 14) dX10_fewest_14 rfl ?_
                    refine xa_icmp_eq (pc := 16) (tgt := 29) dX10_fewest_16 (by decide) (by decide) (by decide) (fun c_16 => ?_) (fun c_16 => ?_)
                    · skip
                      exfalso; omega
                    · skip
                      refine xa_iload_n (pc := 19) dX10_fewest_19 rfl ?_
                      refine xa_iconst (pc := 20) dX10_fewest_20 ?_
                      refine xa_icmp_ne (pc := 21) (tgt := 33) dX10_fewest_21 (by decide) (by decide) (by decide) (fun c_21 => ?_) (fun c_21 => ?_)
                      · skip
                        refine xa_iconst (pc := 33) dX10_fewest_33 ?_
                        refine xa_istoren (pc := 34) [some (xa_r k), some (xa_i 0), some (xa_i 2), some (xa_i 0)] dX10_fewest_34 (by decide) (Nat.le_of_ble_eq_true rfl) rfl rfl ?_
                        refine xa_iload_n (pc := 35) dX10_fewest_35 rfl ?_
                        refine xa_if_eq (pc := 36) (tgt := 52) dX10_fewest_36 (by decide) (by decide) (fun c_36 => ?_) (fun c_36 => ?_)
                        · skip
                          refine xa_iload_n (pc := 52) dX10_fewest_52 rfl ?_
                          refine xa_istoren (pc := 53) [some (xa_r k), some (xa_i 0), some (xa_i 2), some (xa_i 0)] dX10_fewest_53 (by decide) (Nat.le_of_ble_eq_true rfl) rfl rfl ?_
                          refine xa_iincw (pc := 54) (y := 3) [some (xa_r k), some (xa_i 0), some (xa_i 3), some (xa_i 0)] dX10_fewest_54 (by decide) rfl rfl rfl rfl ?_
                          refine xa_goto (pc := 57) (tgt := 5) dX10_fewest_57 (by decide) ?_
                          refine xa_iload_n (pc := 5) dX10_fewest_5 rfl ?_
                          refine xa_aload_n (pc := 6) dX10_fewest_6 rfl ?_
                          refine xa_callV (pc := 7) (as := []) (rest := [xa_i 3]) dX10_fewest_7 ⟨qX10_allJoints.1, qX10_allJoints.2.1, qX10_allJoints.2.2, by decide, by decide⟩ lkRX10_228 imX10_allJoints seX10_allJoints rfl rfl (by omega) (by omega) hM0 rfl (Nat.le_of_ble_eq_true rfl) (Nat.zero_le _) (Nat.zero_le _) (c_mAll _ F0 s0 ld dg pa jo wa sr pu ri ho0 ⟨hM0, hM1, hM2, hM3, hM4, hM5, hM6, hM7, hM8, hM9, hM10, hM11, hM12, hM13, hM14, hM15, hM16, by omega, by omega⟩) (fun r h' hq => ?_)
                          obtain ⟨rfl, hq⟩ := hq
                          have hq := hq.symm
                          subst hq
                          refine xa_icmp_gt (pc := 10) (tgt := 60) dX10_fewest_10 (by decide) (by decide) ⟨by split <;> decide, by split <;> decide⟩ (fun c_10 => ?_) (fun c_10 => ?_)
                          · skip
                            refine xa_iload_n (pc := 60) dX10_fewest_60 rfl ?_
                            refine xa_ireturn (pc := 61) dX10_fewest_61 rfl trivial ?_
                            exact ⟨⟨_, F0, s0, rfl, fewest_of ho.1 (fun f hf => by
                                (repeat' split) <;> omega), hst0, hl0, hfre0, ⟨hM0, hM1, hM2, hM3, hM4, hM5, hM6, hM7, hM8, hM9, hM10, hM11, hM12, hM13, hM14, hM15, hM16, by omega, by omega⟩⟩, hn, fr⟩
                          · skip
                            refine xa_iload_n (pc := 13) dX10_fewest_13 rfl ?_
                            refine xa_bipush (pc := 14) dX10_fewest_14 rfl ?_
                            refine xa_icmp_eq (pc := 16) (tgt := 29) dX10_fewest_16 (by decide) (by decide) (by decide) (fun c_16 => ?_) (fun c_16 => ?_)
                            · skip
                              exfalso; omega
                            · skip
                              refine xa_iload_n (pc := 19) dX10_fewest_19 rfl ?_
                              refine xa_iconst (pc := 20) dX10_fewest_20 ?_
                              refine xa_icmp_ne (pc := 21) (tgt := 33) dX10_fewest_21 (by decide) (by decide) (by decide) (fun c_21 => ?_) (fun c_21 => ?_)
                              · skip
                                refine xa_iconst (pc := 33) dX10_fewest_33 ?_
                                refine xa_istoren (pc := 34) [some (xa_r k), some (xa_i 0), some (xa_i 3), some (xa_i 0)] dX10_fewest_34 (by decide) (Nat.le_of_ble_eq_true rfl) rfl rfl ?_
                                refine xa_iload_n (pc := 35) dX10_fewest_35 rfl ?_
                                refine xa_if_eq (pc := 36) (tgt := 52) dX10_fewest_36 (by decide) (by decide) (fun c_36 => ?_) (fun c_36 => ?_)
                                · skip
                                  refine xa_iload_n (pc := 52) dX10_fewest_52 rfl ?_
                                  refine xa_istoren (pc := 53) [some (xa_r k), some (xa_i 0), some (xa_i 3), some (xa_i 0)] dX10_fewest_53 (by decide) (Nat.le_of_ble_eq_true rfl) rfl rfl ?_
                                  refine xa_iincw (pc := 54) (y := 4) [some (xa_r k), some (xa_i 0), some (xa_i 4), some (xa_i 0)] dX10_fewest_54 (by decide) rfl rfl rfl rfl ?_
                                  refine xa_goto (pc := 57) (tgt := 5) dX10_fewest_57 (by decide) ?_
                                  refine xa_iload_n (pc := 5) dX10_fewest_5 rfl ?_
                                  refine xa_aload_n (pc := 6) dX10_fewest_6 rfl ?_
                                  refine xa_callV (pc := 7) (as := []) (rest := [xa_i 4]) dX10_fewest_7 ⟨qX10_allJoints.1, qX10_allJoints.2.1, qX10_allJoints.2.2, by decide, by decide⟩ lkRX10_228 imX10_allJoints seX10_allJoints rfl rfl (by omega) (by omega) hM0 rfl (Nat.le_of_ble_eq_true rfl) (Nat.zero_le _) (Nat.zero_le _) (c_mAll _ F0 s0 ld dg pa jo wa sr pu ri ho0 ⟨hM0, hM1, hM2, hM3, hM4, hM5, hM6, hM7, hM8, hM9, hM10, hM11, hM12, hM13, hM14, hM15, hM16, by omega, by omega⟩) (fun r h' hq => ?_)
                                  obtain ⟨rfl, hq⟩ := hq
                                  have hq := hq.symm
                                  subst hq
                                  refine xa_icmp_gt (pc := 10) (tgt := 60) dX10_fewest_10 (by decide) (by decide) ⟨by split <;> decide, by split <;> decide⟩ (fun c_10 => ?_) (fun c_10 => ?_)
                                  · skip
                                    refine xa_iload_n (pc := 60) dX10_fewest_60 rfl ?_
                                    refine xa_ireturn (pc := 61) dX10_fewest_61 rfl trivial ?_
                                    exact ⟨⟨_, F0, s0, rfl, fewest_of ho.1 (fun f hf => by
                                        (repeat' split) <;> omega), hst0, hl0, hfre0, ⟨hM0, hM1, hM2, hM3, hM4, hM5, hM6, hM7, hM8, hM9, hM10, hM11, hM12, hM13, hM14, hM15, hM16, by omega, by omega⟩⟩, hn, fr⟩
                                  · skip
                                    exfalso; omega
                                · skip
                                  exfalso; omega
                              · skip
                                exfalso; omega
                        · skip
                          exfalso; omega
                      · skip
                        exfalso; omega
                · skip
                  exfalso; omega
              · skip
                exfalso; omega
    · skip
      exfalso; omega
