/-! Table: shapes by numbers -/
def sp_num2 (pl lw po sp : Nat → Int) : Int := (((0 * pl 1 + sp 1 - lw 1) * pl 0 + sp 0 - lw 0) * 3 + po 1) * 3 + po 0
def sp_num3 (pl lw po sp : Nat → Int) : Int := ((((0 * pl 1 + sp 1 - lw 1) * pl 0 + sp 0 - lw 0) * 3 + po 2) * 3 + po 1) * 3 + po 0
theorem sp_dv {x y : Int} (hx : 0 ≤ x) (hy : 0 < y) : 0 ≤ x / y ∧ x / y ≤ x := ⟨Int.ediv_nonneg hx (by omega), Int.ediv_le_self _ hx⟩

theorem c_numberNow2 {G : xa_G} {h : xa_H} (k kb kbr kam : Nat) (sj : Int) (pl lw br am : Nat → Int) (nb na ns : Nat) (fs lst : Int) (po sp : Nat → Int) (tj tb : Int) (ld dg : Nat → Int) (jo : Nat) (wa sr pu ri : Int) (hk : 2 ≤ k) (hkn : k + 7 < h.2) (hkb : 2 ≤ kb) (hkk : kb + 3 ≤ k) (hkbr : k + 8 ≤ kbr ∨ kbr = k + 3) (hkbr2 : kbr < h.2) (hkam : k + 8 ≤ kam ∨ kam = k + 4) (hkam2 : kam < h.2)  (hT0 : h.1 k = xa_o 6 [xa_r kb, xa_r (k + 5), xa_i sj, xa_r (k + 1), xa_r (k + 2), xa_i ((ns : Nat) : Int), xa_i fs, xa_i lst, xa_r kbr, xa_r kam]) (hT1 : h.1 (k + 1) = xa_a 2 pl) (hT2 : h.1 (k + 2) = xa_a 2 lw) (hT3 : h.1 kbr = xa_a nb br) (hT4 : h.1 kam = xa_a na am) (hS0 : h.1 (k + 5) = xa_o 4 [xa_r kb, xa_r (k + 5 + 1), xa_r (k + 5 + 2), xa_i tj, xa_i tb]) (hS1 : h.1 (k + 5 + 1) = xa_a 3 po) (hS2 : h.1 (k + 5 + 2) = xa_a 2 sp) (hB0 : h.1 kb = xa_o 0 [xa_r (kb + 1), xa_r (kb + 2), xa_i 2, xa_i ((jo : Nat) : Int), xa_i wa, xa_i sr, xa_i pu, xa_i ri]) (hB1 : h.1 (kb + 1) = xa_a 9 ld) (hB2 : h.1 (kb + 2) = xa_a 2 dg) : xa_M G mX6_numberNow [xa_r k] h 0 0 (fun r h' => r = some (xa_i (sp_num2 pl lw po sp)) ∧ h' = h) := by
  refine xa_enter (by decide +kernel) (Nat.le_of_ble_eq_true rfl) ?_
  refine xa_locals (ls' := [some (xa_r k), none, none]) rfl ?_
  refine xa_iconst (pc := 0) dX6_numberNow_0 ?_
  refine xa_istoren (pc := 1) [some (xa_r k), some (xa_i 0), none] dX6_numberNow_1 (by decide) (Nat.le_of_ble_eq_true rfl) rfl rfl ?_
  refine xa_aload_n (pc := 2) dX6_numberNow_2 rfl ?_
  refine xa_getfield (pc := 3) dX6_numberNow_3 flRX6_9 (by omega) (by omega) hT0 rfl ?_
  refine xa_alen (pc := 6) dX6_numberNow_6 (by omega) hT1 ?_
  refine xa_top (y := 2) rfl ?_
  refine xa_aload_n (pc := 7) dX6_numberNow_7 rfl ?_
  refine xa_getfield (pc := 8) dX6_numberNow_8 flRX6_15 (by omega) (by omega) hT0 rfl ?_
  refine xa_alen (pc := 11) dX6_numberNow_11 (by omega) hT2 ?_
  refine xa_top (y := 2) rfl ?_
  refine xa_callS (pc := 12) (as := [xa_i 2, xa_i 2]) (rest := []) dX6_numberNow_12 ⟨qJ9_min_7cf53.1, qJ9_min_7cf53.2.1, qJ9_min_7cf53.2.2, by decide, by decide⟩ lkRX6_88 smJ9_min_7cf53 rfl rfl (Nat.le_of_ble_eq_true rfl) (Nat.zero_le _) (Nat.zero_le _) (c_min _ _ (by decide) (by decide)) (fun r h' hq => ?_)
  obtain ⟨rfl, hq⟩ := hq
  have hq := hq.symm
  subst hq
  refine xa_top (y := 2) (by decide) ?_
  refine xa_iconst (pc := 15) dX6_numberNow_15 ?_
  refine xa_isub (pc := 16) dX6_numberNow_16 ?_
  refine xa_top (y := 1) (by decide) ?_
  refine xa_istoren (pc := 17) [some (xa_r k), some (xa_i 0), some (xa_i 1)] dX6_numberNow_17 (by decide) (Nat.le_of_ble_eq_true rfl) rfl rfl ?_
  refine xa_iload_n (pc := 18) dX6_numberNow_18 rfl ?_
  refine xa_if_lt (pc := 19) (tgt := 53) dX6_numberNow_19 (by decide) (by decide) (fun c_19 => ?_) (fun c_19 => ?_)
  · skip
    exfalso; omega
  · skip
    refine xa_iload_n (pc := 22) dX6_numberNow_22 rfl ?_
    refine xa_aload_n (pc := 23) dX6_numberNow_23 rfl ?_
    refine xa_getfield (pc := 24) dX6_numberNow_24 flRX6_9 (by omega) (by omega) hT0 rfl ?_
    refine xa_iload_n (pc := 27) dX6_numberNow_27 rfl ?_
    refine xa_ialdw (pc := 28) 1 dX6_numberNow_28 (by omega) hT1 (by omega) (by omega) rfl ?_
    refine xa_imul (pc := 29) dX6_numberNow_29 ?_
    refine xa_aload_n (pc := 30) dX6_numberNow_30 rfl ?_
    refine xa_getfield (pc := 31) dX6_numberNow_31 flRX6_37 (by omega) (by omega) hT0 rfl ?_
    refine xa_iload_n (pc := 34) dX6_numberNow_34 rfl ?_
    refine xa_callV (pc := 35) (as := [xa_i 1]) (rest := [xa_i (0 * (pl 1))]) dX6_numberNow_35 ⟨qX4_stepsAt.1, qX4_stepsAt.2.1, qX4_stepsAt.2.2, by decide, by decide⟩ lkRX6_91 imX4_stepsAt seX4_stepsAt rfl rfl (by omega) (by omega) hS0 rfl (Nat.le_of_ble_eq_true rfl) (Nat.zero_le _) (Nat.zero_le _) (c_stepsAt _ _ _ _ _ _ 1 1 rfl ⟨by decide, by decide⟩ (by omega) (by omega) hS0 hS1 hS2) (fun r h' hq => ?_)
    obtain ⟨rfl, hq⟩ := hq
    have hq := hq.symm
    subst hq
    refine xa_iadd (pc := 38) dX6_numberNow_38 ?_
    refine xa_aload_n (pc := 39) dX6_numberNow_39 rfl ?_
    refine xa_getfield (pc := 40) dX6_numberNow_40 flRX6_15 (by omega) (by omega) hT0 rfl ?_
    refine xa_iload_n (pc := 43) dX6_numberNow_43 rfl ?_
    refine xa_ialdw (pc := 44) 1 dX6_numberNow_44 (by omega) hT2 (by omega) (by omega) rfl ?_
    refine xa_isub (pc := 45) dX6_numberNow_45 ?_
    refine xa_istoren (pc := 46) [some (xa_r k), some (xa_i (((0 * (pl 1)) + (sp 1)) - (lw 1))), some (xa_i 1)] dX6_numberNow_46 (by decide) (Nat.le_of_ble_eq_true rfl) rfl rfl ?_
    refine xa_iincw (pc := 47) (y := 0) [some (xa_r k), some (xa_i (((0 * (pl 1)) + (sp 1)) - (lw 1))), some (xa_i 0)] dX6_numberNow_47 (by decide) rfl rfl rfl rfl ?_
    refine xa_goto (pc := 50) (tgt := 18) dX6_numberNow_50 (by decide) ?_
    refine xa_iload_n (pc := 18) dX6_numberNow_18 rfl ?_
    refine xa_if_lt (pc := 19) (tgt := 53) dX6_numberNow_19 (by decide) (by decide) (fun c_19 => ?_) (fun c_19 => ?_)
    · skip
      exfalso; omega
    · skip
      refine xa_iload_n (pc := 22) dX6_numberNow_22 rfl ?_
      refine xa_aload_n (pc := 23) dX6_numberNow_23 rfl ?_
      refine xa_getfield (pc := 24) dX6_numberNow_24 flRX6_9 (by omega) (by omega) hT0 rfl ?_
      refine xa_iload_n (pc := 27) dX6_numberNow_27 rfl ?_
      refine xa_ialdw (pc := 28) 0 dX6_numberNow_28 (by omega) hT1 (by omega) (by omega) rfl ?_
      refine xa_imul (pc := 29) dX6_numberNow_29 ?_
      refine xa_aload_n (pc := 30) dX6_numberNow_30 rfl ?_
      refine xa_getfield (pc := 31) dX6_numberNow_31 flRX6_37 (by omega) (by omega) hT0 rfl ?_
      refine xa_iload_n (pc := 34) dX6_numberNow_34 rfl ?_
      refine xa_callV (pc := 35) (as := [xa_i 0]) (rest := [xa_i ((((0 * (pl 1)) + (sp 1)) - (lw 1)) * (pl 0))]) dX6_numberNow_35 ⟨qX4_stepsAt.1, qX4_stepsAt.2.1, qX4_stepsAt.2.2, by decide, by decide⟩ lkRX6_91 imX4_stepsAt seX4_stepsAt rfl rfl (by omega) (by omega) hS0 rfl (Nat.le_of_ble_eq_true rfl) (Nat.zero_le _) (Nat.zero_le _) (c_stepsAt _ _ _ _ _ _ 0 0 rfl ⟨by decide, by decide⟩ (by omega) (by omega) hS0 hS1 hS2) (fun r h' hq => ?_)
      obtain ⟨rfl, hq⟩ := hq
      have hq := hq.symm
      subst hq
      refine xa_iadd (pc := 38) dX6_numberNow_38 ?_
      refine xa_aload_n (pc := 39) dX6_numberNow_39 rfl ?_
      refine xa_getfield (pc := 40) dX6_numberNow_40 flRX6_15 (by omega) (by omega) hT0 rfl ?_
      refine xa_iload_n (pc := 43) dX6_numberNow_43 rfl ?_
      refine xa_ialdw (pc := 44) 0 dX6_numberNow_44 (by omega) hT2 (by omega) (by omega) rfl ?_
      refine xa_isub (pc := 45) dX6_numberNow_45 ?_
      refine xa_istoren (pc := 46) [some (xa_r k), some (xa_i ((((((0 * (pl 1)) + (sp 1)) - (lw 1)) * (pl 0)) + (sp 0)) - (lw 0))), some (xa_i 0)] dX6_numberNow_46 (by decide) (Nat.le_of_ble_eq_true rfl) rfl rfl ?_
      refine xa_iincw (pc := 47) (y := -1) [some (xa_r k), some (xa_i ((((((0 * (pl 1)) + (sp 1)) - (lw 1)) * (pl 0)) + (sp 0)) - (lw 0))), some (xa_i (-1))] dX6_numberNow_47 (by decide) rfl rfl rfl rfl ?_
      refine xa_goto (pc := 50) (tgt := 18) dX6_numberNow_50 (by decide) ?_
      refine xa_iload_n (pc := 18) dX6_numberNow_18 rfl ?_
      refine xa_if_lt (pc := 19) (tgt := 53) dX6_numberNow_19 (by decide) (by decide) (fun c_19 => ?_) (fun c_19 => ?_)
      · skip
        refine xa_aload_n (pc := 53) dX6_numberNow_53 rfl ?_
        refine xa_getfield (pc := 54) dX6_numberNow_54 flRX6_24 (by omega) (by omega) hT0 rfl ?_
        refine xa_getfield (pc := 57) dX6_numberNow_57 flRX6_41 (by omega) (by omega) hB0 rfl ?_
        refine xa_iconst (pc := 60) dX6_numberNow_60 ?_
        refine xa_isub (pc := 61) dX6_numberNow_61 ?_
        refine xa_top (y := 1) (by decide) ?_
        refine xa_istoren (pc := 62) [some (xa_r k), some (xa_i ((((((0 * (pl 1)) + (sp 1)) - (lw 1)) * (pl 0)) + (sp 0)) - (lw 0))), some (xa_i 1)] dX6_numberNow_62 (by decide) (Nat.le_of_ble_eq_true rfl) rfl rfl ?_
        refine xa_iload_n (pc := 63) dX6_numberNow_63 rfl ?_
        refine xa_if_lt (pc := 64) (tgt := 86) dX6_numberNow_64 (by decide) (by decide) (fun c_64 => ?_) (fun c_64 => ?_)
        · skip
          exfalso; omega
        · skip
          refine xa_iload_n (pc := 67) dX6_numberNow_67 rfl ?_
          refine xa_iconst (pc := 68) dX6_numberNow_68 ?_
          refine xa_imul (pc := 69) dX6_numberNow_69 ?_
          refine xa_aload_n (pc := 70) dX6_numberNow_70 rfl ?_
          refine xa_getfield (pc := 71) dX6_numberNow_71 flRX6_37 (by omega) (by omega) hT0 rfl ?_
          refine xa_iload_n (pc := 74) dX6_numberNow_74 rfl ?_
          refine xa_callV (pc := 75) (as := [xa_i 1]) (rest := [xa_i (((((((0 * (pl 1)) + (sp 1)) - (lw 1)) * (pl 0)) + (sp 0)) - (lw 0)) * 3)]) dX6_numberNow_75 ⟨qX4_poseOf.1, qX4_poseOf.2.1, qX4_poseOf.2.2, by decide, by decide⟩ lkRX6_94 imX4_poseOf seX4_poseOf rfl rfl (by omega) (by omega) hS0 rfl (Nat.le_of_ble_eq_true rfl) (Nat.zero_le _) (Nat.zero_le _) (c_poseOf _ _ _ _ _ _ 1 1 rfl ⟨by decide, by decide⟩ (by omega) (by omega) hS0 hS1 hS2) (fun r h' hq => ?_)
          obtain ⟨rfl, hq⟩ := hq
          have hq := hq.symm
          subst hq
          refine xa_iadd (pc := 78) dX6_numberNow_78 ?_
          refine xa_istoren (pc := 79) [some (xa_r k), some (xa_i ((((((((0 * (pl 1)) + (sp 1)) - (lw 1)) * (pl 0)) + (sp 0)) - (lw 0)) * 3) + (po 1))), some (xa_i 1)] dX6_numberNow_79 (by decide) (Nat.le_of_ble_eq_true rfl) rfl rfl ?_
          refine xa_iincw (pc := 80) (y := 0) [some (xa_r k), some (xa_i ((((((((0 * (pl 1)) + (sp 1)) - (lw 1)) * (pl 0)) + (sp 0)) - (lw 0)) * 3) + (po 1))), some (xa_i 0)] dX6_numberNow_80 (by decide) rfl rfl rfl rfl ?_
          refine xa_goto (pc := 83) (tgt := 63) dX6_numberNow_83 (by decide) ?_
          refine xa_iload_n (pc := 63) dX6_numberNow_63 rfl ?_
          refine xa_if_lt (pc := 64) (tgt := 86) dX6_numberNow_64 (by decide) (by decide) (fun c_64 => ?_) (fun c_64 => ?_)
          · skip
            exfalso; omega
          · skip
            refine xa_iload_n (pc := 67) dX6_numberNow_67 rfl ?_
            refine xa_iconst (pc := 68) dX6_numberNow_68 ?_
            refine xa_imul (pc := 69) dX6_numberNow_69 ?_
            refine xa_aload_n (pc := 70) dX6_numberNow_70 rfl ?_
            refine xa_getfield (pc := 71) dX6_numberNow_71 flRX6_37 (by omega) (by omega) hT0 rfl ?_
            refine xa_iload_n (pc := 74) dX6_numberNow_74 rfl ?_
            refine xa_callV (pc := 75) (as := [xa_i 0]) (rest := [xa_i (((((((((0 * (pl 1)) + (sp 1)) - (lw 1)) * (pl 0)) + (sp 0)) - (lw 0)) * 3) + (po 1)) * 3)]) dX6_numberNow_75 ⟨qX4_poseOf.1, qX4_poseOf.2.1, qX4_poseOf.2.2, by decide, by decide⟩ lkRX6_94 imX4_poseOf seX4_poseOf rfl rfl (by omega) (by omega) hS0 rfl (Nat.le_of_ble_eq_true rfl) (Nat.zero_le _) (Nat.zero_le _) (c_poseOf _ _ _ _ _ _ 0 0 rfl ⟨by decide, by decide⟩ (by omega) (by omega) hS0 hS1 hS2) (fun r h' hq => ?_)
            obtain ⟨rfl, hq⟩ := hq
            have hq := hq.symm
            subst hq
            refine xa_iadd (pc := 78) dX6_numberNow_78 ?_
            refine xa_istoren (pc := 79) [some (xa_r k), some (xa_i ((((((((((0 * (pl 1)) + (sp 1)) - (lw 1)) * (pl 0)) + (sp 0)) - (lw 0)) * 3) + (po 1)) * 3) + (po 0))), some (xa_i 0)] dX6_numberNow_79 (by decide) (Nat.le_of_ble_eq_true rfl) rfl rfl ?_
            refine xa_iincw (pc := 80) (y := -1) [some (xa_r k), some (xa_i ((((((((((0 * (pl 1)) + (sp 1)) - (lw 1)) * (pl 0)) + (sp 0)) - (lw 0)) * 3) + (po 1)) * 3) + (po 0))), some (xa_i (-1))] dX6_numberNow_80 (by decide) rfl rfl rfl rfl ?_
            refine xa_goto (pc := 83) (tgt := 63) dX6_numberNow_83 (by decide) ?_
            refine xa_iload_n (pc := 63) dX6_numberNow_63 rfl ?_
            refine xa_if_lt (pc := 64) (tgt := 86) dX6_numberNow_64 (by decide) (by decide) (fun c_64 => ?_) (fun c_64 => ?_)
            · skip
              refine xa_iload_n (pc := 86) dX6_numberNow_86 rfl ?_
              refine xa_ireturn (pc := 87) dX6_numberNow_87 rfl trivial ?_
              exact ⟨congrArg (fun z => some (xa_i z)) (show (((((((((0 * (pl 1)) + (sp 1)) - (lw 1)) * (pl 0)) + (sp 0)) - (lw 0)) * 3) + (po 1)) * 3) + (po 0) = sp_num2 pl lw po sp by rfl), rfl⟩
            · skip
              exfalso; omega
      · skip
        exfalso; omega
theorem c_numberNow3 {G : xa_G} {h : xa_H} (k kb kbr kam : Nat) (sj : Int) (pl lw br am : Nat → Int) (nb na ns : Nat) (fs lst : Int) (po sp : Nat → Int) (tj tb : Int) (ld dg : Nat → Int) (jo : Nat) (wa sr pu ri : Int) (hk : 2 ≤ k) (hkn : k + 7 < h.2) (hkb : 2 ≤ kb) (hkk : kb + 3 ≤ k) (hkbr : k + 8 ≤ kbr ∨ kbr = k + 3) (hkbr2 : kbr < h.2) (hkam : k + 8 ≤ kam ∨ kam = k + 4) (hkam2 : kam < h.2)  (hT0 : h.1 k = xa_o 6 [xa_r kb, xa_r (k + 5), xa_i sj, xa_r (k + 1), xa_r (k + 2), xa_i ((ns : Nat) : Int), xa_i fs, xa_i lst, xa_r kbr, xa_r kam]) (hT1 : h.1 (k + 1) = xa_a 2 pl) (hT2 : h.1 (k + 2) = xa_a 2 lw) (hT3 : h.1 kbr = xa_a nb br) (hT4 : h.1 kam = xa_a na am) (hS0 : h.1 (k + 5) = xa_o 4 [xa_r kb, xa_r (k + 5 + 1), xa_r (k + 5 + 2), xa_i tj, xa_i tb]) (hS1 : h.1 (k + 5 + 1) = xa_a 3 po) (hS2 : h.1 (k + 5 + 2) = xa_a 2 sp) (hB0 : h.1 kb = xa_o 0 [xa_r (kb + 1), xa_r (kb + 2), xa_i 3, xa_i ((jo : Nat) : Int), xa_i wa, xa_i sr, xa_i pu, xa_i ri]) (hB1 : h.1 (kb + 1) = xa_a 9 ld) (hB2 : h.1 (kb + 2) = xa_a 2 dg) : xa_M G mX6_numberNow [xa_r k] h 0 0 (fun r h' => r = some (xa_i (sp_num3 pl lw po sp)) ∧ h' = h) := by
  refine xa_enter (by decide +kernel) (Nat.le_of_ble_eq_true rfl) ?_
  refine xa_locals (ls' := [some (xa_r k), none, none]) rfl ?_
  refine xa_iconst (pc := 0) dX6_numberNow_0 ?_
  refine xa_istoren (pc := 1) [some (xa_r k), some (xa_i 0), none] dX6_numberNow_1 (by decide) (Nat.le_of_ble_eq_true rfl) rfl rfl ?_
  refine xa_aload_n (pc := 2) dX6_numberNow_2 rfl ?_
  refine xa_getfield (pc := 3) dX6_numberNow_3 flRX6_9 (by omega) (by omega) hT0 rfl ?_
  refine xa_alen (pc := 6) dX6_numberNow_6 (by omega) hT1 ?_
  refine xa_top (y := 2) rfl ?_
  refine xa_aload_n (pc := 7) dX6_numberNow_7 rfl ?_
  refine xa_getfield (pc := 8) dX6_numberNow_8 flRX6_15 (by omega) (by omega) hT0 rfl ?_
  refine xa_alen (pc := 11) dX6_numberNow_11 (by omega) hT2 ?_
  refine xa_top (y := 2) rfl ?_
  refine xa_callS (pc := 12) (as := [xa_i 2, xa_i 2]) (rest := []) dX6_numberNow_12 ⟨qJ9_min_7cf53.1, qJ9_min_7cf53.2.1, qJ9_min_7cf53.2.2, by decide, by decide⟩ lkRX6_88 smJ9_min_7cf53 rfl rfl (Nat.le_of_ble_eq_true rfl) (Nat.zero_le _) (Nat.zero_le _) (c_min _ _ (by decide) (by decide)) (fun r h' hq => ?_)
  obtain ⟨rfl, hq⟩ := hq
  have hq := hq.symm
  subst hq
  refine xa_top (y := 2) (by decide) ?_
  refine xa_iconst (pc := 15) dX6_numberNow_15 ?_
  refine xa_isub (pc := 16) dX6_numberNow_16 ?_
  refine xa_top (y := 1) (by decide) ?_
  refine xa_istoren (pc := 17) [some (xa_r k), some (xa_i 0), some (xa_i 1)] dX6_numberNow_17 (by decide) (Nat.le_of_ble_eq_true rfl) rfl rfl ?_
  refine xa_iload_n (pc := 18) dX6_numberNow_18 rfl ?_
  refine xa_if_lt (pc := 19) (tgt := 53) dX6_numberNow_19 (by decide) (by decide) (fun c_19 => ?_) (fun c_19 => ?_)
  · skip
    exfalso; omega
  · skip
    refine xa_iload_n (pc := 22) dX6_numberNow_22 rfl ?_
    refine xa_aload_n (pc := 23) dX6_numberNow_23 rfl ?_
    refine xa_getfield (pc := 24) dX6_numberNow_24 flRX6_9 (by omega) (by omega) hT0 rfl ?_
    refine xa_iload_n (pc := 27) dX6_numberNow_27 rfl ?_
    refine xa_ialdw (pc := 28) 1 dX6_numberNow_28 (by omega) hT1 (by omega) (by omega) rfl ?_
    refine xa_imul (pc := 29) dX6_numberNow_29 ?_
    refine xa_aload_n (pc := 30) dX6_numberNow_30 rfl ?_
    refine xa_getfield (pc := 31) dX6_numberNow_31 flRX6_37 (by omega) (by omega) hT0 rfl ?_
    refine xa_iload_n (pc := 34) dX6_numberNow_34 rfl ?_
    refine xa_callV (pc := 35) (as := [xa_i 1]) (rest := [xa_i (0 * (pl 1))]) dX6_numberNow_35 ⟨qX4_stepsAt.1, qX4_stepsAt.2.1, qX4_stepsAt.2.2, by decide, by decide⟩ lkRX6_91 imX4_stepsAt seX4_stepsAt rfl rfl (by omega) (by omega) hS0 rfl (Nat.le_of_ble_eq_true rfl) (Nat.zero_le _) (Nat.zero_le _) (c_stepsAt _ _ _ _ _ _ 1 1 rfl ⟨by decide, by decide⟩ (by omega) (by omega) hS0 hS1 hS2) (fun r h' hq => ?_)
    obtain ⟨rfl, hq⟩ := hq
    have hq := hq.symm
    subst hq
    refine xa_iadd (pc := 38) dX6_numberNow_38 ?_
    refine xa_aload_n (pc := 39) dX6_numberNow_39 rfl ?_
    refine xa_getfield (pc := 40) dX6_numberNow_40 flRX6_15 (by omega) (by omega) hT0 rfl ?_
    refine xa_iload_n (pc := 43) dX6_numberNow_43 rfl ?_
    refine xa_ialdw (pc := 44) 1 dX6_numberNow_44 (by omega) hT2 (by omega) (by omega) rfl ?_
    refine xa_isub (pc := 45) dX6_numberNow_45 ?_
    refine xa_istoren (pc := 46) [some (xa_r k), some (xa_i (((0 * (pl 1)) + (sp 1)) - (lw 1))), some (xa_i 1)] dX6_numberNow_46 (by decide) (Nat.le_of_ble_eq_true rfl) rfl rfl ?_
    refine xa_iincw (pc := 47) (y := 0) [some (xa_r k), some (xa_i (((0 * (pl 1)) + (sp 1)) - (lw 1))), some (xa_i 0)] dX6_numberNow_47 (by decide) rfl rfl rfl rfl ?_
    refine xa_goto (pc := 50) (tgt := 18) dX6_numberNow_50 (by decide) ?_
    refine xa_iload_n (pc := 18) dX6_numberNow_18 rfl ?_
    refine xa_if_lt (pc := 19) (tgt := 53) dX6_numberNow_19 (by decide) (by decide) (fun c_19 => ?_) (fun c_19 => ?_)
    · skip
      exfalso; omega
    · skip
      refine xa_iload_n (pc := 22) dX6_numberNow_22 rfl ?_
      refine xa_aload_n (pc := 23) dX6_numberNow_23 rfl ?_
      refine xa_getfield (pc := 24) dX6_numberNow_24 flRX6_9 (by omega) (by omega) hT0 rfl ?_
      refine xa_iload_n (pc := 27) dX6_numberNow_27 rfl ?_
      refine xa_ialdw (pc := 28) 0 dX6_numberNow_28 (by omega) hT1 (by omega) (by omega) rfl ?_
      refine xa_imul (pc := 29) dX6_numberNow_29 ?_
      refine xa_aload_n (pc := 30) dX6_numberNow_30 rfl ?_
      refine xa_getfield (pc := 31) dX6_numberNow_31 flRX6_37 (by omega) (by omega) hT0 rfl ?_
      refine xa_iload_n (pc := 34) dX6_numberNow_34 rfl ?_
      refine xa_callV (pc := 35) (as := [xa_i 0]) (rest := [xa_i ((((0 * (pl 1)) + (sp 1)) - (lw 1)) * (pl 0))]) dX6_numberNow_35 ⟨qX4_stepsAt.1, qX4_stepsAt.2.1, qX4_stepsAt.2.2, by decide, by decide⟩ lkRX6_91 imX4_stepsAt seX4_stepsAt rfl rfl (by omega) (by omega) hS0 rfl (Nat.le_of_ble_eq_true rfl) (Nat.zero_le _) (Nat.zero_le _) (c_stepsAt _ _ _ _ _ _ 0 0 rfl ⟨by decide, by decide⟩ (by omega) (by omega) hS0 hS1 hS2) (fun r h' hq => ?_)
      obtain ⟨rfl, hq⟩ := hq
      have hq := hq.symm
      subst hq
      refine xa_iadd (pc := 38) dX6_numberNow_38 ?_
      refine xa_aload_n (pc := 39) dX6_numberNow_39 rfl ?_
      refine xa_getfield (pc := 40) dX6_numberNow_40 flRX6_15 (by omega) (by omega) hT0 rfl ?_
      refine xa_iload_n (pc := 43) dX6_numberNow_43 rfl ?_
      refine xa_ialdw (pc := 44) 0 dX6_numberNow_44 (by omega) hT2 (by omega) (by omega) rfl ?_
      refine xa_isub (pc := 45) dX6_numberNow_45 ?_
      refine xa_istoren (pc := 46) [some (xa_r k), some (xa_i ((((((0 * (pl 1)) + (sp 1)) - (lw 1)) * (pl 0)) + (sp 0)) - (lw 0))), some (xa_i 0)] dX6_numberNow_46 (by decide) (Nat.le_of_ble_eq_true rfl) rfl rfl ?_
      refine xa_iincw (pc := 47) (y := -1) [some (xa_r k), some (xa_i ((((((0 * (pl 1)) + (sp 1)) - (lw 1)) * (pl 0)) + (sp 0)) - (lw 0))), some (xa_i (-1))] dX6_numberNow_47 (by decide) rfl rfl rfl rfl ?_
      refine xa_goto (pc := 50) (tgt := 18) dX6_numberNow_50 (by decide) ?_
      refine xa_iload_n (pc := 18) dX6_numberNow_18 rfl ?_
      refine xa_if_lt (pc := 19) (tgt := 53) dX6_numberNow_19 (by decide) (by decide) (fun c_19 => ?_) (fun c_19 => ?_)
      · skip
        refine xa_aload_n (pc := 53) dX6_numberNow_53 rfl ?_
        refine xa_getfield (pc := 54) dX6_numberNow_54 flRX6_24 (by omega) (by omega) hT0 rfl ?_
        refine xa_getfield (pc := 57) dX6_numberNow_57 flRX6_41 (by omega) (by omega) hB0 rfl ?_
        refine xa_iconst (pc := 60) dX6_numberNow_60 ?_
        refine xa_isub (pc := 61) dX6_numberNow_61 ?_
        refine xa_top (y := 2) (by decide) ?_
        refine xa_istoren (pc := 62) [some (xa_r k), some (xa_i ((((((0 * (pl 1)) + (sp 1)) - (lw 1)) * (pl 0)) + (sp 0)) - (lw 0))), some (xa_i 2)] dX6_numberNow_62 (by decide) (Nat.le_of_ble_eq_true rfl) rfl rfl ?_
        refine xa_iload_n (pc := 63) dX6_numberNow_63 rfl ?_
        refine xa_if_lt (pc := 64) (tgt := 86) dX6_numberNow_64 (by decide) (by decide) (fun c_64 => ?_) (fun c_64 => ?_)
        · skip
          exfalso; omega
        · skip
          refine xa_iload_n (pc := 67) dX6_numberNow_67 rfl ?_
          refine xa_iconst (pc := 68) dX6_numberNow_68 ?_
          refine xa_imul (pc := 69) dX6_numberNow_69 ?_
          refine xa_aload_n (pc := 70) dX6_numberNow_70 rfl ?_
          refine xa_getfield (pc := 71) dX6_numberNow_71 flRX6_37 (by omega) (by omega) hT0 rfl ?_
          refine xa_iload_n (pc := 74) dX6_numberNow_74 rfl ?_
          refine xa_callV (pc := 75) (as := [xa_i 2]) (rest := [xa_i (((((((0 * (pl 1)) + (sp 1)) - (lw 1)) * (pl 0)) + (sp 0)) - (lw 0)) * 3)]) dX6_numberNow_75 ⟨qX4_poseOf.1, qX4_poseOf.2.1, qX4_poseOf.2.2, by decide, by decide⟩ lkRX6_94 imX4_poseOf seX4_poseOf rfl rfl (by omega) (by omega) hS0 rfl (Nat.le_of_ble_eq_true rfl) (Nat.zero_le _) (Nat.zero_le _) (c_poseOf _ _ _ _ _ _ 2 2 rfl ⟨by decide, by decide⟩ (by omega) (by omega) hS0 hS1 hS2) (fun r h' hq => ?_)
          obtain ⟨rfl, hq⟩ := hq
          have hq := hq.symm
          subst hq
          refine xa_iadd (pc := 78) dX6_numberNow_78 ?_
          refine xa_istoren (pc := 79) [some (xa_r k), some (xa_i ((((((((0 * (pl 1)) + (sp 1)) - (lw 1)) * (pl 0)) + (sp 0)) - (lw 0)) * 3) + (po 2))), some (xa_i 2)] dX6_numberNow_79 (by decide) (Nat.le_of_ble_eq_true rfl) rfl rfl ?_
          refine xa_iincw (pc := 80) (y := 1) [some (xa_r k), some (xa_i ((((((((0 * (pl 1)) + (sp 1)) - (lw 1)) * (pl 0)) + (sp 0)) - (lw 0)) * 3) + (po 2))), some (xa_i 1)] dX6_numberNow_80 (by decide) rfl rfl rfl rfl ?_
          refine xa_goto (pc := 83) (tgt := 63) dX6_numberNow_83 (by decide) ?_
          refine xa_iload_n (pc := 63) dX6_numberNow_63 rfl ?_
          refine xa_if_lt (pc := 64) (tgt := 86) dX6_numberNow_64 (by decide) (by decide) (fun c_64 => ?_) (fun c_64 => ?_)
          · skip
            exfalso; omega
          · skip
            refine xa_iload_n (pc := 67) dX6_numberNow_67 rfl ?_
            refine xa_iconst (pc := 68) dX6_numberNow_68 ?_
            refine xa_imul (pc := 69) dX6_numberNow_69 ?_
            refine xa_aload_n (pc := 70) dX6_numberNow_70 rfl ?_
            refine xa_getfield (pc := 71) dX6_numberNow_71 flRX6_37 (by omega) (by omega) hT0 rfl ?_
            refine xa_iload_n (pc := 74) dX6_numberNow_74 rfl ?_
            refine xa_callV (pc := 75) (as := [xa_i 1]) (rest := [xa_i (((((((((0 * (pl 1)) + (sp 1)) - (lw 1)) * (pl 0)) + (sp 0)) - (lw 0)) * 3) + (po 2)) * 3)]) dX6_numberNow_75 ⟨qX4_poseOf.1, qX4_poseOf.2.1, qX4_poseOf.2.2, by decide, by decide⟩ lkRX6_94 imX4_poseOf seX4_poseOf rfl rfl (by omega) (by omega) hS0 rfl (Nat.le_of_ble_eq_true rfl) (Nat.zero_le _) (Nat.zero_le _) (c_poseOf _ _ _ _ _ _ 1 1 rfl ⟨by decide, by decide⟩ (by omega) (by omega) hS0 hS1 hS2) (fun r h' hq => ?_)
            obtain ⟨rfl, hq⟩ := hq
            have hq := hq.symm
            subst hq
            refine xa_iadd (pc := 78) dX6_numberNow_78 ?_
            refine xa_istoren (pc := 79) [some (xa_r k), some (xa_i ((((((((((0 * (pl 1)) + (sp 1)) - (lw 1)) * (pl 0)) + (sp 0)) - (lw 0)) * 3) + (po 2)) * 3) + (po 1))), some (xa_i 1)] dX6_numberNow_79 (by decide) (Nat.le_of_ble_eq_true rfl) rfl rfl ?_
            refine xa_iincw (pc := 80) (y := 0) [some (xa_r k), some (xa_i ((((((((((0 * (pl 1)) + (sp 1)) - (lw 1)) * (pl 0)) + (sp 0)) - (lw 0)) * 3) + (po 2)) * 3) + (po 1))), some (xa_i 0)] dX6_numberNow_80 (by decide) rfl rfl rfl rfl ?_
            refine xa_goto (pc := 83) (tgt := 63) dX6_numberNow_83 (by decide) ?_
            refine xa_iload_n (pc := 63) dX6_numberNow_63 rfl ?_
            refine xa_if_lt (pc := 64) (tgt := 86) dX6_numberNow_64 (by decide) (by decide) (fun c_64 => ?_) (fun c_64 => ?_)
            · skip
              exfalso; omega
            · skip
              refine xa_iload_n (pc := 67) dX6_numberNow_67 rfl ?_
              refine xa_iconst (pc := 68) dX6_numberNow_68 ?_
              refine xa_imul (pc := 69) dX6_numberNow_69 ?_
              refine xa_aload_n (pc := 70) dX6_numberNow_70 rfl ?_
              refine xa_getfield (pc := 71) dX6_numberNow_71 flRX6_37 (by omega) (by omega) hT0 rfl ?_
              refine xa_iload_n (pc := 74) dX6_numberNow_74 rfl ?_
              refine xa_callV (pc := 75) (as := [xa_i 0]) (rest := [xa_i (((((((((((0 * (pl 1)) + (sp 1)) - (lw 1)) * (pl 0)) + (sp 0)) - (lw 0)) * 3) + (po 2)) * 3) + (po 1)) * 3)]) dX6_numberNow_75 ⟨qX4_poseOf.1, qX4_poseOf.2.1, qX4_poseOf.2.2, by decide, by decide⟩ lkRX6_94 imX4_poseOf seX4_poseOf rfl rfl (by omega) (by omega) hS0 rfl (Nat.le_of_ble_eq_true rfl) (Nat.zero_le _) (Nat.zero_le _) (c_poseOf _ _ _ _ _ _ 0 0 rfl ⟨by decide, by decide⟩ (by omega) (by omega) hS0 hS1 hS2) (fun r h' hq => ?_)
              obtain ⟨rfl, hq⟩ := hq
              have hq := hq.symm
              subst hq
              refine xa_iadd (pc := 78) dX6_numberNow_78 ?_
              refine xa_istoren (pc := 79) [some (xa_r k), some (xa_i ((((((((((((0 * (pl 1)) + (sp 1)) - (lw 1)) * (pl 0)) + (sp 0)) - (lw 0)) * 3) + (po 2)) * 3) + (po 1)) * 3) + (po 0))), some (xa_i 0)] dX6_numberNow_79 (by decide) (Nat.le_of_ble_eq_true rfl) rfl rfl ?_
              refine xa_iincw (pc := 80) (y := -1) [some (xa_r k), some (xa_i ((((((((((((0 * (pl 1)) + (sp 1)) - (lw 1)) * (pl 0)) + (sp 0)) - (lw 0)) * 3) + (po 2)) * 3) + (po 1)) * 3) + (po 0))), some (xa_i (-1))] dX6_numberNow_80 (by decide) rfl rfl rfl rfl ?_
              refine xa_goto (pc := 83) (tgt := 63) dX6_numberNow_83 (by decide) ?_
              refine xa_iload_n (pc := 63) dX6_numberNow_63 rfl ?_
              refine xa_if_lt (pc := 64) (tgt := 86) dX6_numberNow_64 (by decide) (by decide) (fun c_64 => ?_) (fun c_64 => ?_)
              · skip
                refine xa_iload_n (pc := 86) dX6_numberNow_86 rfl ?_
                refine xa_ireturn (pc := 87) dX6_numberNow_87 rfl trivial ?_
                exact ⟨congrArg (fun z => some (xa_i z)) (show (((((((((((0 * (pl 1)) + (sp 1)) - (lw 1)) * (pl 0)) + (sp 0)) - (lw 0)) * 3) + (po 2)) * 3) + (po 1)) * 3) + (po 0) = sp_num3 pl lw po sp by rfl), rfl⟩
              · skip
                exfalso; omega
      · skip
        exfalso; omega
theorem c_become2 {G : xa_G} {h : xa_H} (k kb kbr kam : Nat) (sj : Int) (pl lw br am : Nat → Int) (nb na ns : Nat) (fs lst : Int) (po sp : Nat → Int) (tj tb : Int) (ld dg : Nat → Int) (jo : Nat) (wa sr pu ri : Int) (hk : 2 ≤ k) (hkn : k + 7 < h.2) (hkb : 2 ≤ kb) (hkk : kb + 3 ≤ k) (hkbr : k + 8 ≤ kbr ∨ kbr = k + 3) (hkbr2 : kbr < h.2) (hkam : k + 8 ≤ kam ∨ kam = k + 4) (hkam2 : kam < h.2) (n : Int) (hn : 0 ≤ n ∧ n ≤ 4000000) (hpl : ∀ i, 0 ≤ pl i ∧ pl i ≤ 12) (hT0 : h.1 k = xa_o 6 [xa_r kb, xa_r (k + 5), xa_i sj, xa_r (k + 1), xa_r (k + 2), xa_i ((ns : Nat) : Int), xa_i fs, xa_i lst, xa_r kbr, xa_r kam]) (hT1 : h.1 (k + 1) = xa_a 2 pl) (hT2 : h.1 (k + 2) = xa_a 2 lw) (hT3 : h.1 kbr = xa_a nb br) (hT4 : h.1 kam = xa_a na am) (hS0 : h.1 (k + 5) = xa_o 4 [xa_r kb, xa_r (k + 5 + 1), xa_r (k + 5 + 2), xa_i tj, xa_i tb]) (hS1 : h.1 (k + 5 + 1) = xa_a 3 po) (hS2 : h.1 (k + 5 + 2) = xa_a 2 sp) (hB0 : h.1 kb = xa_o 0 [xa_r (kb + 1), xa_r (kb + 2), xa_i 2, xa_i ((jo : Nat) : Int), xa_i wa, xa_i sr, xa_i pu, xa_i ri]) (hB1 : h.1 (kb + 1) = xa_a 9 ld) (hB2 : h.1 (kb + 2) = xa_a 2 dg) : xa_M G mX6_become [xa_r k, xa_i n] h 0 0 (fun r h' => r = none ∧ h'.1 (k + 5 + 1) = xa_a 3 (xa_upf (xa_upf po 0 (n % 3)) 1 ((n / 3) % 3)) ∧ h'.1 (k + 5 + 2) = xa_a 2 (xa_upf (xa_upf sp 0 (((n / 3) / 3) % (max (pl 0) 1) + lw 0)) 1 ((((n / 3) / 3) / (max (pl 0) 1)) % (max (pl 1) 1) + lw 1)) ∧ h'.2 = h.2 ∧ ∀ i, (i ≠ k + 5 + 1 ∧ i ≠ k + 5 + 2) → h'.1 i = h.1 i) := by
  refine xa_enter (by decide +kernel) (Nat.le_of_ble_eq_true rfl) ?_
  refine xa_locals (ls' := [some (xa_r k), some (xa_i n), none, none, none]) rfl ?_
  have hn : h.2 = h.2 := rfl
  have fr : ∀ i, (i ≠ k + 5 + 1 ∧ i ≠ k + 5 + 2) → h.1 i = h.1 i := fun _ _ => rfl
  have p0 := hpl 0
  have p1 := hpl 1
  refine xa_iload_n (pc := 0) dX6_become_0 rfl ?_
  refine xa_istoren (pc := 1) [some (xa_r k), some (xa_i n), some (xa_i n), none, none] dX6_become_1 (by decide) (Nat.le_of_ble_eq_true rfl) rfl rfl ?_
  refine xa_iconst (pc := 2) dX6_become_2 ?_
  refine xa_istoren (pc := 3) [some (xa_r k), some (xa_i n), some (xa_i n), some (xa_i 0), none] dX6_become_3 (by decide) (Nat.le_of_ble_eq_true rfl) rfl rfl ?_
  refine xa_iload_n (pc := 4) dX6_become_4 rfl ?_
  refine xa_aload_n (pc := 5) dX6_become_5 rfl ?_
  refine xa_getfield (pc := 6) dX6_become_6 flRX6_24 (by omega) (by omega) hT0 rfl ?_
  refine xa_getfield (pc := 9) dX6_become_9 flRX6_41 (by omega) (by omega) hB0 rfl ?_
  refine xa_icmp_ge (pc := 12) (tgt := 36) dX6_become_12 (by decide) (by decide) (by decide) (fun c_12 => ?_) (fun c_12 => ?_)
  · skip
    exfalso; omega
  · skip
    refine xa_aload_n (pc := 15) dX6_become_15 rfl ?_
    refine xa_getfield (pc := 16) dX6_become_16 flRX6_37 (by omega) (by omega) hT0 rfl ?_
    refine xa_iload_n (pc := 19) dX6_become_19 rfl ?_
    refine xa_iload_n (pc := 20) dX6_become_20 rfl ?_
    refine xa_iconst (pc := 21) dX6_become_21 ?_
    refine xa_iremn (pc := 22) dX6_become_22 ⟨by omega, by omega⟩ (by decide) (by omega) (by omega) ?_
    refine xa_callV (pc := 23) (as := [xa_i 0, xa_i (n % 3)]) (rest := []) dX6_become_23 ⟨qX4_takePose.1, qX4_takePose.2.1, qX4_takePose.2.2, by decide, by decide⟩ lkRX6_74 imX4_takePose seX4_takePose rfl rfl (by omega) (by omega) hS0 rfl (Nat.le_of_ble_eq_true rfl) (Nat.zero_le _) (Nat.zero_le _) (c_takePose _ _ _ _ _ _ 0 (n % 3) 0 rfl ⟨by decide, by decide⟩ (by omega) (by omega) hS0 hS1 hS2) (fun r h' hq => ?_)
    obtain ⟨rfl, hqA, hqn, hqf⟩ := hq
    have hS1 : h'.1 (k + 5 + 1) = xa_a 3 (xa_upf po 0 (n % 3)) := hqA
    have hT0 : h'.1 k = xa_o 6 [xa_r kb, xa_r (k + 5), xa_i sj, xa_r (k + 1), xa_r (k + 2), xa_i ((ns : Nat) : Int), xa_i fs, xa_i lst, xa_r kbr, xa_r kam] := (hqf _ (by omega)).trans hT0
    have hT1 : h'.1 (k + 1) = xa_a 2 pl := (hqf _ (by omega)).trans hT1
    have hT2 : h'.1 (k + 2) = xa_a 2 lw := (hqf _ (by omega)).trans hT2
    have hT3 : h'.1 kbr = xa_a nb br := (hqf _ (by omega)).trans hT3
    have hT4 : h'.1 kam = xa_a na am := (hqf _ (by omega)).trans hT4
    have hS0 : h'.1 (k + 5) = xa_o 4 [xa_r kb, xa_r (k + 5 + 1), xa_r (k + 5 + 2), xa_i tj, xa_i tb] := (hqf _ (by omega)).trans hS0
    have hS2 : h'.1 (k + 5 + 2) = xa_a 2 sp := (hqf _ (by omega)).trans hS2
    have hB0 : h'.1 kb = xa_o 0 [xa_r (kb + 1), xa_r (kb + 2), xa_i 2, xa_i ((jo : Nat) : Int), xa_i wa, xa_i sr, xa_i pu, xa_i ri] := (hqf _ (by omega)).trans hB0
    have hB1 : h'.1 (kb + 1) = xa_a 9 ld := (hqf _ (by omega)).trans hB1
    have hB2 : h'.1 (kb + 2) = xa_a 2 dg := (hqf _ (by omega)).trans hB2
    have hn : h'.2 = h.2 := hqn.trans hn
    have fr : ∀ i, (i ≠ k + 5 + 1 ∧ i ≠ k + 5 + 2) → h'.1 i = h.1 i := fun i hi => (hqf i (by omega)).trans (fr i hi)
    refine xa_iload_n (pc := 26) dX6_become_26 rfl ?_
    refine xa_iconst (pc := 27) dX6_become_27 ?_
    refine xa_idivn (pc := 28) dX6_become_28 ⟨by omega, by omega⟩ (by decide) (by omega) (by omega) ?_
    refine xa_istoren (pc := 29) [some (xa_r k), some (xa_i n), some (xa_i (n / 3)), some (xa_i 0), none] dX6_become_29 (by decide) (Nat.le_of_ble_eq_true rfl) rfl rfl ?_
    refine xa_iincw (pc := 30) (y := 1) [some (xa_r k), some (xa_i n), some (xa_i (n / 3)), some (xa_i 1), none] dX6_become_30 (by decide) rfl rfl rfl rfl ?_
    refine xa_goto (pc := 33) (tgt := 4) dX6_become_33 (by decide) ?_
    refine xa_iload_n (pc := 4) dX6_become_4 rfl ?_
    refine xa_aload_n (pc := 5) dX6_become_5 rfl ?_
    refine xa_getfield (pc := 6) dX6_become_6 flRX6_24 (by omega) (by omega) hT0 rfl ?_
    refine xa_getfield (pc := 9) dX6_become_9 flRX6_41 (by omega) (by omega) hB0 rfl ?_
    refine xa_icmp_ge (pc := 12) (tgt := 36) dX6_become_12 (by decide) (by decide) (by decide) (fun c_12 => ?_) (fun c_12 => ?_)
    · skip
      exfalso; omega
    · skip
      refine xa_aload_n (pc := 15) dX6_become_15 rfl ?_
      refine xa_getfield (pc := 16) dX6_become_16 flRX6_37 (by omega) (by omega) hT0 rfl ?_
      refine xa_iload_n (pc := 19) dX6_become_19 rfl ?_
      refine xa_iload_n (pc := 20) dX6_become_20 rfl ?_
      refine xa_iconst (pc := 21) dX6_become_21 ?_
      refine xa_iremn (pc := 22) dX6_become_22 ⟨by omega, by omega⟩ (by decide) (by omega) (by omega) ?_
      refine xa_callV (pc := 23) (as := [xa_i 1, xa_i ((n / 3) % 3)]) (rest := []) dX6_become_23 ⟨qX4_takePose.1, qX4_takePose.2.1, qX4_takePose.2.2, by decide, by decide⟩ lkRX6_74 imX4_takePose seX4_takePose rfl rfl (by omega) (by omega) hS0 rfl (Nat.le_of_ble_eq_true rfl) (Nat.zero_le _) (Nat.zero_le _) (c_takePose _ _ _ _ _ _ 1 ((n / 3) % 3) 1 rfl ⟨by decide, by decide⟩ (by omega) (by omega) hS0 hS1 hS2) (fun r h' hq => ?_)
      obtain ⟨rfl, hqA, hqn, hqf⟩ := hq
      have hS1 : h'.1 (k + 5 + 1) = xa_a 3 (xa_upf (xa_upf po 0 (n % 3)) 1 ((n / 3) % 3)) := hqA
      have hT0 : h'.1 k = xa_o 6 [xa_r kb, xa_r (k + 5), xa_i sj, xa_r (k + 1), xa_r (k + 2), xa_i ((ns : Nat) : Int), xa_i fs, xa_i lst, xa_r kbr, xa_r kam] := (hqf _ (by omega)).trans hT0
      have hT1 : h'.1 (k + 1) = xa_a 2 pl := (hqf _ (by omega)).trans hT1
      have hT2 : h'.1 (k + 2) = xa_a 2 lw := (hqf _ (by omega)).trans hT2
      have hT3 : h'.1 kbr = xa_a nb br := (hqf _ (by omega)).trans hT3
      have hT4 : h'.1 kam = xa_a na am := (hqf _ (by omega)).trans hT4
      have hS0 : h'.1 (k + 5) = xa_o 4 [xa_r kb, xa_r (k + 5 + 1), xa_r (k + 5 + 2), xa_i tj, xa_i tb] := (hqf _ (by omega)).trans hS0
      have hS2 : h'.1 (k + 5 + 2) = xa_a 2 sp := (hqf _ (by omega)).trans hS2
      have hB0 : h'.1 kb = xa_o 0 [xa_r (kb + 1), xa_r (kb + 2), xa_i 2, xa_i ((jo : Nat) : Int), xa_i wa, xa_i sr, xa_i pu, xa_i ri] := (hqf _ (by omega)).trans hB0
      have hB1 : h'.1 (kb + 1) = xa_a 9 ld := (hqf _ (by omega)).trans hB1
      have hB2 : h'.1 (kb + 2) = xa_a 2 dg := (hqf _ (by omega)).trans hB2
      have hn : h'.2 = h.2 := hqn.trans hn
      have fr : ∀ i, (i ≠ k + 5 + 1 ∧ i ≠ k + 5 + 2) → h'.1 i = h.1 i := fun i hi => (hqf i (by omega)).trans (fr i hi)
      refine xa_iload_n (pc := 26) dX6_become_26 rfl ?_
      refine xa_iconst (pc := 27) dX6_become_27 ?_
      refine xa_idivn (pc := 28) dX6_become_28 ⟨by omega, by omega⟩ (by decide) (by omega) (by omega) ?_
      refine xa_istoren (pc := 29) [some (xa_r k), some (xa_i n), some (xa_i ((n / 3) / 3)), some (xa_i 1), none] dX6_become_29 (by decide) (Nat.le_of_ble_eq_true rfl) rfl rfl ?_
      refine xa_iincw (pc := 30) (y := 2) [some (xa_r k), some (xa_i n), some (xa_i ((n / 3) / 3)), some (xa_i 2), none] dX6_become_30 (by decide) rfl rfl rfl rfl ?_
      refine xa_goto (pc := 33) (tgt := 4) dX6_become_33 (by decide) ?_
      refine xa_iload_n (pc := 4) dX6_become_4 rfl ?_
      refine xa_aload_n (pc := 5) dX6_become_5 rfl ?_
      refine xa_getfield (pc := 6) dX6_become_6 flRX6_24 (by omega) (by omega) hT0 rfl ?_
      refine xa_getfield (pc := 9) dX6_become_9 flRX6_41 (by omega) (by omega) hB0 rfl ?_
      refine xa_icmp_ge (pc := 12) (tgt := 36) dX6_become_12 (by decide) (by decide) (by decide) (fun c_12 => ?_) (fun c_12 => ?_)
      · skip
        refine xa_iconst (pc := 36) dX6_become_36 ?_
        refine xa_istoren (pc := 37) [some (xa_r k), some (xa_i n), some (xa_i ((n / 3) / 3)), some (xa_i 0), none] dX6_become_37 (by decide) (Nat.le_of_ble_eq_true rfl) rfl rfl ?_
        refine xa_iload_n (pc := 38) dX6_become_38 rfl ?_
        refine xa_aload_n (pc := 39) dX6_become_39 rfl ?_
        refine xa_getfield (pc := 40) dX6_become_40 flRX6_9 (by omega) (by omega) hT0 rfl ?_
        refine xa_alen (pc := 43) dX6_become_43 (by omega) hT1 ?_
        refine xa_top (y := 2) rfl ?_
        refine xa_icmp_ge (pc := 44) (tgt := 98) dX6_become_44 (by decide) (by decide) (by decide) (fun c_44 => ?_) (fun c_44 => ?_)
        · skip
          exfalso; omega
        · skip
          refine xa_iload_n (pc := 47) dX6_become_47 rfl ?_
          refine xa_aload_n (pc := 48) dX6_become_48 rfl ?_
          refine xa_getfield (pc := 49) dX6_become_49 flRX6_15 (by omega) (by omega) hT0 rfl ?_
          refine xa_alen (pc := 52) dX6_become_52 (by omega) hT2 ?_
          refine xa_top (y := 2) rfl ?_
          refine xa_icmp_ge (pc := 53) (tgt := 98) dX6_become_53 (by decide) (by decide) (by decide) (fun c_53 => ?_) (fun c_53 => ?_)
          · skip
            exfalso; omega
          · skip
            refine xa_aload_n (pc := 56) dX6_become_56 rfl ?_
            refine xa_getfield (pc := 57) dX6_become_57 flRX6_9 (by omega) (by omega) hT0 rfl ?_
            refine xa_iload_n (pc := 60) dX6_become_60 rfl ?_
            refine xa_ialdw (pc := 61) 0 dX6_become_61 (by omega) hT1 (by omega) (by omega) rfl ?_
            refine xa_iconst (pc := 62) dX6_become_62 ?_
            refine xa_callS (pc := 63) (as := [xa_i (pl 0), xa_i 1]) (rest := []) dX6_become_63 ⟨qJ9_max_7cf53.1, qJ9_max_7cf53.2.1, qJ9_max_7cf53.2.2, by decide, by decide⟩ lkRX6_56 smJ9_max_7cf53 rfl rfl (Nat.le_of_ble_eq_true rfl) (Nat.zero_le _) (Nat.zero_le _) (c_max _ _ ⟨by omega, by omega⟩ (by decide)) (fun r h' hq => ?_)
            obtain ⟨rfl, hq⟩ := hq
            have hq := hq.symm
            subst hq
            refine xa_istorew (pc := 66) [some (xa_r k), some (xa_i n), some (xa_i ((n / 3) / 3)), some (xa_i 0), some (xa_i (max (pl 0) 1))] dX6_become_66 (by decide) (Nat.le_of_ble_eq_true rfl) rfl rfl ?_
            refine xa_aload_n (pc := 68) dX6_become_68 rfl ?_
            refine xa_getfield (pc := 69) dX6_become_69 flRX6_37 (by omega) (by omega) hT0 rfl ?_
            refine xa_iload_n (pc := 72) dX6_become_72 rfl ?_
            refine xa_iload_n (pc := 73) dX6_become_73 rfl ?_
            have q0 := sp_dv (x := (n / 3) / 3) (y := (max (pl 0) 1)) (by omega) (by omega)
            refine xa_iload (pc := 74) dX6_become_74 rfl ?_
            refine xa_iremn (pc := 76) dX6_become_76 ⟨by omega, by omega⟩ ⟨by omega, by omega⟩ (by omega) (by omega) ?_
            refine xa_aload_n (pc := 77) dX6_become_77 rfl ?_
            refine xa_getfield (pc := 78) dX6_become_78 flRX6_15 (by omega) (by omega) hT0 rfl ?_
            refine xa_iload_n (pc := 81) dX6_become_81 rfl ?_
            refine xa_ialdw (pc := 82) 0 dX6_become_82 (by omega) hT2 (by omega) (by omega) rfl ?_
            refine xa_iadd (pc := 83) dX6_become_83 ?_
            refine xa_callV (pc := 84) (as := [xa_i 0, xa_i ((((n / 3) / 3) % (max (pl 0) 1)) + (lw 0))]) (rest := []) dX6_become_84 ⟨qX4_takeSteps.1, qX4_takeSteps.2.1, qX4_takeSteps.2.2, by decide, by decide⟩ lkRX6_97 imX4_takeSteps seX4_takeSteps rfl rfl (by omega) (by omega) hS0 rfl (Nat.le_of_ble_eq_true rfl) (Nat.zero_le _) (Nat.zero_le _) (c_takeSteps _ _ _ _ _ _ 0 ((((n / 3) / 3) % (max (pl 0) 1)) + (lw 0)) 0 rfl ⟨by decide, by decide⟩ (by omega) (by omega) hS0 hS1 hS2) (fun r h' hq => ?_)
            obtain ⟨rfl, hqA, hqn, hqf⟩ := hq
            have hS2 : h'.1 (k + 5 + 2) = xa_a 2 (xa_upf sp 0 ((((n / 3) / 3) % (max (pl 0) 1)) + (lw 0))) := hqA
            have hT0 : h'.1 k = xa_o 6 [xa_r kb, xa_r (k + 5), xa_i sj, xa_r (k + 1), xa_r (k + 2), xa_i ((ns : Nat) : Int), xa_i fs, xa_i lst, xa_r kbr, xa_r kam] := (hqf _ (by omega)).trans hT0
            have hT1 : h'.1 (k + 1) = xa_a 2 pl := (hqf _ (by omega)).trans hT1
            have hT2 : h'.1 (k + 2) = xa_a 2 lw := (hqf _ (by omega)).trans hT2
            have hT3 : h'.1 kbr = xa_a nb br := (hqf _ (by omega)).trans hT3
            have hT4 : h'.1 kam = xa_a na am := (hqf _ (by omega)).trans hT4
            have hS0 : h'.1 (k + 5) = xa_o 4 [xa_r kb, xa_r (k + 5 + 1), xa_r (k + 5 + 2), xa_i tj, xa_i tb] := (hqf _ (by omega)).trans hS0
            have hS1 : h'.1 (k + 5 + 1) = xa_a 3 (xa_upf (xa_upf po 0 (n % 3)) 1 ((n / 3) % 3)) := (hqf _ (by omega)).trans hS1
            have hB0 : h'.1 kb = xa_o 0 [xa_r (kb + 1), xa_r (kb + 2), xa_i 2, xa_i ((jo : Nat) : Int), xa_i wa, xa_i sr, xa_i pu, xa_i ri] := (hqf _ (by omega)).trans hB0
            have hB1 : h'.1 (kb + 1) = xa_a 9 ld := (hqf _ (by omega)).trans hB1
            have hB2 : h'.1 (kb + 2) = xa_a 2 dg := (hqf _ (by omega)).trans hB2
            have hn : h'.2 = h.2 := hqn.trans hn
            have fr : ∀ i, (i ≠ k + 5 + 1 ∧ i ≠ k + 5 + 2) → h'.1 i = h.1 i := fun i hi => (hqf i (by omega)).trans (fr i hi)
            refine xa_iload_n (pc := 87) dX6_become_87 rfl ?_
            refine xa_iload (pc := 88) dX6_become_88 rfl ?_
            refine xa_idivn (pc := 90) dX6_become_90 ⟨by omega, by omega⟩ ⟨by omega, by omega⟩ (by omega) (by omega) ?_
            refine xa_istoren (pc := 91) [some (xa_r k), some (xa_i n), some (xa_i (((n / 3) / 3) / (max (pl 0) 1))), some (xa_i 0), some (xa_i (max (pl 0) 1))] dX6_become_91 (by decide) (Nat.le_of_ble_eq_true rfl) rfl rfl ?_
            refine xa_iincw (pc := 92) (y := 1) [some (xa_r k), some (xa_i n), some (xa_i (((n / 3) / 3) / (max (pl 0) 1))), some (xa_i 1), some (xa_i (max (pl 0) 1))] dX6_become_92 (by decide) rfl rfl rfl rfl ?_
            refine xa_goto (pc := 95) (tgt := 38) dX6_become_95 (by decide) ?_
            refine xa_iload_n (pc := 38) dX6_become_38 rfl ?_
            refine xa_aload_n (pc := 39) dX6_become_39 rfl ?_
            refine xa_getfield (pc := 40) dX6_become_40 flRX6_9 (by omega) (by omega) hT0 rfl ?_
            refine xa_alen (pc := 43) dX6_become_43 (by omega) hT1 ?_
            refine xa_top (y := 2) rfl ?_
            refine xa_icmp_ge (pc := 44) (tgt := 98) dX6_become_44 (by decide) (by decide) (by decide) (fun c_44 => ?_) (fun c_44 => ?_)
            · skip
              exfalso; omega
            · skip
              refine xa_iload_n (pc := 47) dX6_become_47 rfl ?_
              refine xa_aload_n (pc := 48) dX6_become_48 rfl ?_
              refine xa_getfield (pc := 49) dX6_become_49 flRX6_15 (by omega) (by omega) hT0 rfl ?_
              refine xa_alen (pc := 52) dX6_become_52 (by omega) hT2 ?_
              refine xa_top (y := 2) rfl ?_
              refine xa_icmp_ge (pc := 53) (tgt := 98) dX6_become_53 (by decide) (by decide) (by decide) (fun c_53 => ?_) (fun c_53 => ?_)
              · skip
                exfalso; omega
              · skip
                refine xa_aload_n (pc := 56) dX6_become_56 rfl ?_
                refine xa_getfield (pc := 57) dX6_become_57 flRX6_9 (by omega) (by omega) hT0 rfl ?_
                refine xa_iload_n (pc := 60) dX6_become_60 rfl ?_
                refine xa_ialdw (pc := 61) 1 dX6_become_61 (by omega) hT1 (by omega) (by omega) rfl ?_
                refine xa_iconst (pc := 62) dX6_become_62 ?_
                refine xa_callS (pc := 63) (as := [xa_i (pl 1), xa_i 1]) (rest := []) dX6_become_63 ⟨qJ9_max_7cf53.1, qJ9_max_7cf53.2.1, qJ9_max_7cf53.2.2, by decide, by decide⟩ lkRX6_56 smJ9_max_7cf53 rfl rfl (Nat.le_of_ble_eq_true rfl) (Nat.zero_le _) (Nat.zero_le _) (c_max _ _ ⟨by omega, by omega⟩ (by decide)) (fun r h' hq => ?_)
                obtain ⟨rfl, hq⟩ := hq
                have hq := hq.symm
                subst hq
                refine xa_istorew (pc := 66) [some (xa_r k), some (xa_i n), some (xa_i (((n / 3) / 3) / (max (pl 0) 1))), some (xa_i 1), some (xa_i (max (pl 1) 1))] dX6_become_66 (by decide) (Nat.le_of_ble_eq_true rfl) rfl rfl ?_
                refine xa_aload_n (pc := 68) dX6_become_68 rfl ?_
                refine xa_getfield (pc := 69) dX6_become_69 flRX6_37 (by omega) (by omega) hT0 rfl ?_
                refine xa_iload_n (pc := 72) dX6_become_72 rfl ?_
                refine xa_iload_n (pc := 73) dX6_become_73 rfl ?_
                have q1 := sp_dv (x := ((n / 3) / 3) / (max (pl 0) 1)) (y := (max (pl 1) 1)) (by omega) (by omega)
                refine xa_iload (pc := 74) dX6_become_74 rfl ?_
                refine xa_iremn (pc := 76) dX6_become_76 ⟨by omega, by omega⟩ ⟨by omega, by omega⟩ (by omega) (by omega) ?_
                refine xa_aload_n (pc := 77) dX6_become_77 rfl ?_
                refine xa_getfield (pc := 78) dX6_become_78 flRX6_15 (by omega) (by omega) hT0 rfl ?_
                refine xa_iload_n (pc := 81) dX6_become_81 rfl ?_
                refine xa_ialdw (pc := 82) 1 dX6_become_82 (by omega) hT2 (by omega) (by omega) rfl ?_
                refine xa_iadd (pc := 83) dX6_become_83 ?_
                refine xa_callV (pc := 84) (as := [xa_i 1, xa_i (((((n / 3) / 3) / (max (pl 0) 1)) % (max (pl 1) 1)) + (lw 1))]) (rest := []) dX6_become_84 ⟨qX4_takeSteps.1, qX4_takeSteps.2.1, qX4_takeSteps.2.2, by decide, by decide⟩ lkRX6_97 imX4_takeSteps seX4_takeSteps rfl rfl (by omega) (by omega) hS0 rfl (Nat.le_of_ble_eq_true rfl) (Nat.zero_le _) (Nat.zero_le _) (c_takeSteps _ _ _ _ _ _ 1 (((((n / 3) / 3) / (max (pl 0) 1)) % (max (pl 1) 1)) + (lw 1)) 1 rfl ⟨by decide, by decide⟩ (by omega) (by omega) hS0 hS1 hS2) (fun r h' hq => ?_)
                obtain ⟨rfl, hqA, hqn, hqf⟩ := hq
                have hS2 : h'.1 (k + 5 + 2) = xa_a 2 (xa_upf (xa_upf sp 0 ((((n / 3) / 3) % (max (pl 0) 1)) + (lw 0))) 1 (((((n / 3) / 3) / (max (pl 0) 1)) % (max (pl 1) 1)) + (lw 1))) := hqA
                have hT0 : h'.1 k = xa_o 6 [xa_r kb, xa_r (k + 5), xa_i sj, xa_r (k + 1), xa_r (k + 2), xa_i ((ns : Nat) : Int), xa_i fs, xa_i lst, xa_r kbr, xa_r kam] := (hqf _ (by omega)).trans hT0
                have hT1 : h'.1 (k + 1) = xa_a 2 pl := (hqf _ (by omega)).trans hT1
                have hT2 : h'.1 (k + 2) = xa_a 2 lw := (hqf _ (by omega)).trans hT2
                have hT3 : h'.1 kbr = xa_a nb br := (hqf _ (by omega)).trans hT3
                have hT4 : h'.1 kam = xa_a na am := (hqf _ (by omega)).trans hT4
                have hS0 : h'.1 (k + 5) = xa_o 4 [xa_r kb, xa_r (k + 5 + 1), xa_r (k + 5 + 2), xa_i tj, xa_i tb] := (hqf _ (by omega)).trans hS0
                have hS1 : h'.1 (k + 5 + 1) = xa_a 3 (xa_upf (xa_upf po 0 (n % 3)) 1 ((n / 3) % 3)) := (hqf _ (by omega)).trans hS1
                have hB0 : h'.1 kb = xa_o 0 [xa_r (kb + 1), xa_r (kb + 2), xa_i 2, xa_i ((jo : Nat) : Int), xa_i wa, xa_i sr, xa_i pu, xa_i ri] := (hqf _ (by omega)).trans hB0
                have hB1 : h'.1 (kb + 1) = xa_a 9 ld := (hqf _ (by omega)).trans hB1
                have hB2 : h'.1 (kb + 2) = xa_a 2 dg := (hqf _ (by omega)).trans hB2
                have hn : h'.2 = h.2 := hqn.trans hn
                have fr : ∀ i, (i ≠ k + 5 + 1 ∧ i ≠ k + 5 + 2) → h'.1 i = h.1 i := fun i hi => (hqf i (by omega)).trans (fr i hi)
                refine xa_iload_n (pc := 87) dX6_become_87 rfl ?_
                refine xa_iload (pc := 88) dX6_become_88 rfl ?_
                refine xa_idivn (pc := 90) dX6_become_90 ⟨by omega, by omega⟩ ⟨by omega, by omega⟩ (by omega) (by omega) ?_
                refine xa_istoren (pc := 91) [some (xa_r k), some (xa_i n), some (xa_i ((((n / 3) / 3) / (max (pl 0) 1)) / (max (pl 1) 1))), some (xa_i 1), some (xa_i (max (pl 1) 1))] dX6_become_91 (by decide) (Nat.le_of_ble_eq_true rfl) rfl rfl ?_
                refine xa_iincw (pc := 92) (y := 2) [some (xa_r k), some (xa_i n), some (xa_i ((((n / 3) / 3) / (max (pl 0) 1)) / (max (pl 1) 1))), some (xa_i 2), some (xa_i (max (pl 1) 1))] dX6_become_92 (by decide) rfl rfl rfl rfl ?_
                refine xa_goto (pc := 95) (tgt := 38) dX6_become_95 (by decide) ?_
                refine xa_iload_n (pc := 38) dX6_become_38 rfl ?_
                refine xa_aload_n (pc := 39) dX6_become_39 rfl ?_
                refine xa_getfield (pc := 40) dX6_become_40 flRX6_9 (by omega) (by omega) hT0 rfl ?_
                refine xa_alen (pc := 43) dX6_become_43 (by omega) hT1 ?_
                refine xa_top (y := 2) rfl ?_
                refine xa_icmp_ge (pc := 44) (tgt := 98) dX6_become_44 (by decide) (by decide) (by decide) (fun c_44 => ?_) (fun c_44 => ?_)
                · skip
                  refine xa_return (pc := 98) dX6_become_98 rfl ?_
                  exact ⟨rfl, hS1, hS2, hn, fr⟩
                · skip
                  exfalso; omega
      · skip
        exfalso; omega
theorem c_become3 {G : xa_G} {h : xa_H} (k kb kbr kam : Nat) (sj : Int) (pl lw br am : Nat → Int) (nb na ns : Nat) (fs lst : Int) (po sp : Nat → Int) (tj tb : Int) (ld dg : Nat → Int) (jo : Nat) (wa sr pu ri : Int) (hk : 2 ≤ k) (hkn : k + 7 < h.2) (hkb : 2 ≤ kb) (hkk : kb + 3 ≤ k) (hkbr : k + 8 ≤ kbr ∨ kbr = k + 3) (hkbr2 : kbr < h.2) (hkam : k + 8 ≤ kam ∨ kam = k + 4) (hkam2 : kam < h.2) (n : Int) (hn : 0 ≤ n ∧ n ≤ 4000000) (hpl : ∀ i, 0 ≤ pl i ∧ pl i ≤ 12) (hT0 : h.1 k = xa_o 6 [xa_r kb, xa_r (k + 5), xa_i sj, xa_r (k + 1), xa_r (k + 2), xa_i ((ns : Nat) : Int), xa_i fs, xa_i lst, xa_r kbr, xa_r kam]) (hT1 : h.1 (k + 1) = xa_a 2 pl) (hT2 : h.1 (k + 2) = xa_a 2 lw) (hT3 : h.1 kbr = xa_a nb br) (hT4 : h.1 kam = xa_a na am) (hS0 : h.1 (k + 5) = xa_o 4 [xa_r kb, xa_r (k + 5 + 1), xa_r (k + 5 + 2), xa_i tj, xa_i tb]) (hS1 : h.1 (k + 5 + 1) = xa_a 3 po) (hS2 : h.1 (k + 5 + 2) = xa_a 2 sp) (hB0 : h.1 kb = xa_o 0 [xa_r (kb + 1), xa_r (kb + 2), xa_i 3, xa_i ((jo : Nat) : Int), xa_i wa, xa_i sr, xa_i pu, xa_i ri]) (hB1 : h.1 (kb + 1) = xa_a 9 ld) (hB2 : h.1 (kb + 2) = xa_a 2 dg) : xa_M G mX6_become [xa_r k, xa_i n] h 0 0 (fun r h' => r = none ∧ h'.1 (k + 5 + 1) = xa_a 3 (xa_upf (xa_upf (xa_upf po 0 (n % 3)) 1 ((n / 3) % 3)) 2 (((n / 3) / 3) % 3)) ∧ h'.1 (k + 5 + 2) = xa_a 2 (xa_upf (xa_upf sp 0 ((((n / 3) / 3) / 3) % (max (pl 0) 1) + lw 0)) 1 (((((n / 3) / 3) / 3) / (max (pl 0) 1)) % (max (pl 1) 1) + lw 1)) ∧ h'.2 = h.2 ∧ ∀ i, (i ≠ k + 5 + 1 ∧ i ≠ k + 5 + 2) → h'.1 i = h.1 i) := by
  refine xa_enter (by decide +kernel) (Nat.le_of_ble_eq_true rfl) ?_
  refine xa_locals (ls' := [some (xa_r k), some (xa_i n), none, none, none]) rfl ?_
  have hn : h.2 = h.2 := rfl
  have fr : ∀ i, (i ≠ k + 5 + 1 ∧ i ≠ k + 5 + 2) → h.1 i = h.1 i := fun _ _ => rfl
  have p0 := hpl 0
  have p1 := hpl 1
  refine xa_iload_n (pc := 0) dX6_become_0 rfl ?_
  refine xa_istoren (pc := 1) [some (xa_r k), some (xa_i n), some (xa_i n), none, none] dX6_become_1 (by decide) (Nat.le_of_ble_eq_true rfl) rfl rfl ?_
  refine xa_iconst (pc := 2) dX6_become_2 ?_
  refine xa_istoren (pc := 3) [some (xa_r k), some (xa_i n), some (xa_i n), some (xa_i 0), none] dX6_become_3 (by decide) (Nat.le_of_ble_eq_true rfl) rfl rfl ?_
  refine xa_iload_n (pc := 4) dX6_become_4 rfl ?_
  refine xa_aload_n (pc := 5) dX6_become_5 rfl ?_
  refine xa_getfield (pc := 6) dX6_become_6 flRX6_24 (by omega) (by omega) hT0 rfl ?_
  refine xa_getfield (pc := 9) dX6_become_9 flRX6_41 (by omega) (by omega) hB0 rfl ?_
  refine xa_icmp_ge (pc := 12) (tgt := 36) dX6_become_12 (by decide) (by decide) (by decide) (fun c_12 => ?_) (fun c_12 => ?_)
  · skip
    exfalso; omega
  · skip
    refine xa_aload_n (pc := 15) dX6_become_15 rfl ?_
    refine xa_getfield (pc := 16) dX6_become_16 flRX6_37 (by omega) (by omega) hT0 rfl ?_
    refine xa_iload_n (pc := 19) dX6_become_19 rfl ?_
    refine xa_iload_n (pc := 20) dX6_become_20 rfl ?_
    refine xa_iconst (pc := 21) dX6_become_21 ?_
    refine xa_iremn (pc := 22) dX6_become_22 ⟨by omega, by omega⟩ (by decide) (by omega) (by omega) ?_
    refine xa_callV (pc := 23) (as := [xa_i 0, xa_i (n % 3)]) (rest := []) dX6_become_23 ⟨qX4_takePose.1, qX4_takePose.2.1, qX4_takePose.2.2, by decide, by decide⟩ lkRX6_74 imX4_takePose seX4_takePose rfl rfl (by omega) (by omega) hS0 rfl (Nat.le_of_ble_eq_true rfl) (Nat.zero_le _) (Nat.zero_le _) (c_takePose _ _ _ _ _ _ 0 (n % 3) 0 rfl ⟨by decide, by decide⟩ (by omega) (by omega) hS0 hS1 hS2) (fun r h' hq => ?_)
    obtain ⟨rfl, hqA, hqn, hqf⟩ := hq
    have hS1 : h'.1 (k + 5 + 1) = xa_a 3 (xa_upf po 0 (n % 3)) := hqA
    have hT0 : h'.1 k = xa_o 6 [xa_r kb, xa_r (k + 5), xa_i sj, xa_r (k + 1), xa_r (k + 2), xa_i ((ns : Nat) : Int), xa_i fs, xa_i lst, xa_r kbr, xa_r kam] := (hqf _ (by omega)).trans hT0
    have hT1 : h'.1 (k + 1) = xa_a 2 pl := (hqf _ (by omega)).trans hT1
    have hT2 : h'.1 (k + 2) = xa_a 2 lw := (hqf _ (by omega)).trans hT2
    have hT3 : h'.1 kbr = xa_a nb br := (hqf _ (by omega)).trans hT3
    have hT4 : h'.1 kam = xa_a na am := (hqf _ (by omega)).trans hT4
    have hS0 : h'.1 (k + 5) = xa_o 4 [xa_r kb, xa_r (k + 5 + 1), xa_r (k + 5 + 2), xa_i tj, xa_i tb] := (hqf _ (by omega)).trans hS0
    have hS2 : h'.1 (k + 5 + 2) = xa_a 2 sp := (hqf _ (by omega)).trans hS2
    have hB0 : h'.1 kb = xa_o 0 [xa_r (kb + 1), xa_r (kb + 2), xa_i 3, xa_i ((jo : Nat) : Int), xa_i wa, xa_i sr, xa_i pu, xa_i ri] := (hqf _ (by omega)).trans hB0
    have hB1 : h'.1 (kb + 1) = xa_a 9 ld := (hqf _ (by omega)).trans hB1
    have hB2 : h'.1 (kb + 2) = xa_a 2 dg := (hqf _ (by omega)).trans hB2
    have hn : h'.2 = h.2 := hqn.trans hn
    have fr : ∀ i, (i ≠ k + 5 + 1 ∧ i ≠ k + 5 + 2) → h'.1 i = h.1 i := fun i hi => (hqf i (by omega)).trans (fr i hi)
    refine xa_iload_n (pc := 26) dX6_become_26 rfl ?_
    refine xa_iconst (pc := 27) dX6_become_27 ?_
    refine xa_idivn (pc := 28) dX6_become_28 ⟨by omega, by omega⟩ (by decide) (by omega) (by omega) ?_
    refine xa_istoren (pc := 29) [some (xa_r k), some (xa_i n), some (xa_i (n / 3)), some (xa_i 0), none] dX6_become_29 (by decide) (Nat.le_of_ble_eq_true rfl) rfl rfl ?_
    refine xa_iincw (pc := 30) (y := 1) [some (xa_r k), some (xa_i n), some (xa_i (n / 3)), some (xa_i 1), none] dX6_become_30 (by decide) rfl rfl rfl rfl ?_
    refine xa_goto (pc := 33) (tgt := 4) dX6_become_33 (by decide) ?_
    refine xa_iload_n (pc := 4) dX6_become_4 rfl ?_
    refine xa_aload_n (pc := 5) dX6_become_5 rfl ?_
    refine xa_getfield (pc := 6) dX6_become_6 flRX6_24 (by omega) (by omega) hT0 rfl ?_
    refine xa_getfield (pc := 9) dX6_become_9 flRX6_41 (by omega) (by omega) hB0 rfl ?_
    refine xa_icmp_ge (pc := 12) (tgt := 36) dX6_become_12 (by decide) (by decide) (by decide) (fun c_12 => ?_) (fun c_12 => ?_)
    · skip
      exfalso; omega
    · skip
      refine xa_aload_n (pc := 15) dX6_become_15 rfl ?_
      refine xa_getfield (pc := 16) dX6_become_16 flRX6_37 (by omega) (by omega) hT0 rfl ?_
      refine xa_iload_n (pc := 19) dX6_become_19 rfl ?_
      refine xa_iload_n (pc := 20) dX6_become_20 rfl ?_
      refine xa_iconst (pc := 21) dX6_become_21 ?_
      refine xa_iremn (pc := 22) dX6_become_22 ⟨by omega, by omega⟩ (by decide) (by omega) (by omega) ?_
      refine xa_callV (pc := 23) (as := [xa_i 1, xa_i ((n / 3) % 3)]) (rest := []) dX6_become_23 ⟨qX4_takePose.1, qX4_takePose.2.1, qX4_takePose.2.2, by decide, by decide⟩ lkRX6_74 imX4_takePose seX4_takePose rfl rfl (by omega) (by omega) hS0 rfl (Nat.le_of_ble_eq_true rfl) (Nat.zero_le _) (Nat.zero_le _) (c_takePose _ _ _ _ _ _ 1 ((n / 3) % 3) 1 rfl ⟨by decide, by decide⟩ (by omega) (by omega) hS0 hS1 hS2) (fun r h' hq => ?_)
      obtain ⟨rfl, hqA, hqn, hqf⟩ := hq
      have hS1 : h'.1 (k + 5 + 1) = xa_a 3 (xa_upf (xa_upf po 0 (n % 3)) 1 ((n / 3) % 3)) := hqA
      have hT0 : h'.1 k = xa_o 6 [xa_r kb, xa_r (k + 5), xa_i sj, xa_r (k + 1), xa_r (k + 2), xa_i ((ns : Nat) : Int), xa_i fs, xa_i lst, xa_r kbr, xa_r kam] := (hqf _ (by omega)).trans hT0
      have hT1 : h'.1 (k + 1) = xa_a 2 pl := (hqf _ (by omega)).trans hT1
      have hT2 : h'.1 (k + 2) = xa_a 2 lw := (hqf _ (by omega)).trans hT2
      have hT3 : h'.1 kbr = xa_a nb br := (hqf _ (by omega)).trans hT3
      have hT4 : h'.1 kam = xa_a na am := (hqf _ (by omega)).trans hT4
      have hS0 : h'.1 (k + 5) = xa_o 4 [xa_r kb, xa_r (k + 5 + 1), xa_r (k + 5 + 2), xa_i tj, xa_i tb] := (hqf _ (by omega)).trans hS0
      have hS2 : h'.1 (k + 5 + 2) = xa_a 2 sp := (hqf _ (by omega)).trans hS2
      have hB0 : h'.1 kb = xa_o 0 [xa_r (kb + 1), xa_r (kb + 2), xa_i 3, xa_i ((jo : Nat) : Int), xa_i wa, xa_i sr, xa_i pu, xa_i ri] := (hqf _ (by omega)).trans hB0
      have hB1 : h'.1 (kb + 1) = xa_a 9 ld := (hqf _ (by omega)).trans hB1
      have hB2 : h'.1 (kb + 2) = xa_a 2 dg := (hqf _ (by omega)).trans hB2
      have hn : h'.2 = h.2 := hqn.trans hn
      have fr : ∀ i, (i ≠ k + 5 + 1 ∧ i ≠ k + 5 + 2) → h'.1 i = h.1 i := fun i hi => (hqf i (by omega)).trans (fr i hi)
      refine xa_iload_n (pc := 26) dX6_become_26 rfl ?_
      refine xa_iconst (pc := 27) dX6_become_27 ?_
      refine xa_idivn (pc := 28) dX6_become_28 ⟨by omega, by omega⟩ (by decide) (by omega) (by omega) ?_
      refine xa_istoren (pc := 29) [some (xa_r k), some (xa_i n), some (xa_i ((n / 3) / 3)), some (xa_i 1), none] dX6_become_29 (by decide) (Nat.le_of_ble_eq_true rfl) rfl rfl ?_
      refine xa_iincw (pc := 30) (y := 2) [some (xa_r k), some (xa_i n), some (xa_i ((n / 3) / 3)), some (xa_i 2), none] dX6_become_30 (by decide) rfl rfl rfl rfl ?_
      refine xa_goto (pc := 33) (tgt := 4) dX6_become_33 (by decide) ?_
      refine xa_iload_n (pc := 4) dX6_become_4 rfl ?_
      refine xa_aload_n (pc := 5) dX6_become_5 rfl ?_
      refine xa_getfield (pc := 6) dX6_become_6 flRX6_24 (by omega) (by omega) hT0 rfl ?_
      refine xa_getfield (pc := 9) dX6_become_9 flRX6_41 (by omega) (by omega) hB0 rfl ?_
      refine xa_icmp_ge (pc := 12) (tgt := 36) dX6_become_12 (by decide) (by decide) (by decide) (fun c_12 => ?_) (fun c_12 => ?_)
      · skip
        exfalso; omega
      · skip
        refine xa_aload_n (pc := 15) dX6_become_15 rfl ?_
        refine xa_getfield (pc := 16) dX6_become_16 flRX6_37 (by omega) (by omega) hT0 rfl ?_
        refine xa_iload_n (pc := 19) dX6_become_19 rfl ?_
        refine xa_iload_n (pc := 20) dX6_become_20 rfl ?_
        refine xa_iconst (pc := 21) dX6_become_21 ?_
        refine xa_iremn (pc := 22) dX6_become_22 ⟨by omega, by omega⟩ (by decide) (by omega) (by omega) ?_
        refine xa_callV (pc := 23) (as := [xa_i 2, xa_i (((n / 3) / 3) % 3)]) (rest := []) dX6_become_23 ⟨qX4_takePose.1, qX4_takePose.2.1, qX4_takePose.2.2, by decide, by decide⟩ lkRX6_74 imX4_takePose seX4_takePose rfl rfl (by omega) (by omega) hS0 rfl (Nat.le_of_ble_eq_true rfl) (Nat.zero_le _) (Nat.zero_le _) (c_takePose _ _ _ _ _ _ 2 (((n / 3) / 3) % 3) 2 rfl ⟨by decide, by decide⟩ (by omega) (by omega) hS0 hS1 hS2) (fun r h' hq => ?_)
        obtain ⟨rfl, hqA, hqn, hqf⟩ := hq
        have hS1 : h'.1 (k + 5 + 1) = xa_a 3 (xa_upf (xa_upf (xa_upf po 0 (n % 3)) 1 ((n / 3) % 3)) 2 (((n / 3) / 3) % 3)) := hqA
        have hT0 : h'.1 k = xa_o 6 [xa_r kb, xa_r (k + 5), xa_i sj, xa_r (k + 1), xa_r (k + 2), xa_i ((ns : Nat) : Int), xa_i fs, xa_i lst, xa_r kbr, xa_r kam] := (hqf _ (by omega)).trans hT0
        have hT1 : h'.1 (k + 1) = xa_a 2 pl := (hqf _ (by omega)).trans hT1
        have hT2 : h'.1 (k + 2) = xa_a 2 lw := (hqf _ (by omega)).trans hT2
        have hT3 : h'.1 kbr = xa_a nb br := (hqf _ (by omega)).trans hT3
        have hT4 : h'.1 kam = xa_a na am := (hqf _ (by omega)).trans hT4
        have hS0 : h'.1 (k + 5) = xa_o 4 [xa_r kb, xa_r (k + 5 + 1), xa_r (k + 5 + 2), xa_i tj, xa_i tb] := (hqf _ (by omega)).trans hS0
        have hS2 : h'.1 (k + 5 + 2) = xa_a 2 sp := (hqf _ (by omega)).trans hS2
        have hB0 : h'.1 kb = xa_o 0 [xa_r (kb + 1), xa_r (kb + 2), xa_i 3, xa_i ((jo : Nat) : Int), xa_i wa, xa_i sr, xa_i pu, xa_i ri] := (hqf _ (by omega)).trans hB0
        have hB1 : h'.1 (kb + 1) = xa_a 9 ld := (hqf _ (by omega)).trans hB1
        have hB2 : h'.1 (kb + 2) = xa_a 2 dg := (hqf _ (by omega)).trans hB2
        have hn : h'.2 = h.2 := hqn.trans hn
        have fr : ∀ i, (i ≠ k + 5 + 1 ∧ i ≠ k + 5 + 2) → h'.1 i = h.1 i := fun i hi => (hqf i (by omega)).trans (fr i hi)
        refine xa_iload_n (pc := 26) dX6_become_26 rfl ?_
        refine xa_iconst (pc := 27) dX6_become_27 ?_
        refine xa_idivn (pc := 28) dX6_become_28 ⟨by omega, by omega⟩ (by decide) (by omega) (by omega) ?_
        refine xa_istoren (pc := 29) [some (xa_r k), some (xa_i n), some (xa_i (((n / 3) / 3) / 3)), some (xa_i 2), none] dX6_become_29 (by decide) (Nat.le_of_ble_eq_true rfl) rfl rfl ?_
        refine xa_iincw (pc := 30) (y := 3) [some (xa_r k), some (xa_i n), some (xa_i (((n / 3) / 3) / 3)), some (xa_i 3), none] dX6_become_30 (by decide) rfl rfl rfl rfl ?_
        refine xa_goto (pc := 33) (tgt := 4) dX6_become_33 (by decide) ?_
        refine xa_iload_n (pc := 4) dX6_become_4 rfl ?_
        refine xa_aload_n (pc := 5) dX6_become_5 rfl ?_
        refine xa_getfield (pc := 6) dX6_become_6 flRX6_24 (by omega) (by omega) hT0 rfl ?_
        refine xa_getfield (pc := 9) dX6_become_9 flRX6_41 (by omega) (by omega) hB0 rfl ?_
        refine xa_icmp_ge (pc := 12) (tgt := 36) dX6_become_12 (by decide) (by decide) (by decide) (fun c_12 => ?_) (fun c_12 => ?_)
        · skip
          refine xa_iconst (pc := 36) dX6_become_36 ?_
          refine xa_istoren (pc := 37) [some (xa_r k), some (xa_i n), some (xa_i (((n / 3) / 3) / 3)), some (xa_i 0), none] dX6_become_37 (by decide) (Nat.le_of_ble_eq_true rfl) rfl rfl ?_
          refine xa_iload_n (pc := 38) dX6_become_38 rfl ?_
          refine xa_aload_n (pc := 39) dX6_become_39 rfl ?_
          refine xa_getfield (pc := 40) dX6_become_40 flRX6_9 (by omega) (by omega) hT0 rfl ?_
          refine xa_alen (pc := 43) dX6_become_43 (by omega) hT1 ?_
          refine xa_top (y := 2) rfl ?_
          refine xa_icmp_ge (pc := 44) (tgt := 98) dX6_become_44 (by decide) (by decide) (by decide) (fun c_44 => ?_) (fun c_44 => ?_)
          · skip
            exfalso; omega
          · skip
            refine xa_iload_n (pc := 47) dX6_become_47 rfl ?_
            refine xa_aload_n (pc := 48) dX6_become_48 rfl ?_
            refine xa_getfield (pc := 49) dX6_become_49 flRX6_15 (by omega) (by omega) hT0 rfl ?_
            refine xa_alen (pc := 52) dX6_become_52 (by omega) hT2 ?_
            refine xa_top (y := 2) rfl ?_
            refine xa_icmp_ge (pc := 53) (tgt := 98) dX6_become_53 (by decide) (by decide) (by decide) (fun c_53 => ?_) (fun c_53 => ?_)
            · skip
              exfalso; omega
            · skip
              refine xa_aload_n (pc := 56) dX6_become_56 rfl ?_
              refine xa_getfield (pc := 57) dX6_become_57 flRX6_9 (by omega) (by omega) hT0 rfl ?_
              refine xa_iload_n (pc := 60) dX6_become_60 rfl ?_
              refine xa_ialdw (pc := 61) 0 dX6_become_61 (by omega) hT1 (by omega) (by omega) rfl ?_
              refine xa_iconst (pc := 62) dX6_become_62 ?_
              refine xa_callS (pc := 63) (as := [xa_i (pl 0), xa_i 1]) (rest := []) dX6_become_63 ⟨qJ9_max_7cf53.1, qJ9_max_7cf53.2.1, qJ9_max_7cf53.2.2, by decide, by decide⟩ lkRX6_56 smJ9_max_7cf53 rfl rfl (Nat.le_of_ble_eq_true rfl) (Nat.zero_le _) (Nat.zero_le _) (c_max _ _ ⟨by omega, by omega⟩ (by decide)) (fun r h' hq => ?_)
              obtain ⟨rfl, hq⟩ := hq
              have hq := hq.symm
              subst hq
              refine xa_istorew (pc := 66) [some (xa_r k), some (xa_i n), some (xa_i (((n / 3) / 3) / 3)), some (xa_i 0), some (xa_i (max (pl 0) 1))] dX6_become_66 (by decide) (Nat.le_of_ble_eq_true rfl) rfl rfl ?_
              refine xa_aload_n (pc := 68) dX6_become_68 rfl ?_
              refine xa_getfield (pc := 69) dX6_become_69 flRX6_37 (by omega) (by omega) hT0 rfl ?_
              refine xa_iload_n (pc := 72) dX6_become_72 rfl ?_
              refine xa_iload_n (pc := 73) dX6_become_73 rfl ?_
              have q0 := sp_dv (x := ((n / 3) / 3) / 3) (y := (max (pl 0) 1)) (by omega) (by omega)
              refine xa_iload (pc := 74) dX6_become_74 rfl ?_
              refine xa_iremn (pc := 76) dX6_become_76 ⟨by omega, by omega⟩ ⟨by omega, by omega⟩ (by omega) (by omega) ?_
              refine xa_aload_n (pc := 77) dX6_become_77 rfl ?_
              refine xa_getfield (pc := 78) dX6_become_78 flRX6_15 (by omega) (by omega) hT0 rfl ?_
              refine xa_iload_n (pc := 81) dX6_become_81 rfl ?_
              refine xa_ialdw (pc := 82) 0 dX6_become_82 (by omega) hT2 (by omega) (by omega) rfl ?_
              refine xa_iadd (pc := 83) dX6_become_83 ?_
              refine xa_callV (pc := 84) (as := [xa_i 0, xa_i (((((n / 3) / 3) / 3) % (max (pl 0) 1)) + (lw 0))]) (rest := []) dX6_become_84 ⟨qX4_takeSteps.1, qX4_takeSteps.2.1, qX4_takeSteps.2.2, by decide, by decide⟩ lkRX6_97 imX4_takeSteps seX4_takeSteps rfl rfl (by omega) (by omega) hS0 rfl (Nat.le_of_ble_eq_true rfl) (Nat.zero_le _) (Nat.zero_le _) (c_takeSteps _ _ _ _ _ _ 0 (((((n / 3) / 3) / 3) % (max (pl 0) 1)) + (lw 0)) 0 rfl ⟨by decide, by decide⟩ (by omega) (by omega) hS0 hS1 hS2) (fun r h' hq => ?_)
              obtain ⟨rfl, hqA, hqn, hqf⟩ := hq
              have hS2 : h'.1 (k + 5 + 2) = xa_a 2 (xa_upf sp 0 (((((n / 3) / 3) / 3) % (max (pl 0) 1)) + (lw 0))) := hqA
              have hT0 : h'.1 k = xa_o 6 [xa_r kb, xa_r (k + 5), xa_i sj, xa_r (k + 1), xa_r (k + 2), xa_i ((ns : Nat) : Int), xa_i fs, xa_i lst, xa_r kbr, xa_r kam] := (hqf _ (by omega)).trans hT0
              have hT1 : h'.1 (k + 1) = xa_a 2 pl := (hqf _ (by omega)).trans hT1
              have hT2 : h'.1 (k + 2) = xa_a 2 lw := (hqf _ (by omega)).trans hT2
              have hT3 : h'.1 kbr = xa_a nb br := (hqf _ (by omega)).trans hT3
              have hT4 : h'.1 kam = xa_a na am := (hqf _ (by omega)).trans hT4
              have hS0 : h'.1 (k + 5) = xa_o 4 [xa_r kb, xa_r (k + 5 + 1), xa_r (k + 5 + 2), xa_i tj, xa_i tb] := (hqf _ (by omega)).trans hS0
              have hS1 : h'.1 (k + 5 + 1) = xa_a 3 (xa_upf (xa_upf (xa_upf po 0 (n % 3)) 1 ((n / 3) % 3)) 2 (((n / 3) / 3) % 3)) := (hqf _ (by omega)).trans hS1
              have hB0 : h'.1 kb = xa_o 0 [xa_r (kb + 1), xa_r (kb + 2), xa_i 3, xa_i ((jo : Nat) : Int), xa_i wa, xa_i sr, xa_i pu, xa_i ri] := (hqf _ (by omega)).trans hB0
              have hB1 : h'.1 (kb + 1) = xa_a 9 ld := (hqf _ (by omega)).trans hB1
              have hB2 : h'.1 (kb + 2) = xa_a 2 dg := (hqf _ (by omega)).trans hB2
              have hn : h'.2 = h.2 := hqn.trans hn
              have fr : ∀ i, (i ≠ k + 5 + 1 ∧ i ≠ k + 5 + 2) → h'.1 i = h.1 i := fun i hi => (hqf i (by omega)).trans (fr i hi)
              refine xa_iload_n (pc := 87) dX6_become_87 rfl ?_
              refine xa_iload (pc := 88) dX6_become_88 rfl ?_
              refine xa_idivn (pc := 90) dX6_become_90 ⟨by omega, by omega⟩ ⟨by omega, by omega⟩ (by omega) (by omega) ?_
              refine xa_istoren (pc := 91) [some (xa_r k), some (xa_i n), some (xa_i ((((n / 3) / 3) / 3) / (max (pl 0) 1))), some (xa_i 0), some (xa_i (max (pl 0) 1))] dX6_become_91 (by decide) (Nat.le_of_ble_eq_true rfl) rfl rfl ?_
              refine xa_iincw (pc := 92) (y := 1) [some (xa_r k), some (xa_i n), some (xa_i ((((n / 3) / 3) / 3) / (max (pl 0) 1))), some (xa_i 1), some (xa_i (max (pl 0) 1))] dX6_become_92 (by decide) rfl rfl rfl rfl ?_
              refine xa_goto (pc := 95) (tgt := 38) dX6_become_95 (by decide) ?_
              refine xa_iload_n (pc := 38) dX6_become_38 rfl ?_
              refine xa_aload_n (pc := 39) dX6_become_39 rfl ?_
              refine xa_getfield (pc := 40) dX6_become_40 flRX6_9 (by omega) (by omega) hT0 rfl ?_
              refine xa_alen (pc := 43) dX6_become_43 (by omega) hT1 ?_
              refine xa_top (y := 2) rfl ?_
              refine xa_icmp_ge (pc := 44) (tgt := 98) dX6_become_44 (by decide) (by decide) (by decide) (fun c_44 => ?_) (fun c_44 => ?_)
              · skip
                exfalso; omega
              · skip
                refine xa_iload_n (pc := 47) dX6_become_47 rfl ?_
                refine xa_aload_n (pc := 48) dX6_become_48 rfl ?_
                refine xa_getfield (pc := 49) dX6_become_49 flRX6_15 (by omega) (by omega) hT0 rfl ?_
                refine xa_alen (pc := 52) dX6_become_52 (by omega) hT2 ?_
                refine xa_top (y := 2) rfl ?_
                refine xa_icmp_ge (pc := 53) (tgt := 98) dX6_become_53 (by decide) (by decide) (by decide) (fun c_53 => ?_) (fun c_53 => ?_)
                · skip
                  exfalso; omega
                · skip
                  refine xa_aload_n (pc := 56) dX6_become_56 rfl ?_
                  refine xa_getfield (pc := 57) dX6_become_57 flRX6_9 (by omega) (by omega) hT0 rfl ?_
                  refine xa_iload_n (pc := 60) dX6_become_60 rfl ?_
                  refine xa_ialdw (pc := 61) 1 dX6_become_61 (by omega) hT1 (by omega) (by omega) rfl ?_
                  refine xa_iconst (pc := 62) dX6_become_62 ?_
                  refine xa_callS (pc := 63) (as := [xa_i (pl 1), xa_i 1]) (rest := []) dX6_become_63 ⟨qJ9_max_7cf53.1, qJ9_max_7cf53.2.1, qJ9_max_7cf53.2.2, by decide, by decide⟩ lkRX6_56 smJ9_max_7cf53 rfl rfl (Nat.le_of_ble_eq_true rfl) (Nat.zero_le _) (Nat.zero_le _) (c_max _ _ ⟨by omega, by omega⟩ (by decide)) (fun r h' hq => ?_)
                  obtain ⟨rfl, hq⟩ := hq
                  have hq := hq.symm
                  subst hq
                  refine xa_istorew (pc := 66) [some (xa_r k), some (xa_i n), some (xa_i ((((n / 3) / 3) / 3) / (max (pl 0) 1))), some (xa_i 1), some (xa_i (max (pl 1) 1))] dX6_become_66 (by decide) (Nat.le_of_ble_eq_true rfl) rfl rfl ?_
                  refine xa_aload_n (pc := 68) dX6_become_68 rfl ?_
                  refine xa_getfield (pc := 69) dX6_become_69 flRX6_37 (by omega) (by omega) hT0 rfl ?_
                  refine xa_iload_n (pc := 72) dX6_become_72 rfl ?_
                  refine xa_iload_n (pc := 73) dX6_become_73 rfl ?_
                  have q1 := sp_dv (x := (((n / 3) / 3) / 3) / (max (pl 0) 1)) (y := (max (pl 1) 1)) (by omega) (by omega)
                  refine xa_iload (pc := 74) dX6_become_74 rfl ?_
                  refine xa_iremn (pc := 76) dX6_become_76 ⟨by omega, by omega⟩ ⟨by omega, by omega⟩ (by omega) (by omega) ?_
                  refine xa_aload_n (pc := 77) dX6_become_77 rfl ?_
                  refine xa_getfield (pc := 78) dX6_become_78 flRX6_15 (by omega) (by omega) hT0 rfl ?_
                  refine xa_iload_n (pc := 81) dX6_become_81 rfl ?_
                  refine xa_ialdw (pc := 82) 1 dX6_become_82 (by omega) hT2 (by omega) (by omega) rfl ?_
                  refine xa_iadd (pc := 83) dX6_become_83 ?_
                  refine xa_callV (pc := 84) (as := [xa_i 1, xa_i ((((((n / 3) / 3) / 3) / (max (pl 0) 1)) % (max (pl 1) 1)) + (lw 1))]) (rest := []) dX6_become_84 ⟨qX4_takeSteps.1, qX4_takeSteps.2.1, qX4_takeSteps.2.2, by decide, by decide⟩ lkRX6_97 imX4_takeSteps seX4_takeSteps rfl rfl (by omega) (by omega) hS0 rfl (Nat.le_of_ble_eq_true rfl) (Nat.zero_le _) (Nat.zero_le _) (c_takeSteps _ _ _ _ _ _ 1 ((((((n / 3) / 3) / 3) / (max (pl 0) 1)) % (max (pl 1) 1)) + (lw 1)) 1 rfl ⟨by decide, by decide⟩ (by omega) (by omega) hS0 hS1 hS2) (fun r h' hq => ?_)
                  obtain ⟨rfl, hqA, hqn, hqf⟩ := hq
                  have hS2 : h'.1 (k + 5 + 2) = xa_a 2 (xa_upf (xa_upf sp 0 (((((n / 3) / 3) / 3) % (max (pl 0) 1)) + (lw 0))) 1 ((((((n / 3) / 3) / 3) / (max (pl 0) 1)) % (max (pl 1) 1)) + (lw 1))) := hqA
                  have hT0 : h'.1 k = xa_o 6 [xa_r kb, xa_r (k + 5), xa_i sj, xa_r (k + 1), xa_r (k + 2), xa_i ((ns : Nat) : Int), xa_i fs, xa_i lst, xa_r kbr, xa_r kam] := (hqf _ (by omega)).trans hT0
                  have hT1 : h'.1 (k + 1) = xa_a 2 pl := (hqf _ (by omega)).trans hT1
                  have hT2 : h'.1 (k + 2) = xa_a 2 lw := (hqf _ (by omega)).trans hT2
                  have hT3 : h'.1 kbr = xa_a nb br := (hqf _ (by omega)).trans hT3
                  have hT4 : h'.1 kam = xa_a na am := (hqf _ (by omega)).trans hT4
                  have hS0 : h'.1 (k + 5) = xa_o 4 [xa_r kb, xa_r (k + 5 + 1), xa_r (k + 5 + 2), xa_i tj, xa_i tb] := (hqf _ (by omega)).trans hS0
                  have hS1 : h'.1 (k + 5 + 1) = xa_a 3 (xa_upf (xa_upf (xa_upf po 0 (n % 3)) 1 ((n / 3) % 3)) 2 (((n / 3) / 3) % 3)) := (hqf _ (by omega)).trans hS1
                  have hB0 : h'.1 kb = xa_o 0 [xa_r (kb + 1), xa_r (kb + 2), xa_i 3, xa_i ((jo : Nat) : Int), xa_i wa, xa_i sr, xa_i pu, xa_i ri] := (hqf _ (by omega)).trans hB0
                  have hB1 : h'.1 (kb + 1) = xa_a 9 ld := (hqf _ (by omega)).trans hB1
                  have hB2 : h'.1 (kb + 2) = xa_a 2 dg := (hqf _ (by omega)).trans hB2
                  have hn : h'.2 = h.2 := hqn.trans hn
                  have fr : ∀ i, (i ≠ k + 5 + 1 ∧ i ≠ k + 5 + 2) → h'.1 i = h.1 i := fun i hi => (hqf i (by omega)).trans (fr i hi)
                  refine xa_iload_n (pc := 87) dX6_become_87 rfl ?_
                  refine xa_iload (pc := 88) dX6_become_88 rfl ?_
                  refine xa_idivn (pc := 90) dX6_become_90 ⟨by omega, by omega⟩ ⟨by omega, by omega⟩ (by omega) (by omega) ?_
                  refine xa_istoren (pc := 91) [some (xa_r k), some (xa_i n), some (xa_i (((((n / 3) / 3) / 3) / (max (pl 0) 1)) / (max (pl 1) 1))), some (xa_i 1), some (xa_i (max (pl 1) 1))] dX6_become_91 (by decide) (Nat.le_of_ble_eq_true rfl) rfl rfl ?_
                  refine xa_iincw (pc := 92) (y := 2) [some (xa_r k), some (xa_i n), some (xa_i (((((n / 3) / 3) / 3) / (max (pl 0) 1)) / (max (pl 1) 1))), some (xa_i 2), some (xa_i (max (pl 1) 1))] dX6_become_92 (by decide) rfl rfl rfl rfl ?_
                  refine xa_goto (pc := 95) (tgt := 38) dX6_become_95 (by decide) ?_
                  refine xa_iload_n (pc := 38) dX6_become_38 rfl ?_
                  refine xa_aload_n (pc := 39) dX6_become_39 rfl ?_
                  refine xa_getfield (pc := 40) dX6_become_40 flRX6_9 (by omega) (by omega) hT0 rfl ?_
                  refine xa_alen (pc := 43) dX6_become_43 (by omega) hT1 ?_
                  refine xa_top (y := 2) rfl ?_
                  refine xa_icmp_ge (pc := 44) (tgt := 98) dX6_become_44 (by decide) (by decide) (by decide) (fun c_44 => ?_) (fun c_44 => ?_)
                  · skip
                    refine xa_return (pc := 98) dX6_become_98 rfl ?_
                    exact ⟨rfl, hS1, hS2, hn, fr⟩
                  · skip
                    exfalso; omega
        · skip
          exfalso; omega
