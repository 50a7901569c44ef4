/-! Table: shapes by numbers -/
def sp_num2 (pl lw po sp : Nat → Int) : Int := (((0 * pl 1 + sp 1 - lw 1) * pl 0 + sp 0 - lw 0) * 3 + po 1) * 3 + po 0
def sp_num3 (pl lw po sp : Nat → Int) : Int := ((((0 * pl 1 + sp 1 - lw 1) * pl 0 + sp 0 - lw 0) * 3 + po 2) * 3 + po 1) * 3 + po 0
theorem sp_dv {x y : Int} (hx : 0 ≤ x) (hy : 0 < y) : 0 ≤ x / y ∧ x / y ≤ x := ⟨Int.ediv_nonneg hx (by omega), Int.ediv_le_self _ hx⟩

theorem c_numberNow2 {G : xa_G} {h : xa_H} (k kb kbr kam : Nat) (sj : Int) (pl lw br am : Nat → Int) (nb na ns : Nat) (fs lst : Int) (po sp : Nat → Int) (tj tb : Int) (ld dg : Nat → Int) (jo : Nat) (wa sr pu ri : Int) (hk : 2 ≤ k) (hkn : k + 7 < h.2) (hkb : 2 ≤ kb) (hkk : kb + 3 ≤ k) (hkbr : k + 8 ≤ kbr ∨ kbr = k + 3) (hkbr2 : kbr < h.2) (hkam : k + 8 ≤ kam ∨ kam = k + 4) (hkam2 : kam < h.2)  (hT0 : h.1 k = xa_o 6 [xa_r kb, xa_r (k + 5), xa_i sj, xa_r (k + 1), xa_r (k + 2), xa_i ((ns : Nat) : Int), xa_i fs, xa_i lst, xa_r kbr, xa_r kam]) (hT1 : h.1 (k + 1) = xa_a 2 pl) (hT2 : h.1 (k + 2) = xa_a 2 lw) (hT3 : h.1 kbr = xa_a nb br) (hT4 : h.1 kam = xa_a na am) (hS0 : h.1 (k + 5) = xa_o 4 [xa_r kb, xa_r (k + 5 + 1), xa_r (k + 5 + 2), xa_i tj, xa_i tb]) (hS1 : h.1 (k + 5 + 1) = xa_a 3 po) (hS2 : h.1 (k + 5 + 2) = xa_a 2 sp) (hB0 : h.1 kb = xa_o 0 [xa_r (kb + 1), xa_r (kb + 2), xa_i 2, xa_i ((jo : Nat) : Int), xa_i wa, xa_i sr, xa_i pu, xa_i ri]) (hB1 : h.1 (kb + 1) = xa_a 9 ld) (hB2 : h.1 (kb + 2) = xa_a 2 dg) : xa_M G mX6_numberNow [xa_r k] h 0 0 (fun r h' => r = some (xa_i (sp_num2 pl lw po sp)) ∧ h' = h) := by
  refine xa_enter (by decide +kernel) (Nat.le_of_ble_eq_true rfl) ?_
  refine xa_locals (ls' := [some (xa_r k), none, none]) rfl ?_
  refine xa_iconst (pc := 0) dX6_numberNow_0 ?_
  refine xa_istoren (pc := 1) [some (xa_r k), some (xa_i 0), none] dX6_numberNow_1 (by decide) (Nat.le_of_ble_eq_true rfl) rfl rfl ?_
  refine xa_aload_n (pc := 2) dX6_numberNow_2 rfl ?_
  refine xa_getfield (pc := 3) dX6_numberNow_3 flRX6_9 (by omega) (by omega) hT0 rfl ?_
  refine xa_alen (pc := 6) dX6_numberNow_6 (by omega) hT1 ?_
  refine xa_top (y := 2) rfl ?_
  refine xa_iconst (pc := 7) dX6_numberNow_7 ?_
  refine xa_isub (pc := 8) dX6_numberNow_8 ?_
  refine xa_top (y := 1) (by decide) ?_
  refine xa_istoren (pc := 9) [some (xa_r k), some (xa_i 0), some (xa_i 1)] dX6_numberNow_9 (by decide) (Nat.le_of_ble_eq_true rfl) rfl rfl ?_
  refine xa_iload_n (pc := 10) dX6_numberNow_10 rfl ?_
  refine xa_if_lt (pc := 11) (tgt := 46) dX6_numberNow_11 (by decide) (by decide) (fun c_11 => ?_) (fun c_11 => ?_)
  · skip
    exfalso; omega
  · skip
    refine xa_iload_n (pc := 14) dX6_numberNow_14 rfl ?_
    refine xa_aload_n (pc := 15) dX6_numberNow_15 rfl ?_
    refine xa_getfield (pc := 16) dX6_numberNow_16 flRX6_9 (by omega) (by omega) hT0 rfl ?_
    refine xa_iload_n (pc := 19) dX6_numberNow_19 rfl ?_
    refine xa_ialdw (pc := 20) 1 dX6_numberNow_20 (by omega) hT1 (by omega) (by omega) rfl ?_
    refine xa_imul (pc := 21) dX6_numberNow_21 ?_
    refine xa_aload_n (pc := 22) dX6_numberNow_22 rfl ?_
    refine xa_getfield (pc := 23) dX6_numberNow_23 flRX6_37 (by omega) (by omega) hT0 rfl ?_
    refine xa_getfield (pc := 26) dX6_numberNow_26 flRX6_87 (by omega) (by omega) hS0 rfl ?_
    refine xa_iload_n (pc := 29) dX6_numberNow_29 rfl ?_
    refine xa_ialdw (pc := 30) 1 dX6_numberNow_30 (by omega) hS2 (by omega) (by omega) rfl ?_
    refine xa_iadd (pc := 31) dX6_numberNow_31 ?_
    refine xa_aload_n (pc := 32) dX6_numberNow_32 rfl ?_
    refine xa_getfield (pc := 33) dX6_numberNow_33 flRX6_15 (by omega) (by omega) hT0 rfl ?_
    refine xa_iload_n (pc := 36) dX6_numberNow_36 rfl ?_
    refine xa_ialdw (pc := 37) 1 dX6_numberNow_37 (by omega) hT2 (by omega) (by omega) rfl ?_
    refine xa_isub (pc := 38) dX6_numberNow_38 ?_
    refine xa_istoren (pc := 39) [some (xa_r k), some (xa_i (((0 * (pl 1)) + (sp 1)) - (lw 1))), some (xa_i 1)] dX6_numberNow_39 (by decide) (Nat.le_of_ble_eq_true rfl) rfl rfl ?_
    refine xa_iincw (pc := 40) (y := 0) [some (xa_r k), some (xa_i (((0 * (pl 1)) + (sp 1)) - (lw 1))), some (xa_i 0)] dX6_numberNow_40 (by decide) rfl rfl rfl rfl ?_
    refine xa_goto (pc := 43) (tgt := 10) dX6_numberNow_43 (by decide) ?_
    refine xa_iload_n (pc := 10) dX6_numberNow_10 rfl ?_
    refine xa_if_lt (pc := 11) (tgt := 46) dX6_numberNow_11 (by decide) (by decide) (fun c_11 => ?_) (fun c_11 => ?_)
    · skip
      exfalso; omega
    · skip
      refine xa_iload_n (pc := 14) dX6_numberNow_14 rfl ?_
      refine xa_aload_n (pc := 15) dX6_numberNow_15 rfl ?_
      refine xa_getfield (pc := 16) dX6_numberNow_16 flRX6_9 (by omega) (by omega) hT0 rfl ?_
      refine xa_iload_n (pc := 19) dX6_numberNow_19 rfl ?_
      refine xa_ialdw (pc := 20) 0 dX6_numberNow_20 (by omega) hT1 (by omega) (by omega) rfl ?_
      refine xa_imul (pc := 21) dX6_numberNow_21 ?_
      refine xa_aload_n (pc := 22) dX6_numberNow_22 rfl ?_
      refine xa_getfield (pc := 23) dX6_numberNow_23 flRX6_37 (by omega) (by omega) hT0 rfl ?_
      refine xa_getfield (pc := 26) dX6_numberNow_26 flRX6_87 (by omega) (by omega) hS0 rfl ?_
      refine xa_iload_n (pc := 29) dX6_numberNow_29 rfl ?_
      refine xa_ialdw (pc := 30) 0 dX6_numberNow_30 (by omega) hS2 (by omega) (by omega) rfl ?_
      refine xa_iadd (pc := 31) dX6_numberNow_31 ?_
      refine xa_aload_n (pc := 32) dX6_numberNow_32 rfl ?_
      refine xa_getfield (pc := 33) dX6_numberNow_33 flRX6_15 (by omega) (by omega) hT0 rfl ?_
      refine xa_iload_n (pc := 36) dX6_numberNow_36 rfl ?_
      refine xa_ialdw (pc := 37) 0 dX6_numberNow_37 (by omega) hT2 (by omega) (by omega) rfl ?_
      refine xa_isub (pc := 38) dX6_numberNow_38 ?_
      refine xa_istoren (pc := 39) [some (xa_r k), some (xa_i ((((((0 * (pl 1)) + (sp 1)) - (lw 1)) * (pl 0)) + (sp 0)) - (lw 0))), some (xa_i 0)] dX6_numberNow_39 (by decide) (Nat.le_of_ble_eq_true rfl) rfl rfl ?_
      refine xa_iincw (pc := 40) (y := -1) [some (xa_r k), some (xa_i ((((((0 * (pl 1)) + (sp 1)) - (lw 1)) * (pl 0)) + (sp 0)) - (lw 0))), some (xa_i (-1))] dX6_numberNow_40 (by decide) rfl rfl rfl rfl ?_
      refine xa_goto (pc := 43) (tgt := 10) dX6_numberNow_43 (by decide) ?_
      refine xa_iload_n (pc := 10) dX6_numberNow_10 rfl ?_
      refine xa_if_lt (pc := 11) (tgt := 46) dX6_numberNow_11 (by decide) (by decide) (fun c_11 => ?_) (fun c_11 => ?_)
      · skip
        refine xa_aload_n (pc := 46) dX6_numberNow_46 rfl ?_
        refine xa_getfield (pc := 47) dX6_numberNow_47 flRX6_24 (by omega) (by omega) hT0 rfl ?_
        refine xa_getfield (pc := 50) dX6_numberNow_50 flRX6_41 (by omega) (by omega) hB0 rfl ?_
        refine xa_iconst (pc := 53) dX6_numberNow_53 ?_
        refine xa_callS (pc := 54) (as := [xa_i 2, xa_i 3]) (rest := []) dX6_numberNow_54 ⟨qJ9_min_7cf53.1, qJ9_min_7cf53.2.1, qJ9_min_7cf53.2.2, by decide, by decide⟩ lkRX6_90 smJ9_min_7cf53 rfl rfl (Nat.le_of_ble_eq_true rfl) (Nat.zero_le _) (Nat.zero_le _) (c_min _ _ (by decide) (by decide)) (fun r h' hq => ?_)
        obtain ⟨rfl, hq⟩ := hq
        have hq := hq.symm
        subst hq
        refine xa_top (y := 2) (by decide) ?_
        refine xa_iconst (pc := 57) dX6_numberNow_57 ?_
        refine xa_isub (pc := 58) dX6_numberNow_58 ?_
        refine xa_top (y := 1) (by decide) ?_
        refine xa_istoren (pc := 59) [some (xa_r k), some (xa_i ((((((0 * (pl 1)) + (sp 1)) - (lw 1)) * (pl 0)) + (sp 0)) - (lw 0))), some (xa_i 1)] dX6_numberNow_59 (by decide) (Nat.le_of_ble_eq_true rfl) rfl rfl ?_
        refine xa_iload_n (pc := 60) dX6_numberNow_60 rfl ?_
        refine xa_if_lt (pc := 61) (tgt := 84) dX6_numberNow_61 (by decide) (by decide) (fun c_61 => ?_) (fun c_61 => ?_)
        · skip
          exfalso; omega
        · skip
          refine xa_iload_n (pc := 64) dX6_numberNow_64 rfl ?_
          refine xa_iconst (pc := 65) dX6_numberNow_65 ?_
          refine xa_imul (pc := 66) dX6_numberNow_66 ?_
          refine xa_aload_n (pc := 67) dX6_numberNow_67 rfl ?_
          refine xa_getfield (pc := 68) dX6_numberNow_68 flRX6_37 (by omega) (by omega) hT0 rfl ?_
          refine xa_getfield (pc := 71) dX6_numberNow_71 flRX6_74 (by omega) (by omega) hS0 rfl ?_
          refine xa_iload_n (pc := 74) dX6_numberNow_74 rfl ?_
          refine xa_ialdw (pc := 75) 1 dX6_numberNow_75 (by omega) hS1 (by omega) (by omega) rfl ?_
          refine xa_iadd (pc := 76) dX6_numberNow_76 ?_
          refine xa_istoren (pc := 77) [some (xa_r k), some (xa_i ((((((((0 * (pl 1)) + (sp 1)) - (lw 1)) * (pl 0)) + (sp 0)) - (lw 0)) * 3) + (po 1))), some (xa_i 1)] dX6_numberNow_77 (by decide) (Nat.le_of_ble_eq_true rfl) rfl rfl ?_
          refine xa_iincw (pc := 78) (y := 0) [some (xa_r k), some (xa_i ((((((((0 * (pl 1)) + (sp 1)) - (lw 1)) * (pl 0)) + (sp 0)) - (lw 0)) * 3) + (po 1))), some (xa_i 0)] dX6_numberNow_78 (by decide) rfl rfl rfl rfl ?_
          refine xa_goto (pc := 81) (tgt := 60) dX6_numberNow_81 (by decide) ?_
          refine xa_iload_n (pc := 60) dX6_numberNow_60 rfl ?_
          refine xa_if_lt (pc := 61) (tgt := 84) dX6_numberNow_61 (by decide) (by decide) (fun c_61 => ?_) (fun c_61 => ?_)
          · skip
            exfalso; omega
          · skip
            refine xa_iload_n (pc := 64) dX6_numberNow_64 rfl ?_
            refine xa_iconst (pc := 65) dX6_numberNow_65 ?_
            refine xa_imul (pc := 66) dX6_numberNow_66 ?_
            refine xa_aload_n (pc := 67) dX6_numberNow_67 rfl ?_
            refine xa_getfield (pc := 68) dX6_numberNow_68 flRX6_37 (by omega) (by omega) hT0 rfl ?_
            refine xa_getfield (pc := 71) dX6_numberNow_71 flRX6_74 (by omega) (by omega) hS0 rfl ?_
            refine xa_iload_n (pc := 74) dX6_numberNow_74 rfl ?_
            refine xa_ialdw (pc := 75) 0 dX6_numberNow_75 (by omega) hS1 (by omega) (by omega) rfl ?_
            refine xa_iadd (pc := 76) dX6_numberNow_76 ?_
            refine xa_istoren (pc := 77) [some (xa_r k), some (xa_i ((((((((((0 * (pl 1)) + (sp 1)) - (lw 1)) * (pl 0)) + (sp 0)) - (lw 0)) * 3) + (po 1)) * 3) + (po 0))), some (xa_i 0)] dX6_numberNow_77 (by decide) (Nat.le_of_ble_eq_true rfl) rfl rfl ?_
            refine xa_iincw (pc := 78) (y := -1) [some (xa_r k), some (xa_i ((((((((((0 * (pl 1)) + (sp 1)) - (lw 1)) * (pl 0)) + (sp 0)) - (lw 0)) * 3) + (po 1)) * 3) + (po 0))), some (xa_i (-1))] dX6_numberNow_78 (by decide) rfl rfl rfl rfl ?_
            refine xa_goto (pc := 81) (tgt := 60) dX6_numberNow_81 (by decide) ?_
            refine xa_iload_n (pc := 60) dX6_numberNow_60 rfl ?_
            refine xa_if_lt (pc := 61) (tgt := 84) dX6_numberNow_61 (by decide) (by decide) (fun c_61 => ?_) (fun c_61 => ?_)
            · skip
              refine xa_iload_n (pc := 84) dX6_numberNow_84 rfl ?_
              refine xa_ireturn (pc := 85) dX6_numberNow_85 rfl trivial ?_
              exact ⟨congrArg (fun z => some (xa_i z)) (show (((((((((0 * (pl 1)) + (sp 1)) - (lw 1)) * (pl 0)) + (sp 0)) - (lw 0)) * 3) + (po 1)) * 3) + (po 0) = sp_num2 pl lw po sp by rfl), rfl⟩
            · skip
              exfalso; omega
      · skip
        exfalso; omega
theorem c_numberNow3 {G : xa_G} {h : xa_H} (k kb kbr kam : Nat) (sj : Int) (pl lw br am : Nat → Int) (nb na ns : Nat) (fs lst : Int) (po sp : Nat → Int) (tj tb : Int) (ld dg : Nat → Int) (jo : Nat) (wa sr pu ri : Int) (hk : 2 ≤ k) (hkn : k + 7 < h.2) (hkb : 2 ≤ kb) (hkk : kb + 3 ≤ k) (hkbr : k + 8 ≤ kbr ∨ kbr = k + 3) (hkbr2 : kbr < h.2) (hkam : k + 8 ≤ kam ∨ kam = k + 4) (hkam2 : kam < h.2)  (hT0 : h.1 k = xa_o 6 [xa_r kb, xa_r (k + 5), xa_i sj, xa_r (k + 1), xa_r (k + 2), xa_i ((ns : Nat) : Int), xa_i fs, xa_i lst, xa_r kbr, xa_r kam]) (hT1 : h.1 (k + 1) = xa_a 2 pl) (hT2 : h.1 (k + 2) = xa_a 2 lw) (hT3 : h.1 kbr = xa_a nb br) (hT4 : h.1 kam = xa_a na am) (hS0 : h.1 (k + 5) = xa_o 4 [xa_r kb, xa_r (k + 5 + 1), xa_r (k + 5 + 2), xa_i tj, xa_i tb]) (hS1 : h.1 (k + 5 + 1) = xa_a 3 po) (hS2 : h.1 (k + 5 + 2) = xa_a 2 sp) (hB0 : h.1 kb = xa_o 0 [xa_r (kb + 1), xa_r (kb + 2), xa_i 3, xa_i ((jo : Nat) : Int), xa_i wa, xa_i sr, xa_i pu, xa_i ri]) (hB1 : h.1 (kb + 1) = xa_a 9 ld) (hB2 : h.1 (kb + 2) = xa_a 2 dg) : xa_M G mX6_numberNow [xa_r k] h 0 0 (fun r h' => r = some (xa_i (sp_num3 pl lw po sp)) ∧ h' = h) := by
  refine xa_enter (by decide +kernel) (Nat.le_of_ble_eq_true rfl) ?_
  refine xa_locals (ls' := [some (xa_r k), none, none]) rfl ?_
  refine xa_iconst (pc := 0) dX6_numberNow_0 ?_
  refine xa_istoren (pc := 1) [some (xa_r k), some (xa_i 0), none] dX6_numberNow_1 (by decide) (Nat.le_of_ble_eq_true rfl) rfl rfl ?_
  refine xa_aload_n (pc := 2) dX6_numberNow_2 rfl ?_
  refine xa_getfield (pc := 3) dX6_numberNow_3 flRX6_9 (by omega) (by omega) hT0 rfl ?_
  refine xa_alen (pc := 6) dX6_numberNow_6 (by omega) hT1 ?_
  refine xa_top (y := 2) rfl ?_
  refine xa_iconst (pc := 7) dX6_numberNow_7 ?_
  refine xa_isub (pc := 8) dX6_numberNow_8 ?_
  refine xa_top (y := 1) (by decide) ?_
  refine xa_istoren (pc := 9) [some (xa_r k), some (xa_i 0), some (xa_i 1)] dX6_numberNow_9 (by decide) (Nat.le_of_ble_eq_true rfl) rfl rfl ?_
  refine xa_iload_n (pc := 10) dX6_numberNow_10 rfl ?_
  refine xa_if_lt (pc := 11) (tgt := 46) dX6_numberNow_11 (by decide) (by decide) (fun c_11 => ?_) (fun c_11 => ?_)
  · skip
    exfalso; omega
  · skip
    refine xa_iload_n (pc := 14) dX6_numberNow_14 rfl ?_
    refine xa_aload_n (pc := 15) dX6_numberNow_15 rfl ?_
    refine xa_getfield (pc := 16) dX6_numberNow_16 flRX6_9 (by omega) (by omega) hT0 rfl ?_
    refine xa_iload_n (pc := 19) dX6_numberNow_19 rfl ?_
    refine xa_ialdw (pc := 20) 1 dX6_numberNow_20 (by omega) hT1 (by omega) (by omega) rfl ?_
    refine xa_imul (pc := 21) dX6_numberNow_21 ?_
    refine xa_aload_n (pc := 22) dX6_numberNow_22 rfl ?_
    refine xa_getfield (pc := 23) dX6_numberNow_23 flRX6_37 (by omega) (by omega) hT0 rfl ?_
    refine xa_getfield (pc := 26) dX6_numberNow_26 flRX6_87 (by omega) (by omega) hS0 rfl ?_
    refine xa_iload_n (pc := 29) dX6_numberNow_29 rfl ?_
    refine xa_ialdw (pc := 30) 1 dX6_numberNow_30 (by omega) hS2 (by omega) (by omega) rfl ?_
    refine xa_iadd (pc := 31) dX6_numberNow_31 ?_
    refine xa_aload_n (pc := 32) dX6_numberNow_32 rfl ?_
    refine xa_getfield (pc := 33) dX6_numberNow_33 flRX6_15 (by omega) (by omega) hT0 rfl ?_
    refine xa_iload_n (pc := 36) dX6_numberNow_36 rfl ?_
    refine xa_ialdw (pc := 37) 1 dX6_numberNow_37 (by omega) hT2 (by omega) (by omega) rfl ?_
    refine xa_isub (pc := 38) dX6_numberNow_38 ?_
    refine xa_istoren (pc := 39) [some (xa_r k), some (xa_i (((0 * (pl 1)) + (sp 1)) - (lw 1))), some (xa_i 1)] dX6_numberNow_39 (by decide) (Nat.le_of_ble_eq_true rfl) rfl rfl ?_
    refine xa_iincw (pc := 40) (y := 0) [some (xa_r k), some (xa_i (((0 * (pl 1)) + (sp 1)) - (lw 1))), some (xa_i 0)] dX6_numberNow_40 (by decide) rfl rfl rfl rfl ?_
    refine xa_goto (pc := 43) (tgt := 10) dX6_numberNow_43 (by decide) ?_
    refine xa_iload_n (pc := 10) dX6_numberNow_10 rfl ?_
    refine xa_if_lt (pc := 11) (tgt := 46) dX6_numberNow_11 (by decide) (by decide) (fun c_11 => ?_) (fun c_11 => ?_)
    · skip
      exfalso; omega
    · skip
      refine xa_iload_n (pc := 14) dX6_numberNow_14 rfl ?_
      refine xa_aload_n (pc := 15) dX6_numberNow_15 rfl ?_
      refine xa_getfield (pc := 16) dX6_numberNow_16 flRX6_9 (by omega) (by omega) hT0 rfl ?_
      refine xa_iload_n (pc := 19) dX6_numberNow_19 rfl ?_
      refine xa_ialdw (pc := 20) 0 dX6_numberNow_20 (by omega) hT1 (by omega) (by omega) rfl ?_
      refine xa_imul (pc := 21) dX6_numberNow_21 ?_
      refine xa_aload_n (pc := 22) dX6_numberNow_22 rfl ?_
      refine xa_getfield (pc := 23) dX6_numberNow_23 flRX6_37 (by omega) (by omega) hT0 rfl ?_
      refine xa_getfield (pc := 26) dX6_numberNow_26 flRX6_87 (by omega) (by omega) hS0 rfl ?_
      refine xa_iload_n (pc := 29) dX6_numberNow_29 rfl ?_
      refine xa_ialdw (pc := 30) 0 dX6_numberNow_30 (by omega) hS2 (by omega) (by omega) rfl ?_
      refine xa_iadd (pc := 31) dX6_numberNow_31 ?_
      refine xa_aload_n (pc := 32) dX6_numberNow_32 rfl ?_
      refine xa_getfield (pc := 33) dX6_numberNow_33 flRX6_15 (by omega) (by omega) hT0 rfl ?_
      refine xa_iload_n (pc := 36) dX6_numberNow_36 rfl ?_
      refine xa_ialdw (pc := 37) 0 dX6_numberNow_37 (by omega) hT2 (by omega) (by omega) rfl ?_
      refine xa_isub (pc := 38) dX6_numberNow_38 ?_
      refine xa_istoren (pc := 39) [some (xa_r k), some (xa_i ((((((0 * (pl 1)) + (sp 1)) - (lw 1)) * (pl 0)) + (sp 0)) - (lw 0))), some (xa_i 0)] dX6_numberNow_39 (by decide) (Nat.le_of_ble_eq_true rfl) rfl rfl ?_
      refine xa_iincw (pc := 40) (y := -1) [some (xa_r k), some (xa_i ((((((0 * (pl 1)) + (sp 1)) - (lw 1)) * (pl 0)) + (sp 0)) - (lw 0))), some (xa_i (-1))] dX6_numberNow_40 (by decide) rfl rfl rfl rfl ?_
      refine xa_goto (pc := 43) (tgt := 10) dX6_numberNow_43 (by decide) ?_
      refine xa_iload_n (pc := 10) dX6_numberNow_10 rfl ?_
      refine xa_if_lt (pc := 11) (tgt := 46) dX6_numberNow_11 (by decide) (by decide) (fun c_11 => ?_) (fun c_11 => ?_)
      · skip
        refine xa_aload_n (pc := 46) dX6_numberNow_46 rfl ?_
        refine xa_getfield (pc := 47) dX6_numberNow_47 flRX6_24 (by omega) (by omega) hT0 rfl ?_
        refine xa_getfield (pc := 50) dX6_numberNow_50 flRX6_41 (by omega) (by omega) hB0 rfl ?_
        refine xa_iconst (pc := 53) dX6_numberNow_53 ?_
        refine xa_callS (pc := 54) (as := [xa_i 3, xa_i 3]) (rest := []) dX6_numberNow_54 ⟨qJ9_min_7cf53.1, qJ9_min_7cf53.2.1, qJ9_min_7cf53.2.2, by decide, by decide⟩ lkRX6_90 smJ9_min_7cf53 rfl rfl (Nat.le_of_ble_eq_true rfl) (Nat.zero_le _) (Nat.zero_le _) (c_min _ _ (by decide) (by decide)) (fun r h' hq => ?_)
        obtain ⟨rfl, hq⟩ := hq
        have hq := hq.symm
        subst hq
        refine xa_top (y := 3) (by decide) ?_
        refine xa_iconst (pc := 57) dX6_numberNow_57 ?_
        refine xa_isub (pc := 58) dX6_numberNow_58 ?_
        refine xa_top (y := 2) (by decide) ?_
        refine xa_istoren (pc := 59) [some (xa_r k), some (xa_i ((((((0 * (pl 1)) + (sp 1)) - (lw 1)) * (pl 0)) + (sp 0)) - (lw 0))), some (xa_i 2)] dX6_numberNow_59 (by decide) (Nat.le_of_ble_eq_true rfl) rfl rfl ?_
        refine xa_iload_n (pc := 60) dX6_numberNow_60 rfl ?_
        refine xa_if_lt (pc := 61) (tgt := 84) dX6_numberNow_61 (by decide) (by decide) (fun c_61 => ?_) (fun c_61 => ?_)
        · skip
          exfalso; omega
        · skip
          refine xa_iload_n (pc := 64) dX6_numberNow_64 rfl ?_
          refine xa_iconst (pc := 65) dX6_numberNow_65 ?_
          refine xa_imul (pc := 66) dX6_numberNow_66 ?_
          refine xa_aload_n (pc := 67) dX6_numberNow_67 rfl ?_
          refine xa_getfield (pc := 68) dX6_numberNow_68 flRX6_37 (by omega) (by omega) hT0 rfl ?_
          refine xa_getfield (pc := 71) dX6_numberNow_71 flRX6_74 (by omega) (by omega) hS0 rfl ?_
          refine xa_iload_n (pc := 74) dX6_numberNow_74 rfl ?_
          refine xa_ialdw (pc := 75) 2 dX6_numberNow_75 (by omega) hS1 (by omega) (by omega) rfl ?_
          refine xa_iadd (pc := 76) dX6_numberNow_76 ?_
          refine xa_istoren (pc := 77) [some (xa_r k), some (xa_i ((((((((0 * (pl 1)) + (sp 1)) - (lw 1)) * (pl 0)) + (sp 0)) - (lw 0)) * 3) + (po 2))), some (xa_i 2)] dX6_numberNow_77 (by decide) (Nat.le_of_ble_eq_true rfl) rfl rfl ?_
          refine xa_iincw (pc := 78) (y := 1) [some (xa_r k), some (xa_i ((((((((0 * (pl 1)) + (sp 1)) - (lw 1)) * (pl 0)) + (sp 0)) - (lw 0)) * 3) + (po 2))), some (xa_i 1)] dX6_numberNow_78 (by decide) rfl rfl rfl rfl ?_
          refine xa_goto (pc := 81) (tgt := 60) dX6_numberNow_81 (by decide) ?_
          refine xa_iload_n (pc := 60) dX6_numberNow_60 rfl ?_
          refine xa_if_lt (pc := 61) (tgt := 84) dX6_numberNow_61 (by decide) (by decide) (fun c_61 => ?_) (fun c_61 => ?_)
          · skip
            exfalso; omega
          · skip
            refine xa_iload_n (pc := 64) dX6_numberNow_64 rfl ?_
            refine xa_iconst (pc := 65) dX6_numberNow_65 ?_
            refine xa_imul (pc := 66) dX6_numberNow_66 ?_
            refine xa_aload_n (pc := 67) dX6_numberNow_67 rfl ?_
            refine xa_getfield (pc := 68) dX6_numberNow_68 flRX6_37 (by omega) (by omega) hT0 rfl ?_
            refine xa_getfield (pc := 71) dX6_numberNow_71 flRX6_74 (by omega) (by omega) hS0 rfl ?_
            refine xa_iload_n (pc := 74) dX6_numberNow_74 rfl ?_
            refine xa_ialdw (pc := 75) 1 dX6_numberNow_75 (by omega) hS1 (by omega) (by omega) rfl ?_
            refine xa_iadd (pc := 76) dX6_numberNow_76 ?_
            refine xa_istoren (pc := 77) [some (xa_r k), some (xa_i ((((((((((0 * (pl 1)) + (sp 1)) - (lw 1)) * (pl 0)) + (sp 0)) - (lw 0)) * 3) + (po 2)) * 3) + (po 1))), some (xa_i 1)] dX6_numberNow_77 (by decide) (Nat.le_of_ble_eq_true rfl) rfl rfl ?_
            refine xa_iincw (pc := 78) (y := 0) [some (xa_r k), some (xa_i ((((((((((0 * (pl 1)) + (sp 1)) - (lw 1)) * (pl 0)) + (sp 0)) - (lw 0)) * 3) + (po 2)) * 3) + (po 1))), some (xa_i 0)] dX6_numberNow_78 (by decide) rfl rfl rfl rfl ?_
            refine xa_goto (pc := 81) (tgt := 60) dX6_numberNow_81 (by decide) ?_
            refine xa_iload_n (pc := 60) dX6_numberNow_60 rfl ?_
            refine xa_if_lt (pc := 61) (tgt := 84) dX6_numberNow_61 (by decide) (by decide) (fun c_61 => ?_) (fun c_61 => ?_)
            · skip
              exfalso; omega
            · skip
              refine xa_iload_n (pc := 64) dX6_numberNow_64 rfl ?_
              refine xa_iconst (pc := 65) dX6_numberNow_65 ?_
              refine xa_imul (pc := 66) dX6_numberNow_66 ?_
              refine xa_aload_n (pc := 67) dX6_numberNow_67 rfl ?_
              refine xa_getfield (pc := 68) dX6_numberNow_68 flRX6_37 (by omega) (by omega) hT0 rfl ?_
              refine xa_getfield (pc := 71) dX6_numberNow_71 flRX6_74 (by omega) (by omega) hS0 rfl ?_
              refine xa_iload_n (pc := 74) dX6_numberNow_74 rfl ?_
              refine xa_ialdw (pc := 75) 0 dX6_numberNow_75 (by omega) hS1 (by omega) (by omega) rfl ?_
              refine xa_iadd (pc := 76) dX6_numberNow_76 ?_
              refine xa_istoren (pc := 77) [some (xa_r k), some (xa_i ((((((((((((0 * (pl 1)) + (sp 1)) - (lw 1)) * (pl 0)) + (sp 0)) - (lw 0)) * 3) + (po 2)) * 3) + (po 1)) * 3) + (po 0))), some (xa_i 0)] dX6_numberNow_77 (by decide) (Nat.le_of_ble_eq_true rfl) rfl rfl ?_
              refine xa_iincw (pc := 78) (y := -1) [some (xa_r k), some (xa_i ((((((((((((0 * (pl 1)) + (sp 1)) - (lw 1)) * (pl 0)) + (sp 0)) - (lw 0)) * 3) + (po 2)) * 3) + (po 1)) * 3) + (po 0))), some (xa_i (-1))] dX6_numberNow_78 (by decide) rfl rfl rfl rfl ?_
              refine xa_goto (pc := 81) (tgt := 60) dX6_numberNow_81 (by decide) ?_
              refine xa_iload_n (pc := 60) dX6_numberNow_60 rfl ?_
              refine xa_if_lt (pc := 61) (tgt := 84) dX6_numberNow_61 (by decide) (by decide) (fun c_61 => ?_) (fun c_61 => ?_)
              · skip
                refine xa_iload_n (pc := 84) dX6_numberNow_84 rfl ?_
                refine xa_ireturn (pc := 85) dX6_numberNow_85 rfl trivial ?_
                exact ⟨congrArg (fun z => some (xa_i z)) (show (((((((((((0 * (pl 1)) + (sp 1)) - (lw 1)) * (pl 0)) + (sp 0)) - (lw 0)) * 3) + (po 2)) * 3) + (po 1)) * 3) + (po 0) = sp_num3 pl lw po sp by rfl), rfl⟩
              · skip
                exfalso; omega
      · skip
        exfalso; omega
theorem c_become2 {G : xa_G} {h : xa_H} (k kb kbr kam : Nat) (sj : Int) (pl lw br am : Nat → Int) (nb na ns : Nat) (fs lst : Int) (po sp : Nat → Int) (tj tb : Int) (ld dg : Nat → Int) (jo : Nat) (wa sr pu ri : Int) (hk : 2 ≤ k) (hkn : k + 7 < h.2) (hkb : 2 ≤ kb) (hkk : kb + 3 ≤ k) (hkbr : k + 8 ≤ kbr ∨ kbr = k + 3) (hkbr2 : kbr < h.2) (hkam : k + 8 ≤ kam ∨ kam = k + 4) (hkam2 : kam < h.2) (n : Int) (hn : 0 ≤ n ∧ n ≤ 4000000) (hpl : ∀ i, 0 ≤ pl i ∧ pl i ≤ 12) (hT0 : h.1 k = xa_o 6 [xa_r kb, xa_r (k + 5), xa_i sj, xa_r (k + 1), xa_r (k + 2), xa_i ((ns : Nat) : Int), xa_i fs, xa_i lst, xa_r kbr, xa_r kam]) (hT1 : h.1 (k + 1) = xa_a 2 pl) (hT2 : h.1 (k + 2) = xa_a 2 lw) (hT3 : h.1 kbr = xa_a nb br) (hT4 : h.1 kam = xa_a na am) (hS0 : h.1 (k + 5) = xa_o 4 [xa_r kb, xa_r (k + 5 + 1), xa_r (k + 5 + 2), xa_i tj, xa_i tb]) (hS1 : h.1 (k + 5 + 1) = xa_a 3 po) (hS2 : h.1 (k + 5 + 2) = xa_a 2 sp) (hB0 : h.1 kb = xa_o 0 [xa_r (kb + 1), xa_r (kb + 2), xa_i 2, xa_i ((jo : Nat) : Int), xa_i wa, xa_i sr, xa_i pu, xa_i ri]) (hB1 : h.1 (kb + 1) = xa_a 9 ld) (hB2 : h.1 (kb + 2) = xa_a 2 dg) : xa_M G mX6_become [xa_r k, xa_i n] h 0 0 (fun r h' => r = none ∧ h'.1 (k + 5 + 1) = xa_a 3 (xa_upf (xa_upf po 0 (n % 3)) 1 ((n / 3) % 3)) ∧ h'.1 (k + 5 + 2) = xa_a 2 (xa_upf (xa_upf sp 0 (((n / 3) / 3) % (max (pl 0) 1) + lw 0)) 1 ((((n / 3) / 3) / (max (pl 0) 1)) % (max (pl 1) 1) + lw 1)) ∧ h'.2 = h.2 ∧ ∀ i, (i ≠ k + 5 + 1 ∧ i ≠ k + 5 + 2) → h'.1 i = h.1 i) := by
  refine xa_enter (by decide +kernel) (Nat.le_of_ble_eq_true rfl) ?_
  refine xa_locals (ls' := [some (xa_r k), some (xa_i n), none, none, none]) rfl ?_
  have hn : h.2 = h.2 := rfl
  have fr : ∀ i, (i ≠ k + 5 + 1 ∧ i ≠ k + 5 + 2) → h.1 i = h.1 i := fun _ _ => rfl
  have p0 := hpl 0
  have p1 := hpl 1
  refine xa_iload_n (pc := 0) dX6_become_0 rfl ?_
  refine xa_istoren (pc := 1) [some (xa_r k), some (xa_i n), some (xa_i n), none, none] dX6_become_1 (by decide) (Nat.le_of_ble_eq_true rfl) rfl rfl ?_
  refine xa_iconst (pc := 2) dX6_become_2 ?_
  refine xa_istoren (pc := 3) [some (xa_r k), some (xa_i n), some (xa_i n), some (xa_i 0), none] dX6_become_3 (by decide) (Nat.le_of_ble_eq_true rfl) rfl rfl ?_
  refine xa_iload_n (pc := 4) dX6_become_4 rfl ?_
  refine xa_aload_n (pc := 5) dX6_become_5 rfl ?_
  refine xa_getfield (pc := 6) dX6_become_6 flRX6_24 (by omega) (by omega) hT0 rfl ?_
  refine xa_getfield (pc := 9) dX6_become_9 flRX6_41 (by omega) (by omega) hB0 rfl ?_
  refine xa_icmp_ge (pc := 12) (tgt := 42) dX6_become_12 (by decide) (by decide) (by decide) (fun c_12 => ?_) (fun c_12 => ?_)
  · skip
    exfalso; omega
  · skip
    refine xa_iload_n (pc := 15) dX6_become_15 rfl ?_
    refine xa_iconst (pc := 16) dX6_become_16 ?_
    refine xa_icmp_ge (pc := 17) (tgt := 42) dX6_become_17 (by decide) (by decide) (by decide) (fun c_17 => ?_) (fun c_17 => ?_)
    · skip
      exfalso; omega
    · skip
      refine xa_aload_n (pc := 20) dX6_become_20 rfl ?_
      refine xa_getfield (pc := 21) dX6_become_21 flRX6_37 (by omega) (by omega) hT0 rfl ?_
      refine xa_getfield (pc := 24) dX6_become_24 flRX6_74 (by omega) (by omega) hS0 rfl ?_
      refine xa_iload_n (pc := 27) dX6_become_27 rfl ?_
      refine xa_iload_n (pc := 28) dX6_become_28 rfl ?_
      refine xa_iconst (pc := 29) dX6_become_29 ?_
      refine xa_iremn (pc := 30) dX6_become_30 ⟨by omega, by omega⟩ (by decide) (by omega) (by omega) ?_
      refine xa_iastw (pc := 31) 0 dX6_become_31 (by omega) (by omega) hS1 (by omega) (by omega) rfl (fun h1 nh1 ch1 oh1 => ?_)
      have hS1 : h1.1 (k + 5 + 1) = xa_a 3 (xa_upf po 0 (n % 3)) := ch1
      have hT0 : h1.1 k = xa_o 6 [xa_r kb, xa_r (k + 5), xa_i sj, xa_r (k + 1), xa_r (k + 2), xa_i ((ns : Nat) : Int), xa_i fs, xa_i lst, xa_r kbr, xa_r kam] := (oh1 _ (by omega)).trans hT0
      have hT1 : h1.1 (k + 1) = xa_a 2 pl := (oh1 _ (by omega)).trans hT1
      have hT2 : h1.1 (k + 2) = xa_a 2 lw := (oh1 _ (by omega)).trans hT2
      have hT3 : h1.1 kbr = xa_a nb br := (oh1 _ (by omega)).trans hT3
      have hT4 : h1.1 kam = xa_a na am := (oh1 _ (by omega)).trans hT4
      have hS0 : h1.1 (k + 5) = xa_o 4 [xa_r kb, xa_r (k + 5 + 1), xa_r (k + 5 + 2), xa_i tj, xa_i tb] := (oh1 _ (by omega)).trans hS0
      have hS2 : h1.1 (k + 5 + 2) = xa_a 2 sp := (oh1 _ (by omega)).trans hS2
      have hB0 : h1.1 kb = xa_o 0 [xa_r (kb + 1), xa_r (kb + 2), xa_i 2, xa_i ((jo : Nat) : Int), xa_i wa, xa_i sr, xa_i pu, xa_i ri] := (oh1 _ (by omega)).trans hB0
      have hB1 : h1.1 (kb + 1) = xa_a 9 ld := (oh1 _ (by omega)).trans hB1
      have hB2 : h1.1 (kb + 2) = xa_a 2 dg := (oh1 _ (by omega)).trans hB2
      have hn : h1.2 = h.2 := nh1.trans hn
      have fr : ∀ i, (i ≠ k + 5 + 1 ∧ i ≠ k + 5 + 2) → h1.1 i = h.1 i := fun i hi => (oh1 i (by omega)).trans (fr i hi)
      refine xa_iload_n (pc := 32) dX6_become_32 rfl ?_
      refine xa_iconst (pc := 33) dX6_become_33 ?_
      refine xa_idivn (pc := 34) dX6_become_34 ⟨by omega, by omega⟩ (by decide) (by omega) (by omega) ?_
      refine xa_istoren (pc := 35) [some (xa_r k), some (xa_i n), some (xa_i (n / 3)), some (xa_i 0), none] dX6_become_35 (by decide) (Nat.le_of_ble_eq_true rfl) rfl rfl ?_
      refine xa_iincw (pc := 36) (y := 1) [some (xa_r k), some (xa_i n), some (xa_i (n / 3)), some (xa_i 1), none] dX6_become_36 (by decide) rfl rfl rfl rfl ?_
      refine xa_goto (pc := 39) (tgt := 4) dX6_become_39 (by decide) ?_
      refine xa_iload_n (pc := 4) dX6_become_4 rfl ?_
      refine xa_aload_n (pc := 5) dX6_become_5 rfl ?_
      refine xa_getfield (pc := 6) dX6_become_6 flRX6_24 (by omega) (by omega) hT0 rfl ?_
      refine xa_getfield (pc := 9) dX6_become_9 flRX6_41 (by omega) (by omega) hB0 rfl ?_
      refine xa_icmp_ge (pc := 12) (tgt := 42) dX6_become_12 (by decide) (by decide) (by decide) (fun c_12 => ?_) (fun c_12 => ?_)
      · skip
        exfalso; omega
      · skip
        refine xa_iload_n (pc := 15) dX6_become_15 rfl ?_
        refine xa_iconst (pc := 16) dX6_become_16 ?_
        refine xa_icmp_ge (pc := 17) (tgt := 42) dX6_become_17 (by decide) (by decide) (by decide) (fun c_17 => ?_) (fun c_17 => ?_)
        · skip
          exfalso; omega
        · skip
          refine xa_aload_n (pc := 20) dX6_become_20 rfl ?_
          refine xa_getfield (pc := 21) dX6_become_21 flRX6_37 (by omega) (by omega) hT0 rfl ?_
          refine xa_getfield (pc := 24) dX6_become_24 flRX6_74 (by omega) (by omega) hS0 rfl ?_
          refine xa_iload_n (pc := 27) dX6_become_27 rfl ?_
          refine xa_iload_n (pc := 28) dX6_become_28 rfl ?_
          refine xa_iconst (pc := 29) dX6_become_29 ?_
          refine xa_iremn (pc := 30) dX6_become_30 ⟨by omega, by omega⟩ (by decide) (by omega) (by omega) ?_
          refine xa_iastw (pc := 31) 1 dX6_become_31 (by omega) (by omega) hS1 (by omega) (by omega) rfl (fun h2 nh2 ch2 oh2 => ?_)
          have hS1 : h2.1 (k + 5 + 1) = xa_a 3 (xa_upf (xa_upf po 0 (n % 3)) 1 ((n / 3) % 3)) := ch2
          have hT0 : h2.1 k = xa_o 6 [xa_r kb, xa_r (k + 5), xa_i sj, xa_r (k + 1), xa_r (k + 2), xa_i ((ns : Nat) : Int), xa_i fs, xa_i lst, xa_r kbr, xa_r kam] := (oh2 _ (by omega)).trans hT0
          have hT1 : h2.1 (k + 1) = xa_a 2 pl := (oh2 _ (by omega)).trans hT1
          have hT2 : h2.1 (k + 2) = xa_a 2 lw := (oh2 _ (by omega)).trans hT2
          have hT3 : h2.1 kbr = xa_a nb br := (oh2 _ (by omega)).trans hT3
          have hT4 : h2.1 kam = xa_a na am := (oh2 _ (by omega)).trans hT4
          have hS0 : h2.1 (k + 5) = xa_o 4 [xa_r kb, xa_r (k + 5 + 1), xa_r (k + 5 + 2), xa_i tj, xa_i tb] := (oh2 _ (by omega)).trans hS0
          have hS2 : h2.1 (k + 5 + 2) = xa_a 2 sp := (oh2 _ (by omega)).trans hS2
          have hB0 : h2.1 kb = xa_o 0 [xa_r (kb + 1), xa_r (kb + 2), xa_i 2, xa_i ((jo : Nat) : Int), xa_i wa, xa_i sr, xa_i pu, xa_i ri] := (oh2 _ (by omega)).trans hB0
          have hB1 : h2.1 (kb + 1) = xa_a 9 ld := (oh2 _ (by omega)).trans hB1
          have hB2 : h2.1 (kb + 2) = xa_a 2 dg := (oh2 _ (by omega)).trans hB2
          have hn : h2.2 = h.2 := nh2.trans hn
          have fr : ∀ i, (i ≠ k + 5 + 1 ∧ i ≠ k + 5 + 2) → h2.1 i = h.1 i := fun i hi => (oh2 i (by omega)).trans (fr i hi)
          refine xa_iload_n (pc := 32) dX6_become_32 rfl ?_
          refine xa_iconst (pc := 33) dX6_become_33 ?_
          refine xa_idivn (pc := 34) dX6_become_34 ⟨by omega, by omega⟩ (by decide) (by omega) (by omega) ?_
          refine xa_istoren (pc := 35) [some (xa_r k), some (xa_i n), some (xa_i ((n / 3) / 3)), some (xa_i 1), none] dX6_become_35 (by decide) (Nat.le_of_ble_eq_true rfl) rfl rfl ?_
          refine xa_iincw (pc := 36) (y := 2) [some (xa_r k), some (xa_i n), some (xa_i ((n / 3) / 3)), some (xa_i 2), none] dX6_become_36 (by decide) rfl rfl rfl rfl ?_
          refine xa_goto (pc := 39) (tgt := 4) dX6_become_39 (by decide) ?_
          refine xa_iload_n (pc := 4) dX6_become_4 rfl ?_
          refine xa_aload_n (pc := 5) dX6_become_5 rfl ?_
          refine xa_getfield (pc := 6) dX6_become_6 flRX6_24 (by omega) (by omega) hT0 rfl ?_
          refine xa_getfield (pc := 9) dX6_become_9 flRX6_41 (by omega) (by omega) hB0 rfl ?_
          refine xa_icmp_ge (pc := 12) (tgt := 42) dX6_become_12 (by decide) (by decide) (by decide) (fun c_12 => ?_) (fun c_12 => ?_)
          · skip
            refine xa_iconst (pc := 42) dX6_become_42 ?_
            refine xa_istoren (pc := 43) [some (xa_r k), some (xa_i n), some (xa_i ((n / 3) / 3)), some (xa_i 0), none] dX6_become_43 (by decide) (Nat.le_of_ble_eq_true rfl) rfl rfl ?_
            refine xa_iload_n (pc := 44) dX6_become_44 rfl ?_
            refine xa_aload_n (pc := 45) dX6_become_45 rfl ?_
            refine xa_getfield (pc := 46) dX6_become_46 flRX6_9 (by omega) (by omega) hT0 rfl ?_
            refine xa_alen (pc := 49) dX6_become_49 (by omega) hT1 ?_
            refine xa_top (y := 2) rfl ?_
            refine xa_icmp_ge (pc := 50) (tgt := 96) dX6_become_50 (by decide) (by decide) (by decide) (fun c_50 => ?_) (fun c_50 => ?_)
            · skip
              exfalso; omega
            · skip
              refine xa_aload_n (pc := 53) dX6_become_53 rfl ?_
              refine xa_getfield (pc := 54) dX6_become_54 flRX6_9 (by omega) (by omega) hT0 rfl ?_
              refine xa_iload_n (pc := 57) dX6_become_57 rfl ?_
              refine xa_ialdw (pc := 58) 0 dX6_become_58 (by omega) hT1 (by omega) (by omega) rfl ?_
              refine xa_iconst (pc := 59) dX6_become_59 ?_
              refine xa_callS (pc := 60) (as := [xa_i (pl 0), xa_i 1]) (rest := []) dX6_become_60 ⟨qJ9_max_7cf53.1, qJ9_max_7cf53.2.1, qJ9_max_7cf53.2.2, by decide, by decide⟩ lkRX6_56 smJ9_max_7cf53 rfl rfl (Nat.le_of_ble_eq_true rfl) (Nat.zero_le _) (Nat.zero_le _) (c_max _ _ ⟨by omega, by omega⟩ (by decide)) (fun r h' hq => ?_)
              obtain ⟨rfl, hq⟩ := hq
              have hq := hq.symm
              subst hq
              refine xa_istorew (pc := 63) [some (xa_r k), some (xa_i n), some (xa_i ((n / 3) / 3)), some (xa_i 0), some (xa_i (max (pl 0) 1))] dX6_become_63 (by decide) (Nat.le_of_ble_eq_true rfl) rfl rfl ?_
              refine xa_aload_n (pc := 65) dX6_become_65 rfl ?_
              refine xa_getfield (pc := 66) dX6_become_66 flRX6_37 (by omega) (by omega) hT0 rfl ?_
              refine xa_getfield (pc := 69) dX6_become_69 flRX6_87 (by omega) (by omega) hS0 rfl ?_
              refine xa_iload_n (pc := 72) dX6_become_72 rfl ?_
              refine xa_iload_n (pc := 73) dX6_become_73 rfl ?_
              have q0 := sp_dv (x := (n / 3) / 3) (y := (max (pl 0) 1)) (by omega) (by omega)
              refine xa_iload (pc := 74) dX6_become_74 rfl ?_
              refine xa_iremn (pc := 76) dX6_become_76 ⟨by omega, by omega⟩ ⟨by omega, by omega⟩ (by omega) (by omega) ?_
              refine xa_aload_n (pc := 77) dX6_become_77 rfl ?_
              refine xa_getfield (pc := 78) dX6_become_78 flRX6_15 (by omega) (by omega) hT0 rfl ?_
              refine xa_iload_n (pc := 81) dX6_become_81 rfl ?_
              refine xa_ialdw (pc := 82) 0 dX6_become_82 (by omega) hT2 (by omega) (by omega) rfl ?_
              refine xa_iadd (pc := 83) dX6_become_83 ?_
              refine xa_iastw (pc := 84) 0 dX6_become_84 (by omega) (by omega) hS2 (by omega) (by omega) rfl (fun h3 nh3 ch3 oh3 => ?_)
              have hS2 : h3.1 (k + 5 + 2) = xa_a 2 (xa_upf sp 0 ((((n / 3) / 3) % (max (pl 0) 1)) + (lw 0))) := ch3
              have hT0 : h3.1 k = xa_o 6 [xa_r kb, xa_r (k + 5), xa_i sj, xa_r (k + 1), xa_r (k + 2), xa_i ((ns : Nat) : Int), xa_i fs, xa_i lst, xa_r kbr, xa_r kam] := (oh3 _ (by omega)).trans hT0
              have hT1 : h3.1 (k + 1) = xa_a 2 pl := (oh3 _ (by omega)).trans hT1
              have hT2 : h3.1 (k + 2) = xa_a 2 lw := (oh3 _ (by omega)).trans hT2
              have hT3 : h3.1 kbr = xa_a nb br := (oh3 _ (by omega)).trans hT3
              have hT4 : h3.1 kam = xa_a na am := (oh3 _ (by omega)).trans hT4
              have hS0 : h3.1 (k + 5) = xa_o 4 [xa_r kb, xa_r (k + 5 + 1), xa_r (k + 5 + 2), xa_i tj, xa_i tb] := (oh3 _ (by omega)).trans hS0
              have hS1 : h3.1 (k + 5 + 1) = xa_a 3 (xa_upf (xa_upf po 0 (n % 3)) 1 ((n / 3) % 3)) := (oh3 _ (by omega)).trans hS1
              have hB0 : h3.1 kb = xa_o 0 [xa_r (kb + 1), xa_r (kb + 2), xa_i 2, xa_i ((jo : Nat) : Int), xa_i wa, xa_i sr, xa_i pu, xa_i ri] := (oh3 _ (by omega)).trans hB0
              have hB1 : h3.1 (kb + 1) = xa_a 9 ld := (oh3 _ (by omega)).trans hB1
              have hB2 : h3.1 (kb + 2) = xa_a 2 dg := (oh3 _ (by omega)).trans hB2
              have hn : h3.2 = h.2 := nh3.trans hn
              have fr : ∀ i, (i ≠ k + 5 + 1 ∧ i ≠ k + 5 + 2) → h3.1 i = h.1 i := fun i hi => (oh3 i (by omega)).trans (fr i hi)
              refine xa_iload_n (pc := 85) dX6_become_85 rfl ?_
              refine xa_iload (pc := 86) dX6_become_86 rfl ?_
              refine xa_idivn (pc := 88) dX6_become_88 ⟨by omega, by omega⟩ ⟨by omega, by omega⟩ (by omega) (by omega) ?_
              refine xa_istoren (pc := 89) [some (xa_r k), some (xa_i n), some (xa_i (((n / 3) / 3) / (max (pl 0) 1))), some (xa_i 0), some (xa_i (max (pl 0) 1))] dX6_become_89 (by decide) (Nat.le_of_ble_eq_true rfl) rfl rfl ?_
              refine xa_iincw (pc := 90) (y := 1) [some (xa_r k), some (xa_i n), some (xa_i (((n / 3) / 3) / (max (pl 0) 1))), some (xa_i 1), some (xa_i (max (pl 0) 1))] dX6_become_90 (by decide) rfl rfl rfl rfl ?_
              refine xa_goto (pc := 93) (tgt := 44) dX6_become_93 (by decide) ?_
              refine xa_iload_n (pc := 44) dX6_become_44 rfl ?_
              refine xa_aload_n (pc := 45) dX6_become_45 rfl ?_
              refine xa_getfield (pc := 46) dX6_become_46 flRX6_9 (by omega) (by omega) hT0 rfl ?_
              refine xa_alen (pc := 49) dX6_become_49 (by omega) hT1 ?_
              refine xa_top (y := 2) rfl ?_
              refine xa_icmp_ge (pc := 50) (tgt := 96) dX6_become_50 (by decide) (by decide) (by decide) (fun c_50 => ?_) (fun c_50 => ?_)
              · skip
                exfalso; omega
              · skip
                refine xa_aload_n (pc := 53) dX6_become_53 rfl ?_
                refine xa_getfield (pc := 54) dX6_become_54 flRX6_9 (by omega) (by omega) hT0 rfl ?_
                refine xa_iload_n (pc := 57) dX6_become_57 rfl ?_
                refine xa_ialdw (pc := 58) 1 dX6_become_58 (by omega) hT1 (by omega) (by omega) rfl ?_
                refine xa_iconst (pc := 59) dX6_become_59 ?_
                refine xa_callS (pc := 60) (as := [xa_i (pl 1), xa_i 1]) (rest := []) dX6_become_60 ⟨qJ9_max_7cf53.1, qJ9_max_7cf53.2.1, qJ9_max_7cf53.2.2, by decide, by decide⟩ lkRX6_56 smJ9_max_7cf53 rfl rfl (Nat.le_of_ble_eq_true rfl) (Nat.zero_le _) (Nat.zero_le _) (c_max _ _ ⟨by omega, by omega⟩ (by decide)) (fun r h' hq => ?_)
                obtain ⟨rfl, hq⟩ := hq
                have hq := hq.symm
                subst hq
                refine xa_istorew (pc := 63) [some (xa_r k), some (xa_i n), some (xa_i (((n / 3) / 3) / (max (pl 0) 1))), some (xa_i 1), some (xa_i (max (pl 1) 1))] dX6_become_63 (by decide) (Nat.le_of_ble_eq_true rfl) rfl rfl ?_
                refine xa_aload_n (pc := 65) dX6_become_65 rfl ?_
                refine xa_getfield (pc := 66) dX6_become_66 flRX6_37 (by omega) (by omega) hT0 rfl ?_
                refine xa_getfield (pc := 69) dX6_become_69 flRX6_87 (by omega) (by omega) hS0 rfl ?_
                refine xa_iload_n (pc := 72) dX6_become_72 rfl ?_
                refine xa_iload_n (pc := 73) dX6_become_73 rfl ?_
                have q1 := sp_dv (x := ((n / 3) / 3) / (max (pl 0) 1)) (y := (max (pl 1) 1)) (by omega) (by omega)
                refine xa_iload (pc := 74) dX6_become_74 rfl ?_
                refine xa_iremn (pc := 76) dX6_become_76 ⟨by omega, by omega⟩ ⟨by omega, by omega⟩ (by omega) (by omega) ?_
                refine xa_aload_n (pc := 77) dX6_become_77 rfl ?_
                refine xa_getfield (pc := 78) dX6_become_78 flRX6_15 (by omega) (by omega) hT0 rfl ?_
                refine xa_iload_n (pc := 81) dX6_become_81 rfl ?_
                refine xa_ialdw (pc := 82) 1 dX6_become_82 (by omega) hT2 (by omega) (by omega) rfl ?_
                refine xa_iadd (pc := 83) dX6_become_83 ?_
                refine xa_iastw (pc := 84) 1 dX6_become_84 (by omega) (by omega) hS2 (by omega) (by omega) rfl (fun h4 nh4 ch4 oh4 => ?_)
                have hS2 : h4.1 (k + 5 + 2) = xa_a 2 (xa_upf (xa_upf sp 0 ((((n / 3) / 3) % (max (pl 0) 1)) + (lw 0))) 1 (((((n / 3) / 3) / (max (pl 0) 1)) % (max (pl 1) 1)) + (lw 1))) := ch4
                have hT0 : h4.1 k = xa_o 6 [xa_r kb, xa_r (k + 5), xa_i sj, xa_r (k + 1), xa_r (k + 2), xa_i ((ns : Nat) : Int), xa_i fs, xa_i lst, xa_r kbr, xa_r kam] := (oh4 _ (by omega)).trans hT0
                have hT1 : h4.1 (k + 1) = xa_a 2 pl := (oh4 _ (by omega)).trans hT1
                have hT2 : h4.1 (k + 2) = xa_a 2 lw := (oh4 _ (by omega)).trans hT2
                have hT3 : h4.1 kbr = xa_a nb br := (oh4 _ (by omega)).trans hT3
                have hT4 : h4.1 kam = xa_a na am := (oh4 _ (by omega)).trans hT4
                have hS0 : h4.1 (k + 5) = xa_o 4 [xa_r kb, xa_r (k + 5 + 1), xa_r (k + 5 + 2), xa_i tj, xa_i tb] := (oh4 _ (by omega)).trans hS0
                have hS1 : h4.1 (k + 5 + 1) = xa_a 3 (xa_upf (xa_upf po 0 (n % 3)) 1 ((n / 3) % 3)) := (oh4 _ (by omega)).trans hS1
                have hB0 : h4.1 kb = xa_o 0 [xa_r (kb + 1), xa_r (kb + 2), xa_i 2, xa_i ((jo : Nat) : Int), xa_i wa, xa_i sr, xa_i pu, xa_i ri] := (oh4 _ (by omega)).trans hB0
                have hB1 : h4.1 (kb + 1) = xa_a 9 ld := (oh4 _ (by omega)).trans hB1
                have hB2 : h4.1 (kb + 2) = xa_a 2 dg := (oh4 _ (by omega)).trans hB2
                have hn : h4.2 = h.2 := nh4.trans hn
                have fr : ∀ i, (i ≠ k + 5 + 1 ∧ i ≠ k + 5 + 2) → h4.1 i = h.1 i := fun i hi => (oh4 i (by omega)).trans (fr i hi)
                refine xa_iload_n (pc := 85) dX6_become_85 rfl ?_
                refine xa_iload (pc := 86) dX6_become_86 rfl ?_
                refine xa_idivn (pc := 88) dX6_become_88 ⟨by omega, by omega⟩ ⟨by omega, by omega⟩ (by omega) (by omega) ?_
                refine xa_istoren (pc := 89) [some (xa_r k), some (xa_i n), some (xa_i ((((n / 3) / 3) / (max (pl 0) 1)) / (max (pl 1) 1))), some (xa_i 1), some (xa_i (max (pl 1) 1))] dX6_become_89 (by decide) (Nat.le_of_ble_eq_true rfl) rfl rfl ?_
                refine xa_iincw (pc := 90) (y := 2) [some (xa_r k), some (xa_i n), some (xa_i ((((n / 3) / 3) / (max (pl 0) 1)) / (max (pl 1) 1))), some (xa_i 2), some (xa_i (max (pl 1) 1))] dX6_become_90 (by decide) rfl rfl rfl rfl ?_
                refine xa_goto (pc := 93) (tgt := 44) dX6_become_93 (by decide) ?_
                refine xa_iload_n (pc := 44) dX6_become_44 rfl ?_
                refine xa_aload_n (pc := 45) dX6_become_45 rfl ?_
                refine xa_getfield (pc := 46) dX6_become_46 flRX6_9 (by omega) (by omega) hT0 rfl ?_
                refine xa_alen (pc := 49) dX6_become_49 (by omega) hT1 ?_
                refine xa_top (y := 2) rfl ?_
                refine xa_icmp_ge (pc := 50) (tgt := 96) dX6_become_50 (by decide) (by decide) (by decide) (fun c_50 => ?_) (fun c_50 => ?_)
                · skip
                  refine xa_return (pc := 96) dX6_become_96 rfl ?_
                  exact ⟨rfl, hS1, hS2, hn, fr⟩
                · skip
                  exfalso; omega
          · skip
            exfalso; omega
theorem c_become3 {G : xa_G} {h : xa_H} (k kb kbr kam : Nat) (sj : Int) (pl lw br am : Nat → Int) (nb na ns : Nat) (fs lst : Int) (po sp : Nat → Int) (tj tb : Int) (ld dg : Nat → Int) (jo : Nat) (wa sr pu ri : Int) (hk : 2 ≤ k) (hkn : k + 7 < h.2) (hkb : 2 ≤ kb) (hkk : kb + 3 ≤ k) (hkbr : k + 8 ≤ kbr ∨ kbr = k + 3) (hkbr2 : kbr < h.2) (hkam : k + 8 ≤ kam ∨ kam = k + 4) (hkam2 : kam < h.2) (n : Int) (hn : 0 ≤ n ∧ n ≤ 4000000) (hpl : ∀ i, 0 ≤ pl i ∧ pl i ≤ 12) (hT0 : h.1 k = xa_o 6 [xa_r kb, xa_r (k + 5), xa_i sj, xa_r (k + 1), xa_r (k + 2), xa_i ((ns : Nat) : Int), xa_i fs, xa_i lst, xa_r kbr, xa_r kam]) (hT1 : h.1 (k + 1) = xa_a 2 pl) (hT2 : h.1 (k + 2) = xa_a 2 lw) (hT3 : h.1 kbr = xa_a nb br) (hT4 : h.1 kam = xa_a na am) (hS0 : h.1 (k + 5) = xa_o 4 [xa_r kb, xa_r (k + 5 + 1), xa_r (k + 5 + 2), xa_i tj, xa_i tb]) (hS1 : h.1 (k + 5 + 1) = xa_a 3 po) (hS2 : h.1 (k + 5 + 2) = xa_a 2 sp) (hB0 : h.1 kb = xa_o 0 [xa_r (kb + 1), xa_r (kb + 2), xa_i 3, xa_i ((jo : Nat) : Int), xa_i wa, xa_i sr, xa_i pu, xa_i ri]) (hB1 : h.1 (kb + 1) = xa_a 9 ld) (hB2 : h.1 (kb + 2) = xa_a 2 dg) : xa_M G mX6_become [xa_r k, xa_i n] h 0 0 (fun r h' => r = none ∧ h'.1 (k + 5 + 1) = xa_a 3 (xa_upf (xa_upf (xa_upf po 0 (n % 3)) 1 ((n / 3) % 3)) 2 (((n / 3) / 3) % 3)) ∧ h'.1 (k + 5 + 2) = xa_a 2 (xa_upf (xa_upf sp 0 ((((n / 3) / 3) / 3) % (max (pl 0) 1) + lw 0)) 1 (((((n / 3) / 3) / 3) / (max (pl 0) 1)) % (max (pl 1) 1) + lw 1)) ∧ h'.2 = h.2 ∧ ∀ i, (i ≠ k + 5 + 1 ∧ i ≠ k + 5 + 2) → h'.1 i = h.1 i) := by
  refine xa_enter (by decide +kernel) (Nat.le_of_ble_eq_true rfl) ?_
  refine xa_locals (ls' := [some (xa_r k), some (xa_i n), none, none, none]) rfl ?_
  have hn : h.2 = h.2 := rfl
  have fr : ∀ i, (i ≠ k + 5 + 1 ∧ i ≠ k + 5 + 2) → h.1 i = h.1 i := fun _ _ => rfl
  have p0 := hpl 0
  have p1 := hpl 1
  refine xa_iload_n (pc := 0) dX6_become_0 rfl ?_
  refine xa_istoren (pc := 1) [some (xa_r k), some (xa_i n), some (xa_i n), none, none] dX6_become_1 (by decide) (Nat.le_of_ble_eq_true rfl) rfl rfl ?_
  refine xa_iconst (pc := 2) dX6_become_2 ?_
  refine xa_istoren (pc := 3) [some (xa_r k), some (xa_i n), some (xa_i n), some (xa_i 0), none] dX6_become_3 (by decide) (Nat.le_of_ble_eq_true rfl) rfl rfl ?_
  refine xa_iload_n (pc := 4) dX6_become_4 rfl ?_
  refine xa_aload_n (pc := 5) dX6_become_5 rfl ?_
  refine xa_getfield (pc := 6) dX6_become_6 flRX6_24 (by omega) (by omega) hT0 rfl ?_
  refine xa_getfield (pc := 9) dX6_become_9 flRX6_41 (by omega) (by omega) hB0 rfl ?_
  refine xa_icmp_ge (pc := 12) (tgt := 42) dX6_become_12 (by decide) (by decide) (by decide) (fun c_12 => ?_) (fun c_12 => ?_)
  · skip
    exfalso; omega
  · skip
    refine xa_iload_n (pc := 15) dX6_become_15 rfl ?_
    refine xa_iconst (pc := 16) dX6_become_16 ?_
    refine xa_icmp_ge (pc := 17) (tgt := 42) dX6_become_17 (by decide) (by decide) (by decide) (fun c_17 => ?_) (fun c_17 => ?_)
    · skip
      exfalso; omega
    · skip
      refine xa_aload_n (pc := 20) dX6_become_20 rfl ?_
      refine xa_getfield (pc := 21) dX6_become_21 flRX6_37 (by omega) (by omega) hT0 rfl ?_
      refine xa_getfield (pc := 24) dX6_become_24 flRX6_74 (by omega) (by omega) hS0 rfl ?_
      refine xa_iload_n (pc := 27) dX6_become_27 rfl ?_
      refine xa_iload_n (pc := 28) dX6_become_28 rfl ?_
      refine xa_iconst (pc := 29) dX6_become_29 ?_
      refine xa_iremn (pc := 30) dX6_become_30 ⟨by omega, by omega⟩ (by decide) (by omega) (by omega) ?_
      refine xa_iastw (pc := 31) 0 dX6_become_31 (by omega) (by omega) hS1 (by omega) (by omega) rfl (fun h1 nh1 ch1 oh1 => ?_)
      have hS1 : h1.1 (k + 5 + 1) = xa_a 3 (xa_upf po 0 (n % 3)) := ch1
      have hT0 : h1.1 k = xa_o 6 [xa_r kb, xa_r (k + 5), xa_i sj, xa_r (k + 1), xa_r (k + 2), xa_i ((ns : Nat) : Int), xa_i fs, xa_i lst, xa_r kbr, xa_r kam] := (oh1 _ (by omega)).trans hT0
      have hT1 : h1.1 (k + 1) = xa_a 2 pl := (oh1 _ (by omega)).trans hT1
      have hT2 : h1.1 (k + 2) = xa_a 2 lw := (oh1 _ (by omega)).trans hT2
      have hT3 : h1.1 kbr = xa_a nb br := (oh1 _ (by omega)).trans hT3
      have hT4 : h1.1 kam = xa_a na am := (oh1 _ (by omega)).trans hT4
      have hS0 : h1.1 (k + 5) = xa_o 4 [xa_r kb, xa_r (k + 5 + 1), xa_r (k + 5 + 2), xa_i tj, xa_i tb] := (oh1 _ (by omega)).trans hS0
      have hS2 : h1.1 (k + 5 + 2) = xa_a 2 sp := (oh1 _ (by omega)).trans hS2
      have hB0 : h1.1 kb = xa_o 0 [xa_r (kb + 1), xa_r (kb + 2), xa_i 3, xa_i ((jo : Nat) : Int), xa_i wa, xa_i sr, xa_i pu, xa_i ri] := (oh1 _ (by omega)).trans hB0
      have hB1 : h1.1 (kb + 1) = xa_a 9 ld := (oh1 _ (by omega)).trans hB1
      have hB2 : h1.1 (kb + 2) = xa_a 2 dg := (oh1 _ (by omega)).trans hB2
      have hn : h1.2 = h.2 := nh1.trans hn
      have fr : ∀ i, (i ≠ k + 5 + 1 ∧ i ≠ k + 5 + 2) → h1.1 i = h.1 i := fun i hi => (oh1 i (by omega)).trans (fr i hi)
      refine xa_iload_n (pc := 32) dX6_become_32 rfl ?_
      refine xa_iconst (pc := 33) dX6_become_33 ?_
      refine xa_idivn (pc := 34) dX6_become_34 ⟨by omega, by omega⟩ (by decide) (by omega) (by omega) ?_
      refine xa_istoren (pc := 35) [some (xa_r k), some (xa_i n), some (xa_i (n / 3)), some (xa_i 0), none] dX6_become_35 (by decide) (Nat.le_of_ble_eq_true rfl) rfl rfl ?_
      refine xa_iincw (pc := 36) (y := 1) [some (xa_r k), some (xa_i n), some (xa_i (n / 3)), some (xa_i 1), none] dX6_become_36 (by decide) rfl rfl rfl rfl ?_
      refine xa_goto (pc := 39) (tgt := 4) dX6_become_39 (by decide) ?_
      refine xa_iload_n (pc := 4) dX6_become_4 rfl ?_
      refine xa_aload_n (pc := 5) dX6_become_5 rfl ?_
      refine xa_getfield (pc := 6) dX6_become_6 flRX6_24 (by omega) (by omega) hT0 rfl ?_
      refine xa_getfield (pc := 9) dX6_become_9 flRX6_41 (by omega) (by omega) hB0 rfl ?_
      refine xa_icmp_ge (pc := 12) (tgt := 42) dX6_become_12 (by decide) (by decide) (by decide) (fun c_12 => ?_) (fun c_12 => ?_)
      · skip
        exfalso; omega
      · skip
        refine xa_iload_n (pc := 15) dX6_become_15 rfl ?_
        refine xa_iconst (pc := 16) dX6_become_16 ?_
        refine xa_icmp_ge (pc := 17) (tgt := 42) dX6_become_17 (by decide) (by decide) (by decide) (fun c_17 => ?_) (fun c_17 => ?_)
        · skip
          exfalso; omega
        · skip
          refine xa_aload_n (pc := 20) dX6_become_20 rfl ?_
          refine xa_getfield (pc := 21) dX6_become_21 flRX6_37 (by omega) (by omega) hT0 rfl ?_
          refine xa_getfield (pc := 24) dX6_become_24 flRX6_74 (by omega) (by omega) hS0 rfl ?_
          refine xa_iload_n (pc := 27) dX6_become_27 rfl ?_
          refine xa_iload_n (pc := 28) dX6_become_28 rfl ?_
          refine xa_iconst (pc := 29) dX6_become_29 ?_
          refine xa_iremn (pc := 30) dX6_become_30 ⟨by omega, by omega⟩ (by decide) (by omega) (by omega) ?_
          refine xa_iastw (pc := 31) 1 dX6_become_31 (by omega) (by omega) hS1 (by omega) (by omega) rfl (fun h2 nh2 ch2 oh2 => ?_)
          have hS1 : h2.1 (k + 5 + 1) = xa_a 3 (xa_upf (xa_upf po 0 (n % 3)) 1 ((n / 3) % 3)) := ch2
          have hT0 : h2.1 k = xa_o 6 [xa_r kb, xa_r (k + 5), xa_i sj, xa_r (k + 1), xa_r (k + 2), xa_i ((ns : Nat) : Int), xa_i fs, xa_i lst, xa_r kbr, xa_r kam] := (oh2 _ (by omega)).trans hT0
          have hT1 : h2.1 (k + 1) = xa_a 2 pl := (oh2 _ (by omega)).trans hT1
          have hT2 : h2.1 (k + 2) = xa_a 2 lw := (oh2 _ (by omega)).trans hT2
          have hT3 : h2.1 kbr = xa_a nb br := (oh2 _ (by omega)).trans hT3
          have hT4 : h2.1 kam = xa_a na am := (oh2 _ (by omega)).trans hT4
          have hS0 : h2.1 (k + 5) = xa_o 4 [xa_r kb, xa_r (k + 5 + 1), xa_r (k + 5 + 2), xa_i tj, xa_i tb] := (oh2 _ (by omega)).trans hS0
          have hS2 : h2.1 (k + 5 + 2) = xa_a 2 sp := (oh2 _ (by omega)).trans hS2
          have hB0 : h2.1 kb = xa_o 0 [xa_r (kb + 1), xa_r (kb + 2), xa_i 3, xa_i ((jo : Nat) : Int), xa_i wa, xa_i sr, xa_i pu, xa_i ri] := (oh2 _ (by omega)).trans hB0
          have hB1 : h2.1 (kb + 1) = xa_a 9 ld := (oh2 _ (by omega)).trans hB1
          have hB2 : h2.1 (kb + 2) = xa_a 2 dg := (oh2 _ (by omega)).trans hB2
          have hn : h2.2 = h.2 := nh2.trans hn
          have fr : ∀ i, (i ≠ k + 5 + 1 ∧ i ≠ k + 5 + 2) → h2.1 i = h.1 i := fun i hi => (oh2 i (by omega)).trans (fr i hi)
          refine xa_iload_n (pc := 32) dX6_become_32 rfl ?_
          refine xa_iconst (pc := 33) dX6_become_33 ?_
          refine xa_idivn (pc := 34) dX6_become_34 ⟨by omega, by omega⟩ (by decide) (by omega) (by omega) ?_
          refine xa_istoren (pc := 35) [some (xa_r k), some (xa_i n), some (xa_i ((n / 3) / 3)), some (xa_i 1), none] dX6_become_35 (by decide) (Nat.le_of_ble_eq_true rfl) rfl rfl ?_
          refine xa_iincw (pc := 36) (y := 2) [some (xa_r k), some (xa_i n), some (xa_i ((n / 3) / 3)), some (xa_i 2), none] dX6_become_36 (by decide) rfl rfl rfl rfl ?_
          refine xa_goto (pc := 39) (tgt := 4) dX6_become_39 (by decide) ?_
          refine xa_iload_n (pc := 4) dX6_become_4 rfl ?_
          refine xa_aload_n (pc := 5) dX6_become_5 rfl ?_
          refine xa_getfield (pc := 6) dX6_become_6 flRX6_24 (by omega) (by omega) hT0 rfl ?_
          refine xa_getfield (pc := 9) dX6_become_9 flRX6_41 (by omega) (by omega) hB0 rfl ?_
          refine xa_icmp_ge (pc := 12) (tgt := 42) dX6_become_12 (by decide) (by decide) (by decide) (fun c_12 => ?_) (fun c_12 => ?_)
          · skip
            exfalso; omega
          · skip
            refine xa_iload_n (pc := 15) dX6_become_15 rfl ?_
            refine xa_iconst (pc := 16) dX6_become_16 ?_
            refine xa_icmp_ge (pc := 17) (tgt := 42) dX6_become_17 (by decide) (by decide) (by decide) (fun c_17 => ?_) (fun c_17 => ?_)
            · skip
              exfalso; omega
            · skip
              refine xa_aload_n (pc := 20) dX6_become_20 rfl ?_
              refine xa_getfield (pc := 21) dX6_become_21 flRX6_37 (by omega) (by omega) hT0 rfl ?_
              refine xa_getfield (pc := 24) dX6_become_24 flRX6_74 (by omega) (by omega) hS0 rfl ?_
              refine xa_iload_n (pc := 27) dX6_become_27 rfl ?_
              refine xa_iload_n (pc := 28) dX6_become_28 rfl ?_
              refine xa_iconst (pc := 29) dX6_become_29 ?_
              refine xa_iremn (pc := 30) dX6_become_30 ⟨by omega, by omega⟩ (by decide) (by omega) (by omega) ?_
              refine xa_iastw (pc := 31) 2 dX6_become_31 (by omega) (by omega) hS1 (by omega) (by omega) rfl (fun h3 nh3 ch3 oh3 => ?_)
              have hS1 : h3.1 (k + 5 + 1) = xa_a 3 (xa_upf (xa_upf (xa_upf po 0 (n % 3)) 1 ((n / 3) % 3)) 2 (((n / 3) / 3) % 3)) := ch3
              have hT0 : h3.1 k = xa_o 6 [xa_r kb, xa_r (k + 5), xa_i sj, xa_r (k + 1), xa_r (k + 2), xa_i ((ns : Nat) : Int), xa_i fs, xa_i lst, xa_r kbr, xa_r kam] := (oh3 _ (by omega)).trans hT0
              have hT1 : h3.1 (k + 1) = xa_a 2 pl := (oh3 _ (by omega)).trans hT1
              have hT2 : h3.1 (k + 2) = xa_a 2 lw := (oh3 _ (by omega)).trans hT2
              have hT3 : h3.1 kbr = xa_a nb br := (oh3 _ (by omega)).trans hT3
              have hT4 : h3.1 kam = xa_a na am := (oh3 _ (by omega)).trans hT4
              have hS0 : h3.1 (k + 5) = xa_o 4 [xa_r kb, xa_r (k + 5 + 1), xa_r (k + 5 + 2), xa_i tj, xa_i tb] := (oh3 _ (by omega)).trans hS0
              have hS2 : h3.1 (k + 5 + 2) = xa_a 2 sp := (oh3 _ (by omega)).trans hS2
              have hB0 : h3.1 kb = xa_o 0 [xa_r (kb + 1), xa_r (kb + 2), xa_i 3, xa_i ((jo : Nat) : Int), xa_i wa, xa_i sr, xa_i pu, xa_i ri] := (oh3 _ (by omega)).trans hB0
              have hB1 : h3.1 (kb + 1) = xa_a 9 ld := (oh3 _ (by omega)).trans hB1
              have hB2 : h3.1 (kb + 2) = xa_a 2 dg := (oh3 _ (by omega)).trans hB2
              have hn : h3.2 = h.2 := nh3.trans hn
              have fr : ∀ i, (i ≠ k + 5 + 1 ∧ i ≠ k + 5 + 2) → h3.1 i = h.1 i := fun i hi => (oh3 i (by omega)).trans (fr i hi)
              refine xa_iload_n (pc := 32) dX6_become_32 rfl ?_
              refine xa_iconst (pc := 33) dX6_become_33 ?_
              refine xa_idivn (pc := 34) dX6_become_34 ⟨by omega, by omega⟩ (by decide) (by omega) (by omega) ?_
              refine xa_istoren (pc := 35) [some (xa_r k), some (xa_i n), some (xa_i (((n / 3) / 3) / 3)), some (xa_i 2), none] dX6_become_35 (by decide) (Nat.le_of_ble_eq_true rfl) rfl rfl ?_
              refine xa_iincw (pc := 36) (y := 3) [some (xa_r k), some (xa_i n), some (xa_i (((n / 3) / 3) / 3)), some (xa_i 3), none] dX6_become_36 (by decide) rfl rfl rfl rfl ?_
              refine xa_goto (pc := 39) (tgt := 4) dX6_become_39 (by decide) ?_
              refine xa_iload_n (pc := 4) dX6_become_4 rfl ?_
              refine xa_aload_n (pc := 5) dX6_become_5 rfl ?_
              refine xa_getfield (pc := 6) dX6_become_6 flRX6_24 (by omega) (by omega) hT0 rfl ?_
              refine xa_getfield (pc := 9) dX6_become_9 flRX6_41 (by omega) (by omega) hB0 rfl ?_
              refine xa_icmp_ge (pc := 12) (tgt := 42) dX6_become_12 (by decide) (by decide) (by decide) (fun c_12 => ?_) (fun c_12 => ?_)
              · skip
                refine xa_iconst (pc := 42) dX6_become_42 ?_
                refine xa_istoren (pc := 43) [some (xa_r k), some (xa_i n), some (xa_i (((n / 3) / 3) / 3)), some (xa_i 0), none] dX6_become_43 (by decide) (Nat.le_of_ble_eq_true rfl) rfl rfl ?_
                refine xa_iload_n (pc := 44) dX6_become_44 rfl ?_
                refine xa_aload_n (pc := 45) dX6_become_45 rfl ?_
                refine xa_getfield (pc := 46) dX6_become_46 flRX6_9 (by omega) (by omega) hT0 rfl ?_
                refine xa_alen (pc := 49) dX6_become_49 (by omega) hT1 ?_
                refine xa_top (y := 2) rfl ?_
                refine xa_icmp_ge (pc := 50) (tgt := 96) dX6_become_50 (by decide) (by decide) (by decide) (fun c_50 => ?_) (fun c_50 => ?_)
                · skip
                  exfalso; omega
                · skip
                  refine xa_aload_n (pc := 53) dX6_become_53 rfl ?_
                  refine xa_getfield (pc := 54) dX6_become_54 flRX6_9 (by omega) (by omega) hT0 rfl ?_
                  refine xa_iload_n (pc := 57) dX6_become_57 rfl ?_
                  refine xa_ialdw (pc := 58) 0 dX6_become_58 (by omega) hT1 (by omega) (by omega) rfl ?_
                  refine xa_iconst (pc := 59) dX6_become_59 ?_
                  refine xa_callS (pc := 60) (as := [xa_i (pl 0), xa_i 1]) (rest := []) dX6_become_60 ⟨qJ9_max_7cf53.1, qJ9_max_7cf53.2.1, qJ9_max_7cf53.2.2, by decide, by decide⟩ lkRX6_56 smJ9_max_7cf53 rfl rfl (Nat.le_of_ble_eq_true rfl) (Nat.zero_le _) (Nat.zero_le _) (c_max _ _ ⟨by omega, by omega⟩ (by decide)) (fun r h' hq => ?_)
                  obtain ⟨rfl, hq⟩ := hq
                  have hq := hq.symm
                  subst hq
                  refine xa_istorew (pc := 63) [some (xa_r k), some (xa_i n), some (xa_i (((n / 3) / 3) / 3)), some (xa_i 0), some (xa_i (max (pl 0) 1))] dX6_become_63 (by decide) (Nat.le_of_ble_eq_true rfl) rfl rfl ?_
                  refine xa_aload_n (pc := 65) dX6_become_65 rfl ?_
                  refine xa_getfield (pc := 66) dX6_become_66 flRX6_37 (by omega) (by omega) hT0 rfl ?_
                  refine xa_getfield (pc := 69) dX6_become_69 flRX6_87 (by omega) (by omega) hS0 rfl ?_
                  refine xa_iload_n (pc := 72) dX6_become_72 rfl ?_
                  refine xa_iload_n (pc := 73) dX6_become_73 rfl ?_
                  have q0 := sp_dv (x := ((n / 3) / 3) / 3) (y := (max (pl 0) 1)) (by omega) (by omega)
                  refine xa_iload (pc := 74) dX6_become_74 rfl ?_
                  refine xa_iremn (pc := 76) dX6_become_76 ⟨by omega, by omega⟩ ⟨by omega, by omega⟩ (by omega) (by omega) ?_
                  refine xa_aload_n (pc := 77) dX6_become_77 rfl ?_
                  refine xa_getfield (pc := 78) dX6_become_78 flRX6_15 (by omega) (by omega) hT0 rfl ?_
                  refine xa_iload_n (pc := 81) dX6_become_81 rfl ?_
                  refine xa_ialdw (pc := 82) 0 dX6_become_82 (by omega) hT2 (by omega) (by omega) rfl ?_
                  refine xa_iadd (pc := 83) dX6_become_83 ?_
                  refine xa_iastw (pc := 84) 0 dX6_become_84 (by omega) (by omega) hS2 (by omega) (by omega) rfl (fun h4 nh4 ch4 oh4 => ?_)
                  have hS2 : h4.1 (k + 5 + 2) = xa_a 2 (xa_upf sp 0 (((((n / 3) / 3) / 3) % (max (pl 0) 1)) + (lw 0))) := ch4
                  have hT0 : h4.1 k = xa_o 6 [xa_r kb, xa_r (k + 5), xa_i sj, xa_r (k + 1), xa_r (k + 2), xa_i ((ns : Nat) : Int), xa_i fs, xa_i lst, xa_r kbr, xa_r kam] := (oh4 _ (by omega)).trans hT0
                  have hT1 : h4.1 (k + 1) = xa_a 2 pl := (oh4 _ (by omega)).trans hT1
                  have hT2 : h4.1 (k + 2) = xa_a 2 lw := (oh4 _ (by omega)).trans hT2
                  have hT3 : h4.1 kbr = xa_a nb br := (oh4 _ (by omega)).trans hT3
                  have hT4 : h4.1 kam = xa_a na am := (oh4 _ (by omega)).trans hT4
                  have hS0 : h4.1 (k + 5) = xa_o 4 [xa_r kb, xa_r (k + 5 + 1), xa_r (k + 5 + 2), xa_i tj, xa_i tb] := (oh4 _ (by omega)).trans hS0
                  have hS1 : h4.1 (k + 5 + 1) = xa_a 3 (xa_upf (xa_upf (xa_upf po 0 (n % 3)) 1 ((n / 3) % 3)) 2 (((n / 3) / 3) % 3)) := (oh4 _ (by omega)).trans hS1
                  have hB0 : h4.1 kb = xa_o 0 [xa_r (kb + 1), xa_r (kb + 2), xa_i 3, xa_i ((jo : Nat) : Int), xa_i wa, xa_i sr, xa_i pu, xa_i ri] := (oh4 _ (by omega)).trans hB0
                  have hB1 : h4.1 (kb + 1) = xa_a 9 ld := (oh4 _ (by omega)).trans hB1
                  have hB2 : h4.1 (kb + 2) = xa_a 2 dg := (oh4 _ (by omega)).trans hB2
                  have hn : h4.2 = h.2 := nh4.trans hn
                  have fr : ∀ i, (i ≠ k + 5 + 1 ∧ i ≠ k + 5 + 2) → h4.1 i = h.1 i := fun i hi => (oh4 i (by omega)).trans (fr i hi)
                  refine xa_iload_n (pc := 85) dX6_become_85 rfl ?_
                  refine xa_iload (pc := 86) dX6_become_86 rfl ?_
                  refine xa_idivn (pc := 88) dX6_become_88 ⟨by omega, by omega⟩ ⟨by omega, by omega⟩ (by omega) (by omega) ?_
                  refine xa_istoren (pc := 89) [some (xa_r k), some (xa_i n), some (xa_i ((((n / 3) / 3) / 3) / (max (pl 0) 1))), some (xa_i 0), some (xa_i (max (pl 0) 1))] dX6_become_89 (by decide) (Nat.le_of_ble_eq_true rfl) rfl rfl ?_
                  refine xa_iincw (pc := 90) (y := 1) [some (xa_r k), some (xa_i n), some (xa_i ((((n / 3) / 3) / 3) / (max (pl 0) 1))), some (xa_i 1), some (xa_i (max (pl 0) 1))] dX6_become_90 (by decide) rfl rfl rfl rfl ?_
                  refine xa_goto (pc := 93) (tgt := 44) dX6_become_93 (by decide) ?_
                  refine xa_iload_n (pc := 44) dX6_become_44 rfl ?_
                  refine xa_aload_n (pc := 45) dX6_become_45 rfl ?_
                  refine xa_getfield (pc := 46) dX6_become_46 flRX6_9 (by omega) (by omega) hT0 rfl ?_
                  refine xa_alen (pc := 49) dX6_become_49 (by omega) hT1 ?_
                  refine xa_top (y := 2) rfl ?_
                  refine xa_icmp_ge (pc := 50) (tgt := 96) dX6_become_50 (by decide) (by decide) (by decide) (fun c_50 => ?_) (fun c_50 => ?_)
                  · skip
                    exfalso; omega
                  · skip
                    refine xa_aload_n (pc := 53) dX6_become_53 rfl ?_
                    refine xa_getfield (pc := 54) dX6_become_54 flRX6_9 (by omega) (by omega) hT0 rfl ?_
                    refine xa_iload_n (pc := 57) dX6_become_57 rfl ?_
                    refine xa_ialdw (pc := 58) 1 dX6_become_58 (by omega) hT1 (by omega) (by omega) rfl ?_
                    refine xa_iconst (pc := 59) dX6_become_59 ?_
                    refine xa_callS (pc := 60) (as := [xa_i (pl 1), xa_i 1]) (rest := []) dX6_become_60 ⟨qJ9_max_7cf53.1, qJ9_max_7cf53.2.1, qJ9_max_7cf53.2.2, by decide, by decide⟩ lkRX6_56 smJ9_max_7cf53 rfl rfl (Nat.le_of_ble_eq_true rfl) (Nat.zero_le _) (Nat.zero_le _) (c_max _ _ ⟨by omega, by omega⟩ (by decide)) (fun r h' hq => ?_)
                    obtain ⟨rfl, hq⟩ := hq
                    have hq := hq.symm
                    subst hq
                    refine xa_istorew (pc := 63) [some (xa_r k), some (xa_i n), some (xa_i ((((n / 3) / 3) / 3) / (max (pl 0) 1))), some (xa_i 1), some (xa_i (max (pl 1) 1))] dX6_become_63 (by decide) (Nat.le_of_ble_eq_true rfl) rfl rfl ?_
                    refine xa_aload_n (pc := 65) dX6_become_65 rfl ?_
                    refine xa_getfield (pc := 66) dX6_become_66 flRX6_37 (by omega) (by omega) hT0 rfl ?_
                    refine xa_getfield (pc := 69) dX6_become_69 flRX6_87 (by omega) (by omega) hS0 rfl ?_
                    refine xa_iload_n (pc := 72) dX6_become_72 rfl ?_
                    refine xa_iload_n (pc := 73) dX6_become_73 rfl ?_
                    have q1 := sp_dv (x := (((n / 3) / 3) / 3) / (max (pl 0) 1)) (y := (max (pl 1) 1)) (by omega) (by omega)
                    refine xa_iload (pc := 74) dX6_become_74 rfl ?_
                    refine xa_iremn (pc := 76) dX6_become_76 ⟨by omega, by omega⟩ ⟨by omega, by omega⟩ (by omega) (by omega) ?_
                    refine xa_aload_n (pc := 77) dX6_become_77 rfl ?_
                    refine xa_getfield (pc := 78) dX6_become_78 flRX6_15 (by omega) (by omega) hT0 rfl ?_
                    refine xa_iload_n (pc := 81) dX6_become_81 rfl ?_
                    refine xa_ialdw (pc := 82) 1 dX6_become_82 (by omega) hT2 (by omega) (by omega) rfl ?_
                    refine xa_iadd (pc := 83) dX6_become_83 ?_
                    refine xa_iastw (pc := 84) 1 dX6_become_84 (by omega) (by omega) hS2 (by omega) (by omega) rfl (fun h5 nh5 ch5 oh5 => ?_)
                    have hS2 : h5.1 (k + 5 + 2) = xa_a 2 (xa_upf (xa_upf sp 0 (((((n / 3) / 3) / 3) % (max (pl 0) 1)) + (lw 0))) 1 ((((((n / 3) / 3) / 3) / (max (pl 0) 1)) % (max (pl 1) 1)) + (lw 1))) := ch5
                    have hT0 : h5.1 k = xa_o 6 [xa_r kb, xa_r (k + 5), xa_i sj, xa_r (k + 1), xa_r (k + 2), xa_i ((ns : Nat) : Int), xa_i fs, xa_i lst, xa_r kbr, xa_r kam] := (oh5 _ (by omega)).trans hT0
                    have hT1 : h5.1 (k + 1) = xa_a 2 pl := (oh5 _ (by omega)).trans hT1
                    have hT2 : h5.1 (k + 2) = xa_a 2 lw := (oh5 _ (by omega)).trans hT2
                    have hT3 : h5.1 kbr = xa_a nb br := (oh5 _ (by omega)).trans hT3
                    have hT4 : h5.1 kam = xa_a na am := (oh5 _ (by omega)).trans hT4
                    have hS0 : h5.1 (k + 5) = xa_o 4 [xa_r kb, xa_r (k + 5 + 1), xa_r (k + 5 + 2), xa_i tj, xa_i tb] := (oh5 _ (by omega)).trans hS0
                    have hS1 : h5.1 (k + 5 + 1) = xa_a 3 (xa_upf (xa_upf (xa_upf po 0 (n % 3)) 1 ((n / 3) % 3)) 2 (((n / 3) / 3) % 3)) := (oh5 _ (by omega)).trans hS1
                    have hB0 : h5.1 kb = xa_o 0 [xa_r (kb + 1), xa_r (kb + 2), xa_i 3, xa_i ((jo : Nat) : Int), xa_i wa, xa_i sr, xa_i pu, xa_i ri] := (oh5 _ (by omega)).trans hB0
                    have hB1 : h5.1 (kb + 1) = xa_a 9 ld := (oh5 _ (by omega)).trans hB1
                    have hB2 : h5.1 (kb + 2) = xa_a 2 dg := (oh5 _ (by omega)).trans hB2
                    have hn : h5.2 = h.2 := nh5.trans hn
                    have fr : ∀ i, (i ≠ k + 5 + 1 ∧ i ≠ k + 5 + 2) → h5.1 i = h.1 i := fun i hi => (oh5 i (by omega)).trans (fr i hi)
                    refine xa_iload_n (pc := 85) dX6_become_85 rfl ?_
                    refine xa_iload (pc := 86) dX6_become_86 rfl ?_
                    refine xa_idivn (pc := 88) dX6_become_88 ⟨by omega, by omega⟩ ⟨by omega, by omega⟩ (by omega) (by omega) ?_
                    refine xa_istoren (pc := 89) [some (xa_r k), some (xa_i n), some (xa_i (((((n / 3) / 3) / 3) / (max (pl 0) 1)) / (max (pl 1) 1))), some (xa_i 1), some (xa_i (max (pl 1) 1))] dX6_become_89 (by decide) (Nat.le_of_ble_eq_true rfl) rfl rfl ?_
                    refine xa_iincw (pc := 90) (y := 2) [some (xa_r k), some (xa_i n), some (xa_i (((((n / 3) / 3) / 3) / (max (pl 0) 1)) / (max (pl 1) 1))), some (xa_i 2), some (xa_i (max (pl 1) 1))] dX6_become_90 (by decide) rfl rfl rfl rfl ?_
                    refine xa_goto (pc := 93) (tgt := 44) dX6_become_93 (by decide) ?_
                    refine xa_iload_n (pc := 44) dX6_become_44 rfl ?_
                    refine xa_aload_n (pc := 45) dX6_become_45 rfl ?_
                    refine xa_getfield (pc := 46) dX6_become_46 flRX6_9 (by omega) (by omega) hT0 rfl ?_
                    refine xa_alen (pc := 49) dX6_become_49 (by omega) hT1 ?_
                    refine xa_top (y := 2) rfl ?_
                    refine xa_icmp_ge (pc := 50) (tgt := 96) dX6_become_50 (by decide) (by decide) (by decide) (fun c_50 => ?_) (fun c_50 => ?_)
                    · skip
                      refine xa_return (pc := 96) dX6_become_96 rfl ?_
                      exact ⟨rfl, hS1, hS2, hn, fr⟩
                    · skip
                      exfalso; omega
              · skip
                exfalso; omega
