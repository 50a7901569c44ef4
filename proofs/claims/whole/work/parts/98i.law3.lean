/-! The law's loop -/
theorem xa_and_ok (x y : Int) : xa_ok (xa_and x y) := by
  unfold xa_and
  exact ⟨Int32.le_toInt _, by have := Int32.toInt_lt (Int32.ofInt x &&& Int32.ofInt y); omega⟩
theorem lw_loop {G : xa_G} {Z : xa_Zt} (hL : xa_L G ≤ 2560) (hxs : ∀ j, xa_ok (xa_xs G j)) (hEnd : ∀ (i : Nat) (h : xa_H) (mc ms : Nat), xa_W G mL_law Z 997 [some (xa_r 0), some (xa_r 2), some (xa_r 74), some (xa_i ((i : Nat) : Int))] [] h mc ms) : ∀ (d i : Nat) (h : xa_H) (n : Nat) (f ld dg : Nat → Int) (pa jo : Nat) (wa sr pu ri : Int) (mv le fi : Nat → Int) (pc kp : Nat) (mv1 le1 fi1 : Nat → Int) (pc1 : Nat) (mv2 le2 fi2 : Nat → Int) (pc2 : Nat) (bc bs : Nat) (mc ms : Nat), xa_L G - i < d → i ≤ xa_L G → xCW h 2 n f ld dg pa jo wa sr pu ri mv le fi pc kp mv1 le1 fi1 pc1 mv2 le2 fi2 pc2 bc bs → xMW h 74 n f ld dg pa jo wa sr pu ri mv le fi pc kp mv1 le1 fi1 pc1 mv2 le2 fi2 pc2 → bc ≤ mc → bs ≤ ms → xa_W G mL_law Z 18 [some (xa_r 0), some (xa_r 2), some (xa_r 74), some (xa_i ((i : Nat) : Int))] [] h mc ms := by
  intro d
  induction d with
  | zero => intros; exfalso; omega
  | succ d ih =>
    intro i h n f ld dg pa jo wa sr pu ri mv le fi pc kp mv1 le1 fi1 pc1 mv2 le2 fi2 pc2 bc bs mc ms hd hiL hC hM hmc hms
    obtain ⟨fsC, hXC⟩ := hC.cell
    obtain ⟨⟨fsM, hXM⟩, hh91⟩ := hM.cell
    refine xa_scr0 (fun hSc => ?_)
    refine xa_iload_n (pc := 18) dL_law_18 rfl ?_
    refine xa_aload_n (pc := 19) dL_law_19 rfl ?_
    refine xa_alen (pc := 20) dL_law_20 (by omega) hSc ?_
    refine xa_iconst (pc := 21) dL_law_21 ?_
    refine xa_isub (pc := 22) dL_law_22 ?_
    refine xa_icmp_gt (pc := 23) (tgt := 997) dL_law_23 (by decide) ⟨by omega, by omega⟩ ⟨by omega, by omega⟩ (fun c_23 => ?_) (fun c_23 => ?_)
    · skip
      exact hEnd _ _ _ _
    · skip
      have hi : i + 5 ≤ xa_L G := by omega
      have hNx : lwN G Z i := by
        intro h n f ld dg pa jo wa sr pu ri mv le fi pc kp mv1 le1 fi1 pc1 mv2 le2 fi2 pc2 bc bs mc ms hC hM hmc hms
        refine xa_iincw (pc := 991) (y := ((i + 5 : Nat) : Int)) [some (xa_r 0), some (xa_r 2), some (xa_r 74), some (xa_i ((i + 5 : Nat) : Int))] dL_law_991 (by decide) rfl rfl (by omega) rfl ?_
        refine xa_goto (pc := 994) (tgt := 18) dL_law_994 (by decide) ?_
        exact ih (i + 5) _ _ _ _ _ _ _ _ _ _ _ _ _ _ _ _ _ _ _ _ _ _ _ _ _ _ _ _ (by omega) (by omega) hC hM hmc hms
      refine xa_aload_n (pc := 26) dL_law_26 rfl ?_
      refine xa_iload_n (pc := 27) dL_law_27 rfl ?_
      refine xa_ialdw (pc := 28) i dL_law_28 (by omega) hSc (by omega) (by omega) (Int.toNat_natCast _) ?_
      refine xa_bipush (pc := 29) dL_law_29 rfl ?_
      refine xa_iand (pc := 31) dL_law_31 ?_
      by_cases w_32_0 : xa_and ((xa_xs G) i) 31 = 0
      · refine xa_tableIn (pc := 32) (off := 132) (tgt := 164) dL_law_32 (xa_and_ok _ _) (by omega) (by omega) (by rw [w_32_0]; rfl) (by decide) ?_
        exact lw_write hi hxs hC hM hmc hms hNx
      by_cases w_32_1 : xa_and ((xa_xs G) i) 31 = 1
      · refine xa_tableIn (pc := 32) (off := 195) (tgt := 227) dL_law_32 (xa_and_ok _ _) (by omega) (by omega) (by rw [w_32_1]; rfl) (by decide) ?_
        exact lw_wipe hi hxs hC hM hmc hms hNx
      by_cases w_32_2 : xa_and ((xa_xs G) i) 31 = 2
      · refine xa_tableIn (pc := 32) (off := 208) (tgt := 240) dL_law_32 (xa_and_ok _ _) (by omega) (by omega) (by rw [w_32_2]; rfl) (by decide) ?_
        exact lw_fault hi hxs hC hM hmc hms hNx
      by_cases w_32_3 : xa_and ((xa_xs G) i) 31 = 3
      · refine xa_tableIn (pc := 32) (off := 221) (tgt := 253) dL_law_32 (xa_and_ok _ _) (by omega) (by omega) (by rw [w_32_3]; rfl) (by decide) ?_
        exact lw_lay hi hxs hC hM hmc hms hNx
      by_cases w_32_4 : xa_and ((xa_xs G) i) 31 = 4
      · refine xa_tableIn (pc := 32) (off := 234) (tgt := 266) dL_law_32 (xa_and_ok _ _) (by omega) (by omega) (by rw [w_32_4]; rfl) (by decide) ?_
        exact lw_load hi hxs hC hM hmc hms hNx
      by_cases w_32_5 : xa_and ((xa_xs G) i) 31 = 5
      · refine xa_tableIn (pc := 32) (off := 267) (tgt := 299) dL_law_32 (xa_and_ok _ _) (by omega) (by omega) (by rw [w_32_5]; rfl) (by decide) ?_
        exact lw_joint hi hxs hC hM hmc hms hNx
      by_cases w_32_6 : xa_and ((xa_xs G) i) 31 = 6
      · refine xa_tableIn (pc := 32) (off := 300) (tgt := 332) dL_law_32 (xa_and_ok _ _) (by omega) (by omega) (by rw [w_32_6]; rfl) (by decide) ?_
        exact lw_begun hi hxs hC hM hmc hms hNx
      by_cases w_32_7 : xa_and ((xa_xs G) i) 31 = 7
      · refine xa_tableIn (pc := 32) (off := 323) (tgt := 355) dL_law_32 (xa_and_ok _ _) (by omega) (by omega) (by rw [w_32_7]; rfl) (by decide) ?_
        exact lw_move hi hxs hC hM hmc hms hNx
      by_cases w_32_8 : xa_and ((xa_xs G) i) 31 = 8
      · refine xa_tableIn (pc := 32) (off := 356) (tgt := 388) dL_law_32 (xa_and_ok _ _) (by omega) (by omega) (by rw [w_32_8]; rfl) (by decide) ?_
        exact lw_noWay hi hxs hC hM hmc hms hNx
      by_cases w_32_9 : xa_and ((xa_xs G) i) 31 = 9
      · refine xa_tableIn (pc := 32) (off := 379) (tgt := 411) dL_law_32 (xa_and_ok _ _) (by omega) (by omega) (by rw [w_32_9]; rfl) (by decide) ?_
        exact lw_turn hi hxs hC hM hmc hms hNx
      by_cases w_32_10 : xa_and ((xa_xs G) i) 31 = 10
      · refine xa_tableIn (pc := 32) (off := 432) (tgt := 464) dL_law_32 (xa_and_ok _ _) (by omega) (by omega) (by rw [w_32_10]; rfl) (by decide) ?_
        exact lw_run hi hxs hC hM hmc hms hNx
      by_cases w_32_11 : xa_and ((xa_xs G) i) 31 = 11
      · refine xa_tableIn (pc := 32) (off := 465) (tgt := 497) dL_law_32 (xa_and_ok _ _) (by omega) (by omega) (by rw [w_32_11]; rfl) (by decide) ?_
        exact lw_spun hi hxs hC hM hmc hms hNx
      by_cases w_32_12 : xa_and ((xa_xs G) i) 31 = 12
      · refine xa_tableIn (pc := 32) (off := 488) (tgt := 520) dL_law_32 (xa_and_ok _ _) (by omega) (by omega) (by rw [w_32_12]; rfl) (by decide) ?_
        exact lw_times hi hxs hC hM hmc hms hNx
      by_cases w_32_13 : xa_and ((xa_xs G) i) 31 = 13
      · refine xa_tableIn (pc := 32) (off := 521) (tgt := 553) dL_law_32 (xa_and_ok _ _) (by omega) (by omega) (by rw [w_32_13]; rfl) (by decide) ?_
        exact lw_soon hi hxs hC hM hmc hms hNx
      by_cases w_32_14 : xa_and ((xa_xs G) i) 31 = 14
      · refine xa_tableIn (pc := 32) (off := 554) (tgt := 586) dL_law_32 (xa_and_ok _ _) (by omega) (by omega) (by rw [w_32_14]; rfl) (by decide) ?_
        exact lw_fall hi hxs hC hM hmc hms hNx
      by_cases w_32_15 : xa_and ((xa_xs G) i) 31 = 15
      · refine xa_tableIn (pc := 32) (off := 577) (tgt := 609) dL_law_32 (xa_and_ok _ _) (by omega) (by omega) (by rw [w_32_15]; rfl) (by decide) ?_
        exact lw_saved hi hxs hC hM hmc hms hNx
      by_cases w_32_16 : xa_and ((xa_xs G) i) 31 = 16
      · refine xa_tableIn (pc := 32) (off := 600) (tgt := 632) dL_law_32 (xa_and_ok _ _) (by omega) (by omega) (by rw [w_32_16]; rfl) (by decide) ?_
        exact lw_free hi hxs hC hM hmc hms hNx
      by_cases w_32_17 : xa_and ((xa_xs G) i) 31 = 17
      · refine xa_tableIn (pc := 32) (off := 623) (tgt := 655) dL_law_32 (xa_and_ok _ _) (by omega) (by omega) (by rw [w_32_17]; rfl) (by decide) ?_
        exact lw_fewest hi hxs hC hM hmc hms hNx
      by_cases w_32_18 : xa_and ((xa_xs G) i) 31 = 18
      · refine xa_tableIn (pc := 32) (off := 636) (tgt := 668) dL_law_32 (xa_and_ok _ _) (by omega) (by omega) (by rw [w_32_18]; rfl) (by decide) ?_
        exact lw_worth hi hxs hC hM hmc hms hNx
      by_cases w_32_19 : xa_and ((xa_xs G) i) 31 = 19
      · refine xa_tableIn (pc := 32) (off := 669) (tgt := 701) dL_law_32 (xa_and_ok _ _) (by omega) (by omega) (by rw [w_32_19]; rfl) (by decide) ?_
        exact lw_picture hi hxs hC hM hmc hms hNx
      by_cases w_32_20 : xa_and ((xa_xs G) i) 31 = 20
      · refine xa_tableIn (pc := 32) (off := 722) (tgt := 754) dL_law_32 (xa_and_ok _ _) (by omega) (by omega) (by rw [w_32_20]; rfl) (by decide) ?_
        exact lw_noFilm hi hxs hC hM hmc hms hNx
      by_cases w_32_21 : xa_and ((xa_xs G) i) 31 = 21
      · refine xa_tableIn (pc := 32) (off := 735) (tgt := 767) dL_law_32 (xa_and_ok _ _) (by omega) (by omega) (by rw [w_32_21]; rfl) (by decide) ?_
        exact lw_may hi hxs hC hM hmc hms hNx
      by_cases w_32_22 : xa_and ((xa_xs G) i) 31 = 22
      · refine xa_tableIn (pc := 32) (off := 768) (tgt := 800) dL_law_32 (xa_and_ok _ _) (by omega) (by omega) (by rw [w_32_22]; rfl) (by decide) ?_
        exact lw_looked hi hxs hC hM hmc hms hNx
      by_cases w_32_23 : xa_and ((xa_xs G) i) 31 = 23
      · refine xa_tableIn (pc := 32) (off := 801) (tgt := 833) dL_law_32 (xa_and_ok _ _) (by omega) (by omega) (by rw [w_32_23]; rfl) (by decide) ?_
        exact lw_pushed hi hxs hC hM hmc hms hNx
      by_cases w_32_24 : xa_and ((xa_xs G) i) 31 = 24
      · refine xa_tableIn (pc := 32) (off := 854) (tgt := 886) dL_law_32 (xa_and_ok _ _) (by omega) (by omega) (by rw [w_32_24]; rfl) (by decide) ?_
        exact lw_head hi hxs hC hM hmc hms hNx
      by_cases w_32_25 : xa_and ((xa_xs G) i) 31 = 25
      · refine xa_tableIn (pc := 32) (off := 887) (tgt := 919) dL_law_32 (xa_and_ok _ _) (by omega) (by omega) (by rw [w_32_25]; rfl) (by decide) ?_
        exact lw_down hi hxs hC hM hmc hms hNx
      by_cases w_32_26 : xa_and ((xa_xs G) i) 31 = 26
      · refine xa_tableIn (pc := 32) (off := 910) (tgt := 942) dL_law_32 (xa_and_ok _ _) (by omega) (by omega) (by rw [w_32_26]; rfl) (by decide) ?_
        exact lw_keep hi hxs hC hM hmc hms hNx
      by_cases w_32_27 : xa_and ((xa_xs G) i) 31 = 27
      · refine xa_tableIn (pc := 32) (off := 923) (tgt := 955) dL_law_32 (xa_and_ok _ _) (by omega) (by omega) (by rw [w_32_27]; rfl) (by decide) ?_
        exact lw_back hi hxs hC hM hmc hms hNx
      by_cases w_32_28 : xa_and ((xa_xs G) i) 31 = 28
      · refine xa_tableIn (pc := 32) (off := 936) (tgt := 968) dL_law_32 (xa_and_ok _ _) (by omega) (by omega) (by rw [w_32_28]; rfl) (by decide) ?_
        exact lw_count hi hxs hC hM hmc hms hNx
      refine xa_tableOut (pc := 32) (tgt := 991) dL_law_32 (xa_and_ok _ _) (by omega) (by decide) ?_
      exact hNx _ _ _ _ _ _ _ _ _ _ _ _ _ _ _ _ _ _ _ _ _ _ _ _ _ _ _ _ hC hM hmc hms
