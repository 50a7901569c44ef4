/-! The law's calls, one after the other -/
theorem xa_scr0 {G : xa_G} {Y : xa_Y} {Z : xa_Zt} {pc : Nat} {ls : xa_Ls} {st : List xa_V} {h : xa_H} {mc ms : Nat} (K : h.1 0 = xa_a (xa_L G) (xa_xs G) → xa_W G Y Z pc ls st h mc ms) : xa_W G Y Z pc ls st h mc ms := by
  intro p l e s m args below meth c hB R H locs lsC cells slots r1 r2 r3 r4 hH hL hl
  exact K hH.2.2.2.1.1 p l e s m args below meth c hB R H locs lsC cells slots r1 r2 r3 r4 hH hL hl
theorem xa_icmp_eqs {G : xa_G} {Y : xa_Y} {Z : xa_Zt} {pc : Nat} {ls : xa_Ls} {st : List xa_V} {h : xa_H} {mc ms : Nat} {x : Int} {off : Int} {tgt : Nat} (hd : decode (xa_yc Y) pc = .ok (.if_icmp .eq off, 3)) (ht : (pc : Int) + off = (tgt : Int)) (kt : xa_W G Y Z tgt ls st h mc ms) : xa_W G Y Z pc ls (xa_i x :: xa_i x :: st) h mc ms := by
  intro p l e s m args below meth c hB R H locs lsC cells slots r1 r2 r3 r4 hH hL hl
  have kt := kt p l e s m args below meth c hB R H locs lsC cells slots r1 r2 r3 r4 hH hL hl
  exact lv_icmp_eq hB.1 hB.2.1 hd ht (fun _ => kt) (fun q => absurd rfl q)
/-- what goes on behind a call that both answered alike -/
def lwN (G : xa_G) (Z : xa_Zt) (i : Nat) : Prop := ∀ (h : xa_H) (n : Nat) (f ld dg : Nat → Int) (pa jo : Nat) (wa sr pu ri : Int) (mv le fi : Nat → Int) (pc kp : Nat) (mv1 le1 fi1 : Nat → Int) (pc1 : Nat) (mv2 le2 fi2 : Nat → Int) (pc2 : Nat) (bc bs : Nat) (mc ms : Nat), xCW h 2 n f ld dg pa jo wa sr pu ri mv le fi pc kp mv1 le1 fi1 pc1 mv2 le2 fi2 pc2 bc bs → xMW h 74 n f ld dg pa jo wa sr pu ri mv le fi pc kp mv1 le1 fi1 pc1 mv2 le2 fi2 pc2 → bc ≤ mc → bs ≤ ms → xa_W G mL_law Z 991 [some (xa_r 0), some (xa_r 2), some (xa_r 74), some (xa_i ((i : Nat) : Int))] [] h mc ms
theorem xMW.cell {h : xa_H} {k : Nat} {n : Nat} {f ld dg : Nat → Int} {pa jo : Nat} {wa sr pu ri : Int} {mv le fi : Nat → Int} {pc kp : Nat} {mv1 le1 fi1 : Nat → Int} {pc1 : Nat} {mv2 le2 fi2 : Nat → Int} {pc2 : Nat} (hM : xMW h k n f ld dg pa jo wa sr pu ri mv le fi pc kp mv1 le1 fi1 pc1 mv2 le2 fi2 pc2) : (∃ fs, h.1 k = xa_o 10 fs) ∧ k + 16 < h.2 := by
  obtain ⟨F, s, a, -⟩ := hM
  exact ⟨⟨_, a.1⟩, a.2.2.2.2.2.2.2.2.2.2.2.2.2.2.2.2.2.2⟩
theorem xCW.cell {h : xa_H} {k : Nat} {n : Nat} {f ld dg : Nat → Int} {pa jo : Nat} {wa sr pu ri : Int} {mv le fi : Nat → Int} {pc kp : Nat} {mv1 le1 fi1 : Nat → Int} {pc1 : Nat} {mv2 le2 fi2 : Nat → Int} {pc2 : Nat} {bc bs : Nat} (hC : xCW h k n f ld dg pa jo wa sr pu ri mv le fi pc kp mv1 le1 fi1 pc1 mv2 le2 fi2 pc2 bc bs) : ∃ fs, h.1 k = xa_o 9 fs := ⟨_, hC.1.1⟩
theorem lw_turn {G : xa_G} {Z : xa_Zt} {h : xa_H} {i : Nat} {n : Nat} {f ld dg : Nat → Int} {pa jo : Nat} {wa sr pu ri : Int} {mv le fi : Nat → Int} {pc kp : Nat} {mv1 le1 fi1 : Nat → Int} {pc1 : Nat} {mv2 le2 fi2 : Nat → Int} {pc2 : Nat} {bc bs : Nat} {mc ms : Nat} (hi : i + 5 ≤ xa_L G) (hxs : ∀ j, xa_ok (xa_xs G j)) (hC : xCW h 2 n f ld dg pa jo wa sr pu ri mv le fi pc kp mv1 le1 fi1 pc1 mv2 le2 fi2 pc2 bc bs) (hM : xMW h 74 n f ld dg pa jo wa sr pu ri mv le fi pc kp mv1 le1 fi1 pc1 mv2 le2 fi2 pc2) (hmc : bc ≤ mc) (hms : bs ≤ ms) (hNx : lwN G Z i) : xa_W G mL_law Z 411 [some (xa_r 0), some (xa_r 2), some (xa_r 74), some (xa_i ((i : Nat) : Int))] [] h mc ms := by
  obtain ⟨fsC, hXC⟩ := hC.cell
  obtain ⟨⟨fsM, hXM⟩, hh91⟩ := hM.cell
  refine xa_scr0 (fun hSc => ?_)
  refine xa_aload_n (pc := 411) dL_law_411 rfl ?_
  refine xa_aload_n (pc := 412) dL_law_412 rfl ?_
  refine xa_iload_n (pc := 413) dL_law_413 rfl ?_
  refine xa_iconst (pc := 414) dL_law_414 ?_
  refine xa_iadd (pc := 415) dL_law_415 ?_
  refine xa_ialdw (pc := 416) (i + 1) dL_law_416 (by omega) hSc (by omega) (by omega) (by omega) ?_
  refine xa_aload_n (pc := 417) dL_law_417 rfl ?_
  refine xa_iload_n (pc := 418) dL_law_418 rfl ?_
  refine xa_iconst (pc := 419) dL_law_419 ?_
  refine xa_iadd (pc := 420) dL_law_420 ?_
  refine xa_ialdw (pc := 421) (i + 2) dL_law_421 (by omega) hSc (by omega) (by omega) (by omega) ?_
  refine xa_aload_n (pc := 422) dL_law_422 rfl ?_
  refine xa_iload_n (pc := 423) dL_law_423 rfl ?_
  refine xa_iconst (pc := 424) dL_law_424 ?_
  refine xa_iadd (pc := 425) dL_law_425 ?_
  refine xa_ialdw (pc := 426) (i + 3) dL_law_426 (by omega) hSc (by omega) (by omega) (by omega) ?_
  refine xa_aload_n (pc := 427) dL_law_427 rfl ?_
  refine xa_iload_n (pc := 428) dL_law_428 rfl ?_
  refine xa_iconst (pc := 429) dL_law_429 ?_
  refine xa_iadd (pc := 430) dL_law_430 ?_
  refine xa_ialdw (pc := 431) (i + 4) dL_law_431 (by omega) hSc (by omega) (by omega) (by omega) ?_
  refine xa_callV (pc := 432) (as := [xa_i ((xa_xs G) (i + 1)), xa_i ((xa_xs G) (i + 2)), xa_i ((xa_xs G) (i + 3)), xa_i ((xa_xs G) (i + 4))]) (rest := []) dL_law_432 ⟨qX9_turn.1, qX9_turn.2.1, qX9_turn.2.2, by decide, by decide⟩ lkRL_55 imX9_turn seX9_turn rfl rfl (by omega) (by omega) hXC rfl (Nat.le_of_ble_eq_true rfl) (Nat.zero_le _) (Nat.zero_le _) (s_turn (G := G) ((xa_xs G) (i + 1)) ((xa_xs G) (i + 2)) ((xa_xs G) (i + 3)) ((xa_xs G) (i + 4)) (hxs _) (hxs _) (hxs _) (hxs _) hC) (fun r h' hq => ?_)
  obtain ⟨⟨r1, rfl, sp1⟩, hC, hfr, hh⟩ := hq
  have hM := hM.fr (fun i hi hj => hfr i (by omega) (by omega)) hh
  obtain ⟨fsC, hXC⟩ := hC.cell
  obtain ⟨⟨fsM, hXM⟩, hh91⟩ := hM.cell
  refine xa_scr0 (fun hSc => ?_)
  refine xa_aload_n (pc := 435) dL_law_435 rfl ?_
  refine xa_aload_n (pc := 436) dL_law_436 rfl ?_
  refine xa_iload_n (pc := 437) dL_law_437 rfl ?_
  refine xa_iconst (pc := 438) dL_law_438 ?_
  refine xa_iadd (pc := 439) dL_law_439 ?_
  refine xa_ialdw (pc := 440) (i + 1) dL_law_440 (by omega) hSc (by omega) (by omega) (by omega) ?_
  refine xa_aload_n (pc := 441) dL_law_441 rfl ?_
  refine xa_iload_n (pc := 442) dL_law_442 rfl ?_
  refine xa_iconst (pc := 443) dL_law_443 ?_
  refine xa_iadd (pc := 444) dL_law_444 ?_
  refine xa_ialdw (pc := 445) (i + 2) dL_law_445 (by omega) hSc (by omega) (by omega) (by omega) ?_
  refine xa_aload_n (pc := 446) dL_law_446 rfl ?_
  refine xa_iload_n (pc := 447) dL_law_447 rfl ?_
  refine xa_iconst (pc := 448) dL_law_448 ?_
  refine xa_iadd (pc := 449) dL_law_449 ?_
  refine xa_ialdw (pc := 450) (i + 3) dL_law_450 (by omega) hSc (by omega) (by omega) (by omega) ?_
  refine xa_aload_n (pc := 451) dL_law_451 rfl ?_
  refine xa_iload_n (pc := 452) dL_law_452 rfl ?_
  refine xa_iconst (pc := 453) dL_law_453 ?_
  refine xa_iadd (pc := 454) dL_law_454 ?_
  refine xa_ialdw (pc := 455) (i + 4) dL_law_455 (by omega) hSc (by omega) (by omega) (by omega) ?_
  refine xa_callV (pc := 456) (as := [xa_i ((xa_xs G) (i + 1)), xa_i ((xa_xs G) (i + 2)), xa_i ((xa_xs G) (i + 3)), xa_i ((xa_xs G) (i + 4))]) (rest := [xa_i r1]) dL_law_456 ⟨qX10_turn.1, qX10_turn.2.1, qX10_turn.2.2, by decide, by decide⟩ lkRL_59 imX10_turn seX10_turn rfl rfl (by omega) (by omega) hXM rfl (Nat.le_of_ble_eq_true rfl) (Nat.zero_le _) (Nat.zero_le _) (m_turn (G := G) ((xa_xs G) (i + 1)) ((xa_xs G) (i + 2)) ((xa_xs G) (i + 3)) ((xa_xs G) (i + 4)) (hxs _) (hxs _) (hxs _) (hxs _) hM) (fun r h' hq => ?_)
  obtain ⟨⟨r0, rfl, sp0⟩, hM, hn2, hf2⟩ := hq
  have e0 := sp0 _ sp1
  subst e0
  have hC := hC.fr (fun i hi => hf2 i (by omega)) (by omega)
  obtain ⟨fsC, hXC⟩ := hC.cell
  obtain ⟨⟨fsM, hXM⟩, hh91⟩ := hM.cell
  refine xa_scr0 (fun hSc => ?_)
  refine xa_icmp_eqs (pc := 459) (tgt := 991) dL_law_459 (by decide) ?_
  exact hNx _ _ _ _ _ _ _ _ _ _ _ _ _ _ _ _ _ _ _ _ _ _ _ _ _ _ _ _ hC hM (by omega) (by omega)
theorem lw_run {G : xa_G} {Z : xa_Zt} {h : xa_H} {i : Nat} {n : Nat} {f ld dg : Nat → Int} {pa jo : Nat} {wa sr pu ri : Int} {mv le fi : Nat → Int} {pc kp : Nat} {mv1 le1 fi1 : Nat → Int} {pc1 : Nat} {mv2 le2 fi2 : Nat → Int} {pc2 : Nat} {bc bs : Nat} {mc ms : Nat} (hi : i + 5 ≤ xa_L G) (hxs : ∀ j, xa_ok (xa_xs G j)) (hC : xCW h 2 n f ld dg pa jo wa sr pu ri mv le fi pc kp mv1 le1 fi1 pc1 mv2 le2 fi2 pc2 bc bs) (hM : xMW h 74 n f ld dg pa jo wa sr pu ri mv le fi pc kp mv1 le1 fi1 pc1 mv2 le2 fi2 pc2) (hmc : bc ≤ mc) (hms : bs ≤ ms) (hNx : lwN G Z i) : xa_W G mL_law Z 464 [some (xa_r 0), some (xa_r 2), some (xa_r 74), some (xa_i ((i : Nat) : Int))] [] h mc ms := by
  obtain ⟨fsC, hXC⟩ := hC.cell
  obtain ⟨⟨fsM, hXM⟩, hh91⟩ := hM.cell
  refine xa_scr0 (fun hSc => ?_)
  refine xa_aload_n (pc := 464) dL_law_464 rfl ?_
  refine xa_aload_n (pc := 465) dL_law_465 rfl ?_
  refine xa_iload_n (pc := 466) dL_law_466 rfl ?_
  refine xa_iconst (pc := 467) dL_law_467 ?_
  refine xa_iadd (pc := 468) dL_law_468 ?_
  refine xa_ialdw (pc := 469) (i + 1) dL_law_469 (by omega) hSc (by omega) (by omega) (by omega) ?_
  refine xa_aload_n (pc := 470) dL_law_470 rfl ?_
  refine xa_iload_n (pc := 471) dL_law_471 rfl ?_
  refine xa_iconst (pc := 472) dL_law_472 ?_
  refine xa_iadd (pc := 473) dL_law_473 ?_
  refine xa_ialdw (pc := 474) (i + 2) dL_law_474 (by omega) hSc (by omega) (by omega) (by omega) ?_
  refine xa_callV (pc := 475) (as := [xa_i ((xa_xs G) (i + 1)), xa_i ((xa_xs G) (i + 2))]) (rest := []) dL_law_475 ⟨qX9_run.1, qX9_run.2.1, qX9_run.2.2, by decide, by decide⟩ lkRL_60 imX9_run seX9_run rfl rfl (by omega) (by omega) hXC rfl (Nat.le_of_ble_eq_true rfl) (Nat.zero_le _) (Nat.zero_le _) (s_run (G := G) ((xa_xs G) (i + 1)) ((xa_xs G) (i + 2)) (hxs _) (hxs _) hC) (fun r h' hq => ?_)
  obtain ⟨⟨r1, rfl, sp1⟩, hC, hfr, hh⟩ := hq
  have hM := hM.fr (fun i hi hj => hfr i (by omega) (by omega)) hh
  obtain ⟨fsC, hXC⟩ := hC.cell
  obtain ⟨⟨fsM, hXM⟩, hh91⟩ := hM.cell
  refine xa_scr0 (fun hSc => ?_)
  refine xa_aload_n (pc := 478) dL_law_478 rfl ?_
  refine xa_aload_n (pc := 479) dL_law_479 rfl ?_
  refine xa_iload_n (pc := 480) dL_law_480 rfl ?_
  refine xa_iconst (pc := 481) dL_law_481 ?_
  refine xa_iadd (pc := 482) dL_law_482 ?_
  refine xa_ialdw (pc := 483) (i + 1) dL_law_483 (by omega) hSc (by omega) (by omega) (by omega) ?_
  refine xa_aload_n (pc := 484) dL_law_484 rfl ?_
  refine xa_iload_n (pc := 485) dL_law_485 rfl ?_
  refine xa_iconst (pc := 486) dL_law_486 ?_
  refine xa_iadd (pc := 487) dL_law_487 ?_
  refine xa_ialdw (pc := 488) (i + 2) dL_law_488 (by omega) hSc (by omega) (by omega) (by omega) ?_
  refine xa_callV (pc := 489) (as := [xa_i ((xa_xs G) (i + 1)), xa_i ((xa_xs G) (i + 2))]) (rest := [xa_i r1]) dL_law_489 ⟨qX10_run.1, qX10_run.2.1, qX10_run.2.2, by decide, by decide⟩ lkRL_63 imX10_run seX10_run rfl rfl (by omega) (by omega) hXM rfl (Nat.le_of_ble_eq_true rfl) (Nat.zero_le _) (Nat.zero_le _) (m_run (G := G) ((xa_xs G) (i + 1)) ((xa_xs G) (i + 2)) (hxs _) (hxs _) hM) (fun r h' hq => ?_)
  obtain ⟨⟨r0, rfl, sp0⟩, hM, hn2, hf2⟩ := hq
  have e0 := sp0 _ sp1
  subst e0
  have hC := hC.fr (fun i hi => hf2 i (by omega)) (by omega)
  obtain ⟨fsC, hXC⟩ := hC.cell
  obtain ⟨⟨fsM, hXM⟩, hh91⟩ := hM.cell
  refine xa_scr0 (fun hSc => ?_)
  refine xa_icmp_eqs (pc := 492) (tgt := 991) dL_law_492 (by decide) ?_
  exact hNx _ _ _ _ _ _ _ _ _ _ _ _ _ _ _ _ _ _ _ _ _ _ _ _ _ _ _ _ hC hM (by omega) (by omega)
theorem lw_spun {G : xa_G} {Z : xa_Zt} {h : xa_H} {i : Nat} {n : Nat} {f ld dg : Nat → Int} {pa jo : Nat} {wa sr pu ri : Int} {mv le fi : Nat → Int} {pc kp : Nat} {mv1 le1 fi1 : Nat → Int} {pc1 : Nat} {mv2 le2 fi2 : Nat → Int} {pc2 : Nat} {bc bs : Nat} {mc ms : Nat} (hi : i + 5 ≤ xa_L G) (hxs : ∀ j, xa_ok (xa_xs G j)) (hC : xCW h 2 n f ld dg pa jo wa sr pu ri mv le fi pc kp mv1 le1 fi1 pc1 mv2 le2 fi2 pc2 bc bs) (hM : xMW h 74 n f ld dg pa jo wa sr pu ri mv le fi pc kp mv1 le1 fi1 pc1 mv2 le2 fi2 pc2) (hmc : bc ≤ mc) (hms : bs ≤ ms) (hNx : lwN G Z i) : xa_W G mL_law Z 497 [some (xa_r 0), some (xa_r 2), some (xa_r 74), some (xa_i ((i : Nat) : Int))] [] h mc ms := by
  obtain ⟨fsC, hXC⟩ := hC.cell
  obtain ⟨⟨fsM, hXM⟩, hh91⟩ := hM.cell
  refine xa_scr0 (fun hSc => ?_)
  refine xa_aload_n (pc := 497) dL_law_497 rfl ?_
  refine xa_aload_n (pc := 498) dL_law_498 rfl ?_
  refine xa_iload_n (pc := 499) dL_law_499 rfl ?_
  refine xa_iconst (pc := 500) dL_law_500 ?_
  refine xa_iadd (pc := 501) dL_law_501 ?_
  refine xa_ialdw (pc := 502) (i + 1) dL_law_502 (by omega) hSc (by omega) (by omega) (by omega) ?_
  refine xa_callV (pc := 503) (as := [xa_i ((xa_xs G) (i + 1))]) (rest := []) dL_law_503 ⟨qX9_spun.1, qX9_spun.2.1, qX9_spun.2.2, by decide, by decide⟩ lkRL_64 imX9_spun seX9_spun rfl rfl (by omega) (by omega) hXC rfl (Nat.le_of_ble_eq_true rfl) (Nat.zero_le _) (Nat.zero_le _) (s_spun (G := G) ((xa_xs G) (i + 1)) (hxs _) hC) (fun r h' hq => ?_)
  obtain ⟨⟨r1, rfl, sp1⟩, hC, hfr, hh⟩ := hq
  have hM := hM.fr (fun i hi hj => hfr i (by omega) (by omega)) hh
  obtain ⟨fsC, hXC⟩ := hC.cell
  obtain ⟨⟨fsM, hXM⟩, hh91⟩ := hM.cell
  refine xa_scr0 (fun hSc => ?_)
  refine xa_aload_n (pc := 506) dL_law_506 rfl ?_
  refine xa_aload_n (pc := 507) dL_law_507 rfl ?_
  refine xa_iload_n (pc := 508) dL_law_508 rfl ?_
  refine xa_iconst (pc := 509) dL_law_509 ?_
  refine xa_iadd (pc := 510) dL_law_510 ?_
  refine xa_ialdw (pc := 511) (i + 1) dL_law_511 (by omega) hSc (by omega) (by omega) (by omega) ?_
  refine xa_callV (pc := 512) (as := [xa_i ((xa_xs G) (i + 1))]) (rest := [xa_i r1]) dL_law_512 ⟨qX10_spun.1, qX10_spun.2.1, qX10_spun.2.2, by decide, by decide⟩ lkRL_67 imX10_spun seX10_spun rfl rfl (by omega) (by omega) hXM rfl (Nat.le_of_ble_eq_true rfl) (Nat.zero_le _) (Nat.zero_le _) (m_spun (G := G) ((xa_xs G) (i + 1)) (hxs _) hM) (fun r h' hq => ?_)
  obtain ⟨⟨r0, rfl, sp0⟩, hM, hn2, hf2⟩ := hq
  have e0 := sp0 _ sp1
  subst e0
  have hC := hC.fr (fun i hi => hf2 i (by omega)) (by omega)
  obtain ⟨fsC, hXC⟩ := hC.cell
  obtain ⟨⟨fsM, hXM⟩, hh91⟩ := hM.cell
  refine xa_scr0 (fun hSc => ?_)
  refine xa_icmp_eqs (pc := 515) (tgt := 991) dL_law_515 (by decide) ?_
  exact hNx _ _ _ _ _ _ _ _ _ _ _ _ _ _ _ _ _ _ _ _ _ _ _ _ _ _ _ _ hC hM (by omega) (by omega)
theorem lw_times {G : xa_G} {Z : xa_Zt} {h : xa_H} {i : Nat} {n : Nat} {f ld dg : Nat → Int} {pa jo : Nat} {wa sr pu ri : Int} {mv le fi : Nat → Int} {pc kp : Nat} {mv1 le1 fi1 : Nat → Int} {pc1 : Nat} {mv2 le2 fi2 : Nat → Int} {pc2 : Nat} {bc bs : Nat} {mc ms : Nat} (hi : i + 5 ≤ xa_L G) (hxs : ∀ j, xa_ok (xa_xs G j)) (hC : xCW h 2 n f ld dg pa jo wa sr pu ri mv le fi pc kp mv1 le1 fi1 pc1 mv2 le2 fi2 pc2 bc bs) (hM : xMW h 74 n f ld dg pa jo wa sr pu ri mv le fi pc kp mv1 le1 fi1 pc1 mv2 le2 fi2 pc2) (hmc : bc ≤ mc) (hms : bs ≤ ms) (hNx : lwN G Z i) : xa_W G mL_law Z 520 [some (xa_r 0), some (xa_r 2), some (xa_r 74), some (xa_i ((i : Nat) : Int))] [] h mc ms := by
  obtain ⟨fsC, hXC⟩ := hC.cell
  obtain ⟨⟨fsM, hXM⟩, hh91⟩ := hM.cell
  refine xa_scr0 (fun hSc => ?_)
  refine xa_aload_n (pc := 520) dL_law_520 rfl ?_
  refine xa_aload_n (pc := 521) dL_law_521 rfl ?_
  refine xa_iload_n (pc := 522) dL_law_522 rfl ?_
  refine xa_iconst (pc := 523) dL_law_523 ?_
  refine xa_iadd (pc := 524) dL_law_524 ?_
  refine xa_ialdw (pc := 525) (i + 1) dL_law_525 (by omega) hSc (by omega) (by omega) (by omega) ?_
  refine xa_aload_n (pc := 526) dL_law_526 rfl ?_
  refine xa_iload_n (pc := 527) dL_law_527 rfl ?_
  refine xa_iconst (pc := 528) dL_law_528 ?_
  refine xa_iadd (pc := 529) dL_law_529 ?_
  refine xa_ialdw (pc := 530) (i + 2) dL_law_530 (by omega) hSc (by omega) (by omega) (by omega) ?_
  refine xa_callV (pc := 531) (as := [xa_i ((xa_xs G) (i + 1)), xa_i ((xa_xs G) (i + 2))]) (rest := []) dL_law_531 ⟨qX9_times.1, qX9_times.2.1, qX9_times.2.2, by decide, by decide⟩ lkRL_68 imX9_times seX9_times rfl rfl (by omega) (by omega) hXC rfl (Nat.le_of_ble_eq_true rfl) (Nat.zero_le _) (Nat.zero_le _) (s_times (G := G) ((xa_xs G) (i + 1)) ((xa_xs G) (i + 2)) (hxs _) (hxs _) hC) (fun r h' hq => ?_)
  obtain ⟨⟨r1, rfl, sp1⟩, hC, hfr, hh⟩ := hq
  have hM := hM.fr (fun i hi hj => hfr i (by omega) (by omega)) hh
  obtain ⟨fsC, hXC⟩ := hC.cell
  obtain ⟨⟨fsM, hXM⟩, hh91⟩ := hM.cell
  refine xa_scr0 (fun hSc => ?_)
  refine xa_aload_n (pc := 534) dL_law_534 rfl ?_
  refine xa_aload_n (pc := 535) dL_law_535 rfl ?_
  refine xa_iload_n (pc := 536) dL_law_536 rfl ?_
  refine xa_iconst (pc := 537) dL_law_537 ?_
  refine xa_iadd (pc := 538) dL_law_538 ?_
  refine xa_ialdw (pc := 539) (i + 1) dL_law_539 (by omega) hSc (by omega) (by omega) (by omega) ?_
  refine xa_aload_n (pc := 540) dL_law_540 rfl ?_
  refine xa_iload_n (pc := 541) dL_law_541 rfl ?_
  refine xa_iconst (pc := 542) dL_law_542 ?_
  refine xa_iadd (pc := 543) dL_law_543 ?_
  refine xa_ialdw (pc := 544) (i + 2) dL_law_544 (by omega) hSc (by omega) (by omega) (by omega) ?_
  refine xa_callV (pc := 545) (as := [xa_i ((xa_xs G) (i + 1)), xa_i ((xa_xs G) (i + 2))]) (rest := [xa_i r1]) dL_law_545 ⟨qX10_times.1, qX10_times.2.1, qX10_times.2.2, by decide, by decide⟩ lkRL_71 imX10_times seX10_times rfl rfl (by omega) (by omega) hXM rfl (Nat.le_of_ble_eq_true rfl) (Nat.zero_le _) (Nat.zero_le _) (m_times (G := G) ((xa_xs G) (i + 1)) ((xa_xs G) (i + 2)) (hxs _) (hxs _) hM) (fun r h' hq => ?_)
  obtain ⟨⟨r0, rfl, sp0⟩, hM, hn2, hf2⟩ := hq
  have e0 := sp0 _ sp1
  subst e0
  have hC := hC.fr (fun i hi => hf2 i (by omega)) (by omega)
  obtain ⟨fsC, hXC⟩ := hC.cell
  obtain ⟨⟨fsM, hXM⟩, hh91⟩ := hM.cell
  refine xa_scr0 (fun hSc => ?_)
  refine xa_icmp_eqs (pc := 548) (tgt := 991) dL_law_548 (by decide) ?_
  exact hNx _ _ _ _ _ _ _ _ _ _ _ _ _ _ _ _ _ _ _ _ _ _ _ _ _ _ _ _ hC hM (by omega) (by omega)
theorem lw_may {G : xa_G} {Z : xa_Zt} {h : xa_H} {i : Nat} {n : Nat} {f ld dg : Nat → Int} {pa jo : Nat} {wa sr pu ri : Int} {mv le fi : Nat → Int} {pc kp : Nat} {mv1 le1 fi1 : Nat → Int} {pc1 : Nat} {mv2 le2 fi2 : Nat → Int} {pc2 : Nat} {bc bs : Nat} {mc ms : Nat} (hi : i + 5 ≤ xa_L G) (hxs : ∀ j, xa_ok (xa_xs G j)) (hC : xCW h 2 n f ld dg pa jo wa sr pu ri mv le fi pc kp mv1 le1 fi1 pc1 mv2 le2 fi2 pc2 bc bs) (hM : xMW h 74 n f ld dg pa jo wa sr pu ri mv le fi pc kp mv1 le1 fi1 pc1 mv2 le2 fi2 pc2) (hmc : bc ≤ mc) (hms : bs ≤ ms) (hNx : lwN G Z i) : xa_W G mL_law Z 767 [some (xa_r 0), some (xa_r 2), some (xa_r 74), some (xa_i ((i : Nat) : Int))] [] h mc ms := by
  obtain ⟨fsC, hXC⟩ := hC.cell
  obtain ⟨⟨fsM, hXM⟩, hh91⟩ := hM.cell
  refine xa_scr0 (fun hSc => ?_)
  refine xa_aload_n (pc := 767) dL_law_767 rfl ?_
  refine xa_aload_n (pc := 768) dL_law_768 rfl ?_
  refine xa_iload_n (pc := 769) dL_law_769 rfl ?_
  refine xa_iconst (pc := 770) dL_law_770 ?_
  refine xa_iadd (pc := 771) dL_law_771 ?_
  refine xa_ialdw (pc := 772) (i + 1) dL_law_772 (by omega) hSc (by omega) (by omega) (by omega) ?_
  refine xa_aload_n (pc := 773) dL_law_773 rfl ?_
  refine xa_iload_n (pc := 774) dL_law_774 rfl ?_
  refine xa_iconst (pc := 775) dL_law_775 ?_
  refine xa_iadd (pc := 776) dL_law_776 ?_
  refine xa_ialdw (pc := 777) (i + 2) dL_law_777 (by omega) hSc (by omega) (by omega) (by omega) ?_
  refine xa_callV (pc := 778) (as := [xa_i ((xa_xs G) (i + 1)), xa_i ((xa_xs G) (i + 2))]) (rest := []) dL_law_778 ⟨qX9_may.1, qX9_may.2.1, qX9_may.2.2, by decide, by decide⟩ lkRL_104 imX9_may seX9_may rfl rfl (by omega) (by omega) hXC rfl (Nat.le_of_ble_eq_true rfl) (Nat.zero_le _) (Nat.zero_le _) (s_may (G := G) ((xa_xs G) (i + 1)) ((xa_xs G) (i + 2)) (hxs _) (hxs _) hC) (fun r h' hq => ?_)
  obtain ⟨⟨r1, rfl, sp1⟩, hC, hfr, hh⟩ := hq
  have hM := hM.fr (fun i hi hj => hfr i (by omega) (by omega)) hh
  obtain ⟨fsC, hXC⟩ := hC.cell
  obtain ⟨⟨fsM, hXM⟩, hh91⟩ := hM.cell
  refine xa_scr0 (fun hSc => ?_)
  refine xa_aload_n (pc := 781) dL_law_781 rfl ?_
  refine xa_aload_n (pc := 782) dL_law_782 rfl ?_
  refine xa_iload_n (pc := 783) dL_law_783 rfl ?_
  refine xa_iconst (pc := 784) dL_law_784 ?_
  refine xa_iadd (pc := 785) dL_law_785 ?_
  refine xa_ialdw (pc := 786) (i + 1) dL_law_786 (by omega) hSc (by omega) (by omega) (by omega) ?_
  refine xa_aload_n (pc := 787) dL_law_787 rfl ?_
  refine xa_iload_n (pc := 788) dL_law_788 rfl ?_
  refine xa_iconst (pc := 789) dL_law_789 ?_
  refine xa_iadd (pc := 790) dL_law_790 ?_
  refine xa_ialdw (pc := 791) (i + 2) dL_law_791 (by omega) hSc (by omega) (by omega) (by omega) ?_
  refine xa_callV (pc := 792) (as := [xa_i ((xa_xs G) (i + 1)), xa_i ((xa_xs G) (i + 2))]) (rest := [xa_i r1]) dL_law_792 ⟨qX10_may.1, qX10_may.2.1, qX10_may.2.2, by decide, by decide⟩ lkRL_107 imX10_may seX10_may rfl rfl (by omega) (by omega) hXM rfl (Nat.le_of_ble_eq_true rfl) (Nat.zero_le _) (Nat.zero_le _) (m_may (G := G) ((xa_xs G) (i + 1)) ((xa_xs G) (i + 2)) (hxs _) (hxs _) hM) (fun r h' hq => ?_)
  obtain ⟨⟨r0, rfl, sp0⟩, hM, hn2, hf2⟩ := hq
  have e0 := sp0 _ sp1
  subst e0
  have hC := hC.fr (fun i hi => hf2 i (by omega)) (by omega)
  obtain ⟨fsC, hXC⟩ := hC.cell
  obtain ⟨⟨fsM, hXM⟩, hh91⟩ := hM.cell
  refine xa_scr0 (fun hSc => ?_)
  refine xa_icmp_eqs (pc := 795) (tgt := 991) dL_law_795 (by decide) ?_
  exact hNx _ _ _ _ _ _ _ _ _ _ _ _ _ _ _ _ _ _ _ _ _ _ _ _ _ _ _ _ hC hM (by omega) (by omega)
theorem lw_looked {G : xa_G} {Z : xa_Zt} {h : xa_H} {i : Nat} {n : Nat} {f ld dg : Nat → Int} {pa jo : Nat} {wa sr pu ri : Int} {mv le fi : Nat → Int} {pc kp : Nat} {mv1 le1 fi1 : Nat → Int} {pc1 : Nat} {mv2 le2 fi2 : Nat → Int} {pc2 : Nat} {bc bs : Nat} {mc ms : Nat} (hi : i + 5 ≤ xa_L G) (hxs : ∀ j, xa_ok (xa_xs G j)) (hC : xCW h 2 n f ld dg pa jo wa sr pu ri mv le fi pc kp mv1 le1 fi1 pc1 mv2 le2 fi2 pc2 bc bs) (hM : xMW h 74 n f ld dg pa jo wa sr pu ri mv le fi pc kp mv1 le1 fi1 pc1 mv2 le2 fi2 pc2) (hmc : bc ≤ mc) (hms : bs ≤ ms) (hNx : lwN G Z i) : xa_W G mL_law Z 800 [some (xa_r 0), some (xa_r 2), some (xa_r 74), some (xa_i ((i : Nat) : Int))] [] h mc ms := by
  obtain ⟨fsC, hXC⟩ := hC.cell
  obtain ⟨⟨fsM, hXM⟩, hh91⟩ := hM.cell
  refine xa_scr0 (fun hSc => ?_)
  refine xa_aload_n (pc := 800) dL_law_800 rfl ?_
  refine xa_aload_n (pc := 801) dL_law_801 rfl ?_
  refine xa_iload_n (pc := 802) dL_law_802 rfl ?_
  refine xa_iconst (pc := 803) dL_law_803 ?_
  refine xa_iadd (pc := 804) dL_law_804 ?_
  refine xa_ialdw (pc := 805) (i + 1) dL_law_805 (by omega) hSc (by omega) (by omega) (by omega) ?_
  refine xa_aload_n (pc := 806) dL_law_806 rfl ?_
  refine xa_iload_n (pc := 807) dL_law_807 rfl ?_
  refine xa_iconst (pc := 808) dL_law_808 ?_
  refine xa_iadd (pc := 809) dL_law_809 ?_
  refine xa_ialdw (pc := 810) (i + 2) dL_law_810 (by omega) hSc (by omega) (by omega) (by omega) ?_
  refine xa_callV (pc := 811) (as := [xa_i ((xa_xs G) (i + 1)), xa_i ((xa_xs G) (i + 2))]) (rest := []) dL_law_811 ⟨qX9_looked.1, qX9_looked.2.1, qX9_looked.2.2, by decide, by decide⟩ lkRL_108 imX9_looked seX9_looked rfl rfl (by omega) (by omega) hXC rfl (Nat.le_of_ble_eq_true rfl) (Nat.zero_le _) (Nat.zero_le _) (s_looked (G := G) ((xa_xs G) (i + 1)) ((xa_xs G) (i + 2)) (hxs _) (hxs _) hC) (fun r h' hq => ?_)
  obtain ⟨⟨r1, rfl, sp1⟩, hC, hfr, hh⟩ := hq
  have hM := hM.fr (fun i hi hj => hfr i (by omega) (by omega)) hh
  obtain ⟨fsC, hXC⟩ := hC.cell
  obtain ⟨⟨fsM, hXM⟩, hh91⟩ := hM.cell
  refine xa_scr0 (fun hSc => ?_)
  refine xa_aload_n (pc := 814) dL_law_814 rfl ?_
  refine xa_aload_n (pc := 815) dL_law_815 rfl ?_
  refine xa_iload_n (pc := 816) dL_law_816 rfl ?_
  refine xa_iconst (pc := 817) dL_law_817 ?_
  refine xa_iadd (pc := 818) dL_law_818 ?_
  refine xa_ialdw (pc := 819) (i + 1) dL_law_819 (by omega) hSc (by omega) (by omega) (by omega) ?_
  refine xa_aload_n (pc := 820) dL_law_820 rfl ?_
  refine xa_iload_n (pc := 821) dL_law_821 rfl ?_
  refine xa_iconst (pc := 822) dL_law_822 ?_
  refine xa_iadd (pc := 823) dL_law_823 ?_
  refine xa_ialdw (pc := 824) (i + 2) dL_law_824 (by omega) hSc (by omega) (by omega) (by omega) ?_
  refine xa_callV (pc := 825) (as := [xa_i ((xa_xs G) (i + 1)), xa_i ((xa_xs G) (i + 2))]) (rest := [xa_i r1]) dL_law_825 ⟨qX10_looked.1, qX10_looked.2.1, qX10_looked.2.2, by decide, by decide⟩ lkRL_111 imX10_looked seX10_looked rfl rfl (by omega) (by omega) hXM rfl (Nat.le_of_ble_eq_true rfl) (Nat.zero_le _) (Nat.zero_le _) (m_looked (G := G) ((xa_xs G) (i + 1)) ((xa_xs G) (i + 2)) (hxs _) (hxs _) hM) (fun r h' hq => ?_)
  obtain ⟨⟨r0, rfl, sp0⟩, hM, hn2, hf2⟩ := hq
  have e0 := sp0 _ sp1
  subst e0
  have hC := hC.fr (fun i hi => hf2 i (by omega)) (by omega)
  obtain ⟨fsC, hXC⟩ := hC.cell
  obtain ⟨⟨fsM, hXM⟩, hh91⟩ := hM.cell
  refine xa_scr0 (fun hSc => ?_)
  refine xa_icmp_eqs (pc := 828) (tgt := 991) dL_law_828 (by decide) ?_
  exact hNx _ _ _ _ _ _ _ _ _ _ _ _ _ _ _ _ _ _ _ _ _ _ _ _ _ _ _ _ hC hM (by omega) (by omega)
theorem lw_pushed {G : xa_G} {Z : xa_Zt} {h : xa_H} {i : Nat} {n : Nat} {f ld dg : Nat → Int} {pa jo : Nat} {wa sr pu ri : Int} {mv le fi : Nat → Int} {pc kp : Nat} {mv1 le1 fi1 : Nat → Int} {pc1 : Nat} {mv2 le2 fi2 : Nat → Int} {pc2 : Nat} {bc bs : Nat} {mc ms : Nat} (hi : i + 5 ≤ xa_L G) (hxs : ∀ j, xa_ok (xa_xs G j)) (hC : xCW h 2 n f ld dg pa jo wa sr pu ri mv le fi pc kp mv1 le1 fi1 pc1 mv2 le2 fi2 pc2 bc bs) (hM : xMW h 74 n f ld dg pa jo wa sr pu ri mv le fi pc kp mv1 le1 fi1 pc1 mv2 le2 fi2 pc2) (hmc : bc ≤ mc) (hms : bs ≤ ms) (hNx : lwN G Z i) : xa_W G mL_law Z 833 [some (xa_r 0), some (xa_r 2), some (xa_r 74), some (xa_i ((i : Nat) : Int))] [] h mc ms := by
  obtain ⟨fsC, hXC⟩ := hC.cell
  obtain ⟨⟨fsM, hXM⟩, hh91⟩ := hM.cell
  refine xa_scr0 (fun hSc => ?_)
  refine xa_aload_n (pc := 833) dL_law_833 rfl ?_
  refine xa_aload_n (pc := 834) dL_law_834 rfl ?_
  refine xa_iload_n (pc := 835) dL_law_835 rfl ?_
  refine xa_iconst (pc := 836) dL_law_836 ?_
  refine xa_iadd (pc := 837) dL_law_837 ?_
  refine xa_ialdw (pc := 838) (i + 1) dL_law_838 (by omega) hSc (by omega) (by omega) (by omega) ?_
  refine xa_aload_n (pc := 839) dL_law_839 rfl ?_
  refine xa_iload_n (pc := 840) dL_law_840 rfl ?_
  refine xa_iconst (pc := 841) dL_law_841 ?_
  refine xa_iadd (pc := 842) dL_law_842 ?_
  refine xa_ialdw (pc := 843) (i + 2) dL_law_843 (by omega) hSc (by omega) (by omega) (by omega) ?_
  refine xa_aload_n (pc := 844) dL_law_844 rfl ?_
  refine xa_iload_n (pc := 845) dL_law_845 rfl ?_
  refine xa_iconst (pc := 846) dL_law_846 ?_
  refine xa_iadd (pc := 847) dL_law_847 ?_
  refine xa_ialdw (pc := 848) (i + 3) dL_law_848 (by omega) hSc (by omega) (by omega) (by omega) ?_
  refine xa_aload_n (pc := 849) dL_law_849 rfl ?_
  refine xa_iload_n (pc := 850) dL_law_850 rfl ?_
  refine xa_iconst (pc := 851) dL_law_851 ?_
  refine xa_iadd (pc := 852) dL_law_852 ?_
  refine xa_ialdw (pc := 853) (i + 4) dL_law_853 (by omega) hSc (by omega) (by omega) (by omega) ?_
  refine xa_callV (pc := 854) (as := [xa_i ((xa_xs G) (i + 1)), xa_i ((xa_xs G) (i + 2)), xa_i ((xa_xs G) (i + 3)), xa_i ((xa_xs G) (i + 4))]) (rest := []) dL_law_854 ⟨qX9_pushed.1, qX9_pushed.2.1, qX9_pushed.2.2, by decide, by decide⟩ lkRL_112 imX9_pushed seX9_pushed rfl rfl (by omega) (by omega) hXC rfl (Nat.le_of_ble_eq_true rfl) (Nat.zero_le _) (Nat.zero_le _) (s_pushed (G := G) ((xa_xs G) (i + 1)) ((xa_xs G) (i + 2)) ((xa_xs G) (i + 3)) ((xa_xs G) (i + 4)) (hxs _) (hxs _) (hxs _) (hxs _) hC) (fun r h' hq => ?_)
  obtain ⟨⟨r1, rfl, sp1⟩, hC, hfr, hh⟩ := hq
  have hM := hM.fr (fun i hi hj => hfr i (by omega) (by omega)) hh
  obtain ⟨fsC, hXC⟩ := hC.cell
  obtain ⟨⟨fsM, hXM⟩, hh91⟩ := hM.cell
  refine xa_scr0 (fun hSc => ?_)
  refine xa_aload_n (pc := 857) dL_law_857 rfl ?_
  refine xa_aload_n (pc := 858) dL_law_858 rfl ?_
  refine xa_iload_n (pc := 859) dL_law_859 rfl ?_
  refine xa_iconst (pc := 860) dL_law_860 ?_
  refine xa_iadd (pc := 861) dL_law_861 ?_
  refine xa_ialdw (pc := 862) (i + 1) dL_law_862 (by omega) hSc (by omega) (by omega) (by omega) ?_
  refine xa_aload_n (pc := 863) dL_law_863 rfl ?_
  refine xa_iload_n (pc := 864) dL_law_864 rfl ?_
  refine xa_iconst (pc := 865) dL_law_865 ?_
  refine xa_iadd (pc := 866) dL_law_866 ?_
  refine xa_ialdw (pc := 867) (i + 2) dL_law_867 (by omega) hSc (by omega) (by omega) (by omega) ?_
  refine xa_aload_n (pc := 868) dL_law_868 rfl ?_
  refine xa_iload_n (pc := 869) dL_law_869 rfl ?_
  refine xa_iconst (pc := 870) dL_law_870 ?_
  refine xa_iadd (pc := 871) dL_law_871 ?_
  refine xa_ialdw (pc := 872) (i + 3) dL_law_872 (by omega) hSc (by omega) (by omega) (by omega) ?_
  refine xa_aload_n (pc := 873) dL_law_873 rfl ?_
  refine xa_iload_n (pc := 874) dL_law_874 rfl ?_
  refine xa_iconst (pc := 875) dL_law_875 ?_
  refine xa_iadd (pc := 876) dL_law_876 ?_
  refine xa_ialdw (pc := 877) (i + 4) dL_law_877 (by omega) hSc (by omega) (by omega) (by omega) ?_
  refine xa_callV (pc := 878) (as := [xa_i ((xa_xs G) (i + 1)), xa_i ((xa_xs G) (i + 2)), xa_i ((xa_xs G) (i + 3)), xa_i ((xa_xs G) (i + 4))]) (rest := [xa_i r1]) dL_law_878 ⟨qX10_pushed.1, qX10_pushed.2.1, qX10_pushed.2.2, by decide, by decide⟩ lkRL_115 imX10_pushed seX10_pushed rfl rfl (by omega) (by omega) hXM rfl (Nat.le_of_ble_eq_true rfl) (Nat.zero_le _) (Nat.zero_le _) (m_pushed (G := G) ((xa_xs G) (i + 1)) ((xa_xs G) (i + 2)) ((xa_xs G) (i + 3)) ((xa_xs G) (i + 4)) (hxs _) (hxs _) (hxs _) (hxs _) hM) (fun r h' hq => ?_)
  obtain ⟨⟨r0, rfl, sp0⟩, hM, hn2, hf2⟩ := hq
  have e0 := sp0 _ sp1
  subst e0
  have hC := hC.fr (fun i hi => hf2 i (by omega)) (by omega)
  obtain ⟨fsC, hXC⟩ := hC.cell
  obtain ⟨⟨fsM, hXM⟩, hh91⟩ := hM.cell
  refine xa_scr0 (fun hSc => ?_)
  refine xa_icmp_eqs (pc := 881) (tgt := 991) dL_law_881 (by decide) ?_
  exact hNx _ _ _ _ _ _ _ _ _ _ _ _ _ _ _ _ _ _ _ _ _ _ _ _ _ _ _ _ hC hM (by omega) (by omega)
theorem lw_head {G : xa_G} {Z : xa_Zt} {h : xa_H} {i : Nat} {n : Nat} {f ld dg : Nat → Int} {pa jo : Nat} {wa sr pu ri : Int} {mv le fi : Nat → Int} {pc kp : Nat} {mv1 le1 fi1 : Nat → Int} {pc1 : Nat} {mv2 le2 fi2 : Nat → Int} {pc2 : Nat} {bc bs : Nat} {mc ms : Nat} (hi : i + 5 ≤ xa_L G) (hxs : ∀ j, xa_ok (xa_xs G j)) (hC : xCW h 2 n f ld dg pa jo wa sr pu ri mv le fi pc kp mv1 le1 fi1 pc1 mv2 le2 fi2 pc2 bc bs) (hM : xMW h 74 n f ld dg pa jo wa sr pu ri mv le fi pc kp mv1 le1 fi1 pc1 mv2 le2 fi2 pc2) (hmc : bc ≤ mc) (hms : bs ≤ ms) (hNx : lwN G Z i) : xa_W G mL_law Z 886 [some (xa_r 0), some (xa_r 2), some (xa_r 74), some (xa_i ((i : Nat) : Int))] [] h mc ms := by
  obtain ⟨fsC, hXC⟩ := hC.cell
  obtain ⟨⟨fsM, hXM⟩, hh91⟩ := hM.cell
  refine xa_scr0 (fun hSc => ?_)
  refine xa_aload_n (pc := 886) dL_law_886 rfl ?_
  refine xa_aload_n (pc := 887) dL_law_887 rfl ?_
  refine xa_iload_n (pc := 888) dL_law_888 rfl ?_
  refine xa_iconst (pc := 889) dL_law_889 ?_
  refine xa_iadd (pc := 890) dL_law_890 ?_
  refine xa_ialdw (pc := 891) (i + 1) dL_law_891 (by omega) hSc (by omega) (by omega) (by omega) ?_
  refine xa_aload_n (pc := 892) dL_law_892 rfl ?_
  refine xa_iload_n (pc := 893) dL_law_893 rfl ?_
  refine xa_iconst (pc := 894) dL_law_894 ?_
  refine xa_iadd (pc := 895) dL_law_895 ?_
  refine xa_ialdw (pc := 896) (i + 2) dL_law_896 (by omega) hSc (by omega) (by omega) (by omega) ?_
  refine xa_callV (pc := 897) (as := [xa_i ((xa_xs G) (i + 1)), xa_i ((xa_xs G) (i + 2))]) (rest := []) dL_law_897 ⟨qX9_head.1, qX9_head.2.1, qX9_head.2.2, by decide, by decide⟩ lkRL_116 imX9_head seX9_head rfl rfl (by omega) (by omega) hXC rfl (Nat.le_of_ble_eq_true rfl) (Nat.zero_le _) (Nat.zero_le _) (s_head (G := G) ((xa_xs G) (i + 1)) ((xa_xs G) (i + 2)) (hxs _) (hxs _) hC) (fun r h' hq => ?_)
  obtain ⟨⟨r1, rfl, sp1⟩, hC, hfr, hh⟩ := hq
  have hM := hM.fr (fun i hi hj => hfr i (by omega) (by omega)) hh
  obtain ⟨fsC, hXC⟩ := hC.cell
  obtain ⟨⟨fsM, hXM⟩, hh91⟩ := hM.cell
  refine xa_scr0 (fun hSc => ?_)
  refine xa_aload_n (pc := 900) dL_law_900 rfl ?_
  refine xa_aload_n (pc := 901) dL_law_901 rfl ?_
  refine xa_iload_n (pc := 902) dL_law_902 rfl ?_
  refine xa_iconst (pc := 903) dL_law_903 ?_
  refine xa_iadd (pc := 904) dL_law_904 ?_
  refine xa_ialdw (pc := 905) (i + 1) dL_law_905 (by omega) hSc (by omega) (by omega) (by omega) ?_
  refine xa_aload_n (pc := 906) dL_law_906 rfl ?_
  refine xa_iload_n (pc := 907) dL_law_907 rfl ?_
  refine xa_iconst (pc := 908) dL_law_908 ?_
  refine xa_iadd (pc := 909) dL_law_909 ?_
  refine xa_ialdw (pc := 910) (i + 2) dL_law_910 (by omega) hSc (by omega) (by omega) (by omega) ?_
  refine xa_callV (pc := 911) (as := [xa_i ((xa_xs G) (i + 1)), xa_i ((xa_xs G) (i + 2))]) (rest := [xa_i r1]) dL_law_911 ⟨qX10_head.1, qX10_head.2.1, qX10_head.2.2, by decide, by decide⟩ lkRL_119 imX10_head seX10_head rfl rfl (by omega) (by omega) hXM rfl (Nat.le_of_ble_eq_true rfl) (Nat.zero_le _) (Nat.zero_le _) (m_head (G := G) ((xa_xs G) (i + 1)) ((xa_xs G) (i + 2)) (hxs _) (hxs _) hM) (fun r h' hq => ?_)
  obtain ⟨⟨r0, rfl, sp0⟩, hM, hn2, hf2⟩ := hq
  have e0 := sp0 _ sp1
  subst e0
  have hC := hC.fr (fun i hi => hf2 i (by omega)) (by omega)
  obtain ⟨fsC, hXC⟩ := hC.cell
  obtain ⟨⟨fsM, hXM⟩, hh91⟩ := hM.cell
  refine xa_scr0 (fun hSc => ?_)
  refine xa_icmp_eqs (pc := 914) (tgt := 991) dL_law_914 (by decide) ?_
  exact hNx _ _ _ _ _ _ _ _ _ _ _ _ _ _ _ _ _ _ _ _ _ _ _ _ _ _ _ _ hC hM (by omega) (by omega)
theorem lw_down {G : xa_G} {Z : xa_Zt} {h : xa_H} {i : Nat} {n : Nat} {f ld dg : Nat → Int} {pa jo : Nat} {wa sr pu ri : Int} {mv le fi : Nat → Int} {pc kp : Nat} {mv1 le1 fi1 : Nat → Int} {pc1 : Nat} {mv2 le2 fi2 : Nat → Int} {pc2 : Nat} {bc bs : Nat} {mc ms : Nat} (hi : i + 5 ≤ xa_L G) (hxs : ∀ j, xa_ok (xa_xs G j)) (hC : xCW h 2 n f ld dg pa jo wa sr pu ri mv le fi pc kp mv1 le1 fi1 pc1 mv2 le2 fi2 pc2 bc bs) (hM : xMW h 74 n f ld dg pa jo wa sr pu ri mv le fi pc kp mv1 le1 fi1 pc1 mv2 le2 fi2 pc2) (hmc : bc ≤ mc) (hms : bs ≤ ms) (hNx : lwN G Z i) : xa_W G mL_law Z 919 [some (xa_r 0), some (xa_r 2), some (xa_r 74), some (xa_i ((i : Nat) : Int))] [] h mc ms := by
  obtain ⟨fsC, hXC⟩ := hC.cell
  obtain ⟨⟨fsM, hXM⟩, hh91⟩ := hM.cell
  refine xa_scr0 (fun hSc => ?_)
  refine xa_aload_n (pc := 919) dL_law_919 rfl ?_
  refine xa_aload_n (pc := 920) dL_law_920 rfl ?_
  refine xa_iload_n (pc := 921) dL_law_921 rfl ?_
  refine xa_iconst (pc := 922) dL_law_922 ?_
  refine xa_iadd (pc := 923) dL_law_923 ?_
  refine xa_ialdw (pc := 924) (i + 1) dL_law_924 (by omega) hSc (by omega) (by omega) (by omega) ?_
  refine xa_callV (pc := 925) (as := [xa_i ((xa_xs G) (i + 1))]) (rest := []) dL_law_925 ⟨qX9_down.1, qX9_down.2.1, qX9_down.2.2, by decide, by decide⟩ lkRL_120 imX9_down seX9_down rfl rfl (by omega) (by omega) hXC rfl (Nat.le_of_ble_eq_true rfl) (Nat.zero_le _) (Nat.zero_le _) (s_down (G := G) ((xa_xs G) (i + 1)) (hxs _) hC) (fun r h' hq => ?_)
  obtain ⟨⟨r1, rfl, sp1⟩, hC, hfr, hh⟩ := hq
  have hM := hM.fr (fun i hi hj => hfr i (by omega) (by omega)) hh
  obtain ⟨fsC, hXC⟩ := hC.cell
  obtain ⟨⟨fsM, hXM⟩, hh91⟩ := hM.cell
  refine xa_scr0 (fun hSc => ?_)
  refine xa_aload_n (pc := 928) dL_law_928 rfl ?_
  refine xa_aload_n (pc := 929) dL_law_929 rfl ?_
  refine xa_iload_n (pc := 930) dL_law_930 rfl ?_
  refine xa_iconst (pc := 931) dL_law_931 ?_
  refine xa_iadd (pc := 932) dL_law_932 ?_
  refine xa_ialdw (pc := 933) (i + 1) dL_law_933 (by omega) hSc (by omega) (by omega) (by omega) ?_
  refine xa_callV (pc := 934) (as := [xa_i ((xa_xs G) (i + 1))]) (rest := [xa_i r1]) dL_law_934 ⟨qX10_down.1, qX10_down.2.1, qX10_down.2.2, by decide, by decide⟩ lkRL_123 imX10_down seX10_down rfl rfl (by omega) (by omega) hXM rfl (Nat.le_of_ble_eq_true rfl) (Nat.zero_le _) (Nat.zero_le _) (m_down (G := G) ((xa_xs G) (i + 1)) (hxs _) hM) (fun r h' hq => ?_)
  obtain ⟨⟨r0, rfl, sp0⟩, hM, hn2, hf2⟩ := hq
  have e0 := sp0 _ sp1
  subst e0
  have hC := hC.fr (fun i hi => hf2 i (by omega)) (by omega)
  obtain ⟨fsC, hXC⟩ := hC.cell
  obtain ⟨⟨fsM, hXM⟩, hh91⟩ := hM.cell
  refine xa_scr0 (fun hSc => ?_)
  refine xa_icmp_eqs (pc := 937) (tgt := 991) dL_law_937 (by decide) ?_
  exact hNx _ _ _ _ _ _ _ _ _ _ _ _ _ _ _ _ _ _ _ _ _ _ _ _ _ _ _ _ hC hM (by omega) (by omega)
theorem lw_free {G : xa_G} {Z : xa_Zt} {h : xa_H} {i : Nat} {n : Nat} {f ld dg : Nat → Int} {pa jo : Nat} {wa sr pu ri : Int} {mv le fi : Nat → Int} {pc kp : Nat} {mv1 le1 fi1 : Nat → Int} {pc1 : Nat} {mv2 le2 fi2 : Nat → Int} {pc2 : Nat} {bc bs : Nat} {mc ms : Nat} (hi : i + 5 ≤ xa_L G) (hxs : ∀ j, xa_ok (xa_xs G j)) (hC : xCW h 2 n f ld dg pa jo wa sr pu ri mv le fi pc kp mv1 le1 fi1 pc1 mv2 le2 fi2 pc2 bc bs) (hM : xMW h 74 n f ld dg pa jo wa sr pu ri mv le fi pc kp mv1 le1 fi1 pc1 mv2 le2 fi2 pc2) (hmc : bc ≤ mc) (hms : bs ≤ ms) (hNx : lwN G Z i) : xa_W G mL_law Z 632 [some (xa_r 0), some (xa_r 2), some (xa_r 74), some (xa_i ((i : Nat) : Int))] [] h mc ms := by
  obtain ⟨fsC, hXC⟩ := hC.cell
  obtain ⟨⟨fsM, hXM⟩, hh91⟩ := hM.cell
  refine xa_scr0 (fun hSc => ?_)
  refine xa_aload_n (pc := 632) dL_law_632 rfl ?_
  refine xa_aload_n (pc := 633) dL_law_633 rfl ?_
  refine xa_iload_n (pc := 634) dL_law_634 rfl ?_
  refine xa_iconst (pc := 635) dL_law_635 ?_
  refine xa_iadd (pc := 636) dL_law_636 ?_
  refine xa_ialdw (pc := 637) (i + 1) dL_law_637 (by omega) hSc (by omega) (by omega) (by omega) ?_
  refine xa_callV (pc := 638) (as := [xa_i ((xa_xs G) (i + 1))]) (rest := []) dL_law_638 ⟨qX9_free.1, qX9_free.2.1, qX9_free.2.2, by decide, by decide⟩ lkRL_84 imX9_free seX9_free rfl rfl (by omega) (by omega) hXC rfl (Nat.le_of_ble_eq_true rfl) (Nat.zero_le _) (Nat.zero_le _) (s_free (G := G) ((xa_xs G) (i + 1)) (hxs _) hC) (fun r h' hq => ?_)
  obtain ⟨⟨r1, rfl, sp1⟩, hC, hfr, hh⟩ := hq
  have hM := hM.fr (fun i hi hj => hfr i (by omega) (by omega)) hh
  obtain ⟨fsC, hXC⟩ := hC.cell
  obtain ⟨⟨fsM, hXM⟩, hh91⟩ := hM.cell
  refine xa_scr0 (fun hSc => ?_)
  refine xa_aload_n (pc := 641) dL_law_641 rfl ?_
  refine xa_aload_n (pc := 642) dL_law_642 rfl ?_
  refine xa_iload_n (pc := 643) dL_law_643 rfl ?_
  refine xa_iconst (pc := 644) dL_law_644 ?_
  refine xa_iadd (pc := 645) dL_law_645 ?_
  refine xa_ialdw (pc := 646) (i + 1) dL_law_646 (by omega) hSc (by omega) (by omega) (by omega) ?_
  refine xa_callV (pc := 647) (as := [xa_i ((xa_xs G) (i + 1))]) (rest := [xa_i r1]) dL_law_647 ⟨qX10_free.1, qX10_free.2.1, qX10_free.2.2, by decide, by decide⟩ lkRL_87 imX10_free seX10_free rfl rfl (by omega) (by omega) hXM rfl (Nat.le_of_ble_eq_true rfl) (Nat.zero_le _) (Nat.zero_le _) (m_free (G := G) ((xa_xs G) (i + 1)) (hxs _) hM) (fun r h' hq => ?_)
  obtain ⟨⟨r0, rfl, sp0⟩, hM, hn2, hf2⟩ := hq
  have e0 := sp0 _ sp1
  subst e0
  have hC := hC.fr (fun i hi => hf2 i (by omega)) (by omega)
  obtain ⟨fsC, hXC⟩ := hC.cell
  obtain ⟨⟨fsM, hXM⟩, hh91⟩ := hM.cell
  refine xa_scr0 (fun hSc => ?_)
  refine xa_icmp_eqs (pc := 650) (tgt := 991) dL_law_650 (by decide) ?_
  exact hNx _ _ _ _ _ _ _ _ _ _ _ _ _ _ _ _ _ _ _ _ _ _ _ _ _ _ _ _ hC hM (by omega) (by omega)
theorem lw_fewest {G : xa_G} {Z : xa_Zt} {h : xa_H} {i : Nat} {n : Nat} {f ld dg : Nat → Int} {pa jo : Nat} {wa sr pu ri : Int} {mv le fi : Nat → Int} {pc kp : Nat} {mv1 le1 fi1 : Nat → Int} {pc1 : Nat} {mv2 le2 fi2 : Nat → Int} {pc2 : Nat} {bc bs : Nat} {mc ms : Nat} (hi : i + 5 ≤ xa_L G) (hxs : ∀ j, xa_ok (xa_xs G j)) (hC : xCW h 2 n f ld dg pa jo wa sr pu ri mv le fi pc kp mv1 le1 fi1 pc1 mv2 le2 fi2 pc2 bc bs) (hM : xMW h 74 n f ld dg pa jo wa sr pu ri mv le fi pc kp mv1 le1 fi1 pc1 mv2 le2 fi2 pc2) (hmc : bc ≤ mc) (hms : bs ≤ ms) (hNx : lwN G Z i) : xa_W G mL_law Z 655 [some (xa_r 0), some (xa_r 2), some (xa_r 74), some (xa_i ((i : Nat) : Int))] [] h mc ms := by
  obtain ⟨fsC, hXC⟩ := hC.cell
  obtain ⟨⟨fsM, hXM⟩, hh91⟩ := hM.cell
  refine xa_scr0 (fun hSc => ?_)
  refine xa_aload_n (pc := 655) dL_law_655 rfl ?_
  refine xa_callV (pc := 656) (as := []) (rest := []) dL_law_656 ⟨qX9_fewest.1, qX9_fewest.2.1, qX9_fewest.2.2, by decide, by decide⟩ lkRL_88 imX9_fewest seX9_fewest rfl rfl (by omega) (by omega) hXC rfl (Nat.le_of_ble_eq_true rfl) (Nat.zero_le _) (Nat.zero_le _) (s_fewest (G := G)  hC) (fun r h' hq => ?_)
  obtain ⟨⟨r1, rfl, sp1⟩, hC, hfr, hh⟩ := hq
  have hM := hM.fr (fun i hi hj => hfr i (by omega) (by omega)) hh
  obtain ⟨fsC, hXC⟩ := hC.cell
  obtain ⟨⟨fsM, hXM⟩, hh91⟩ := hM.cell
  refine xa_scr0 (fun hSc => ?_)
  refine xa_aload_n (pc := 659) dL_law_659 rfl ?_
  refine xa_callV (pc := 660) (as := []) (rest := [xa_i r1]) dL_law_660 ⟨qX10_fewest.1, qX10_fewest.2.1, qX10_fewest.2.2, by decide, by decide⟩ lkRL_91 imX10_fewest seX10_fewest rfl rfl (by omega) (by omega) hXM rfl (Nat.le_of_ble_eq_true rfl) (Nat.zero_le _) (Nat.zero_le _) (m_fewest (G := G)  hM) (fun r h' hq => ?_)
  obtain ⟨⟨r0, rfl, sp0⟩, hM, hn2, hf2⟩ := hq
  have e0 := sp0 _ sp1
  subst e0
  have hC := hC.fr (fun i hi => hf2 i (by omega)) (by omega)
  obtain ⟨fsC, hXC⟩ := hC.cell
  obtain ⟨⟨fsM, hXM⟩, hh91⟩ := hM.cell
  refine xa_scr0 (fun hSc => ?_)
  refine xa_icmp_eqs (pc := 663) (tgt := 991) dL_law_663 (by decide) ?_
  exact hNx _ _ _ _ _ _ _ _ _ _ _ _ _ _ _ _ _ _ _ _ _ _ _ _ _ _ _ _ hC hM (by omega) (by omega)
theorem lw_soon {G : xa_G} {Z : xa_Zt} {h : xa_H} {i : Nat} {n : Nat} {f ld dg : Nat → Int} {pa jo : Nat} {wa sr pu ri : Int} {mv le fi : Nat → Int} {pc kp : Nat} {mv1 le1 fi1 : Nat → Int} {pc1 : Nat} {mv2 le2 fi2 : Nat → Int} {pc2 : Nat} {bc bs : Nat} {mc ms : Nat} (hi : i + 5 ≤ xa_L G) (hxs : ∀ j, xa_ok (xa_xs G j)) (hC : xCW h 2 n f ld dg pa jo wa sr pu ri mv le fi pc kp mv1 le1 fi1 pc1 mv2 le2 fi2 pc2 bc bs) (hM : xMW h 74 n f ld dg pa jo wa sr pu ri mv le fi pc kp mv1 le1 fi1 pc1 mv2 le2 fi2 pc2) (hmc : bc ≤ mc) (hms : bs ≤ ms) (hNx : lwN G Z i) : xa_W G mL_law Z 553 [some (xa_r 0), some (xa_r 2), some (xa_r 74), some (xa_i ((i : Nat) : Int))] [] h mc ms := by
  obtain ⟨fsC, hXC⟩ := hC.cell
  obtain ⟨⟨fsM, hXM⟩, hh91⟩ := hM.cell
  refine xa_scr0 (fun hSc => ?_)
  refine xa_aload_n (pc := 553) dL_law_553 rfl ?_
  refine xa_aload_n (pc := 554) dL_law_554 rfl ?_
  refine xa_iload_n (pc := 555) dL_law_555 rfl ?_
  refine xa_iconst (pc := 556) dL_law_556 ?_
  refine xa_iadd (pc := 557) dL_law_557 ?_
  refine xa_ialdw (pc := 558) (i + 1) dL_law_558 (by omega) hSc (by omega) (by omega) (by omega) ?_
  refine xa_aload_n (pc := 559) dL_law_559 rfl ?_
  refine xa_iload_n (pc := 560) dL_law_560 rfl ?_
  refine xa_iconst (pc := 561) dL_law_561 ?_
  refine xa_iadd (pc := 562) dL_law_562 ?_
  refine xa_ialdw (pc := 563) (i + 2) dL_law_563 (by omega) hSc (by omega) (by omega) (by omega) ?_
  obtain ⟨cc, cs, bc1, bs1, hcc, hcs, hSt⟩ := s_soon (G := G) ((xa_xs G) (i + 1)) ((xa_xs G) (i + 2)) (hxs _) (hxs _) (by omega) hC
  refine xa_callV (pc := 564) (as := [xa_i ((xa_xs G) (i + 1)), xa_i ((xa_xs G) (i + 2))]) (rest := []) dL_law_564 ⟨qX9_soon.1, qX9_soon.2.1, qX9_soon.2.2, by decide, by decide⟩ lkRL_72 imX9_soon seX9_soon rfl rfl (by omega) (by omega) hXC rfl (Nat.le_of_ble_eq_true rfl) (by omega) (by omega) (hSt) (fun r h' hq => ?_)
  obtain ⟨⟨r1, rfl, sp1⟩, hC, hfr, hh⟩ := hq
  have hM := hM.fr (fun i hi hj => hfr i (by omega) (by omega)) hh
  obtain ⟨fsC, hXC⟩ := hC.cell
  obtain ⟨⟨fsM, hXM⟩, hh91⟩ := hM.cell
  refine xa_scr0 (fun hSc => ?_)
  refine xa_aload_n (pc := 567) dL_law_567 rfl ?_
  refine xa_aload_n (pc := 568) dL_law_568 rfl ?_
  refine xa_iload_n (pc := 569) dL_law_569 rfl ?_
  refine xa_iconst (pc := 570) dL_law_570 ?_
  refine xa_iadd (pc := 571) dL_law_571 ?_
  refine xa_ialdw (pc := 572) (i + 1) dL_law_572 (by omega) hSc (by omega) (by omega) (by omega) ?_
  refine xa_aload_n (pc := 573) dL_law_573 rfl ?_
  refine xa_iload_n (pc := 574) dL_law_574 rfl ?_
  refine xa_iconst (pc := 575) dL_law_575 ?_
  refine xa_iadd (pc := 576) dL_law_576 ?_
  refine xa_ialdw (pc := 577) (i + 2) dL_law_577 (by omega) hSc (by omega) (by omega) (by omega) ?_
  refine xa_callV (pc := 578) (as := [xa_i ((xa_xs G) (i + 1)), xa_i ((xa_xs G) (i + 2))]) (rest := [xa_i r1]) dL_law_578 ⟨qX10_soon.1, qX10_soon.2.1, qX10_soon.2.2, by decide, by decide⟩ lkRL_75 imX10_soon seX10_soon rfl rfl (by omega) (by omega) hXM rfl (Nat.le_of_ble_eq_true rfl) (Nat.zero_le _) (Nat.zero_le _) (m_soon (G := G) ((xa_xs G) (i + 1)) ((xa_xs G) (i + 2)) (hxs _) (hxs _) hM) (fun r h' hq => ?_)
  obtain ⟨⟨r0, rfl, sp0⟩, hM, hn2, hf2⟩ := hq
  have e0 := sp0 _ sp1
  subst e0
  have hC := hC.fr (fun i hi => hf2 i (by omega)) (by omega)
  obtain ⟨fsC, hXC⟩ := hC.cell
  obtain ⟨⟨fsM, hXM⟩, hh91⟩ := hM.cell
  refine xa_scr0 (fun hSc => ?_)
  refine xa_icmp_eqs (pc := 581) (tgt := 991) dL_law_581 (by decide) ?_
  exact hNx _ _ _ _ _ _ _ _ _ _ _ _ _ _ _ _ _ _ _ _ _ _ _ _ _ _ _ _ hC hM (by omega) (by omega)
theorem lw_saved {G : xa_G} {Z : xa_Zt} {h : xa_H} {i : Nat} {n : Nat} {f ld dg : Nat → Int} {pa jo : Nat} {wa sr pu ri : Int} {mv le fi : Nat → Int} {pc kp : Nat} {mv1 le1 fi1 : Nat → Int} {pc1 : Nat} {mv2 le2 fi2 : Nat → Int} {pc2 : Nat} {bc bs : Nat} {mc ms : Nat} (hi : i + 5 ≤ xa_L G) (hxs : ∀ j, xa_ok (xa_xs G j)) (hC : xCW h 2 n f ld dg pa jo wa sr pu ri mv le fi pc kp mv1 le1 fi1 pc1 mv2 le2 fi2 pc2 bc bs) (hM : xMW h 74 n f ld dg pa jo wa sr pu ri mv le fi pc kp mv1 le1 fi1 pc1 mv2 le2 fi2 pc2) (hmc : bc ≤ mc) (hms : bs ≤ ms) (hNx : lwN G Z i) : xa_W G mL_law Z 609 [some (xa_r 0), some (xa_r 2), some (xa_r 74), some (xa_i ((i : Nat) : Int))] [] h mc ms := by
  obtain ⟨fsC, hXC⟩ := hC.cell
  obtain ⟨⟨fsM, hXM⟩, hh91⟩ := hM.cell
  refine xa_scr0 (fun hSc => ?_)
  refine xa_aload_n (pc := 609) dL_law_609 rfl ?_
  refine xa_aload_n (pc := 610) dL_law_610 rfl ?_
  refine xa_iload_n (pc := 611) dL_law_611 rfl ?_
  refine xa_iconst (pc := 612) dL_law_612 ?_
  refine xa_iadd (pc := 613) dL_law_613 ?_
  refine xa_ialdw (pc := 614) (i + 1) dL_law_614 (by omega) hSc (by omega) (by omega) (by omega) ?_
  obtain ⟨cc, cs, bc1, bs1, hcc, hcs, hSt⟩ := s_saved (G := G) ((xa_xs G) (i + 1)) (hxs _) (by omega) hC
  refine xa_callV (pc := 615) (as := [xa_i ((xa_xs G) (i + 1))]) (rest := []) dL_law_615 ⟨qX9_saved.1, qX9_saved.2.1, qX9_saved.2.2, by decide, by decide⟩ lkRL_80 imX9_saved seX9_saved rfl rfl (by omega) (by omega) hXC rfl (Nat.le_of_ble_eq_true rfl) (by omega) (by omega) (hSt) (fun r h' hq => ?_)
  obtain ⟨⟨r1, rfl, sp1⟩, hC, hfr, hh⟩ := hq
  have hM := hM.fr (fun i hi hj => hfr i (by omega) (by omega)) hh
  obtain ⟨fsC, hXC⟩ := hC.cell
  obtain ⟨⟨fsM, hXM⟩, hh91⟩ := hM.cell
  refine xa_scr0 (fun hSc => ?_)
  refine xa_aload_n (pc := 618) dL_law_618 rfl ?_
  refine xa_aload_n (pc := 619) dL_law_619 rfl ?_
  refine xa_iload_n (pc := 620) dL_law_620 rfl ?_
  refine xa_iconst (pc := 621) dL_law_621 ?_
  refine xa_iadd (pc := 622) dL_law_622 ?_
  refine xa_ialdw (pc := 623) (i + 1) dL_law_623 (by omega) hSc (by omega) (by omega) (by omega) ?_
  refine xa_callV (pc := 624) (as := [xa_i ((xa_xs G) (i + 1))]) (rest := [xa_i r1]) dL_law_624 ⟨qX10_saved.1, qX10_saved.2.1, qX10_saved.2.2, by decide, by decide⟩ lkRL_83 imX10_saved seX10_saved rfl rfl (by omega) (by omega) hXM rfl (Nat.le_of_ble_eq_true rfl) (Nat.zero_le _) (Nat.zero_le _) (m_saved (G := G) ((xa_xs G) (i + 1)) (hxs _) hM) (fun r h' hq => ?_)
  obtain ⟨⟨r0, rfl, sp0⟩, hM, hn2, hf2⟩ := hq
  have e0 := sp0 _ sp1
  subst e0
  have hC := hC.fr (fun i hi => hf2 i (by omega)) (by omega)
  obtain ⟨fsC, hXC⟩ := hC.cell
  obtain ⟨⟨fsM, hXM⟩, hh91⟩ := hM.cell
  refine xa_scr0 (fun hSc => ?_)
  refine xa_icmp_eqs (pc := 627) (tgt := 991) dL_law_627 (by decide) ?_
  exact hNx _ _ _ _ _ _ _ _ _ _ _ _ _ _ _ _ _ _ _ _ _ _ _ _ _ _ _ _ hC hM (by omega) (by omega)
theorem lw_worth {G : xa_G} {Z : xa_Zt} {h : xa_H} {i : Nat} {n : Nat} {f ld dg : Nat → Int} {pa jo : Nat} {wa sr pu ri : Int} {mv le fi : Nat → Int} {pc kp : Nat} {mv1 le1 fi1 : Nat → Int} {pc1 : Nat} {mv2 le2 fi2 : Nat → Int} {pc2 : Nat} {bc bs : Nat} {mc ms : Nat} (hi : i + 5 ≤ xa_L G) (hxs : ∀ j, xa_ok (xa_xs G j)) (hC : xCW h 2 n f ld dg pa jo wa sr pu ri mv le fi pc kp mv1 le1 fi1 pc1 mv2 le2 fi2 pc2 bc bs) (hM : xMW h 74 n f ld dg pa jo wa sr pu ri mv le fi pc kp mv1 le1 fi1 pc1 mv2 le2 fi2 pc2) (hmc : bc ≤ mc) (hms : bs ≤ ms) (hNx : lwN G Z i) : xa_W G mL_law Z 668 [some (xa_r 0), some (xa_r 2), some (xa_r 74), some (xa_i ((i : Nat) : Int))] [] h mc ms := by
  obtain ⟨fsC, hXC⟩ := hC.cell
  obtain ⟨⟨fsM, hXM⟩, hh91⟩ := hM.cell
  refine xa_scr0 (fun hSc => ?_)
  refine xa_aload_n (pc := 668) dL_law_668 rfl ?_
  refine xa_aload_n (pc := 669) dL_law_669 rfl ?_
  refine xa_iload_n (pc := 670) dL_law_670 rfl ?_
  refine xa_iconst (pc := 671) dL_law_671 ?_
  refine xa_iadd (pc := 672) dL_law_672 ?_
  refine xa_ialdw (pc := 673) (i + 1) dL_law_673 (by omega) hSc (by omega) (by omega) (by omega) ?_
  refine xa_aload_n (pc := 674) dL_law_674 rfl ?_
  refine xa_iload_n (pc := 675) dL_law_675 rfl ?_
  refine xa_iconst (pc := 676) dL_law_676 ?_
  refine xa_iadd (pc := 677) dL_law_677 ?_
  refine xa_ialdw (pc := 678) (i + 2) dL_law_678 (by omega) hSc (by omega) (by omega) (by omega) ?_
  obtain ⟨cc, cs, bc1, bs1, hcc, hcs, hSt⟩ := s_worth (G := G) ((xa_xs G) (i + 1)) ((xa_xs G) (i + 2)) (hxs _) (hxs _) (by omega) hC
  refine xa_callV (pc := 679) (as := [xa_i ((xa_xs G) (i + 1)), xa_i ((xa_xs G) (i + 2))]) (rest := []) dL_law_679 ⟨qX9_worth.1, qX9_worth.2.1, qX9_worth.2.2, by decide, by decide⟩ lkRL_92 imX9_worth seX9_worth rfl rfl (by omega) (by omega) hXC rfl (Nat.le_of_ble_eq_true rfl) (by omega) (by omega) (hSt) (fun r h' hq => ?_)
  obtain ⟨⟨r1, rfl, sp1⟩, hC, hfr, hh⟩ := hq
  have hM := hM.fr (fun i hi hj => hfr i (by omega) (by omega)) hh
  obtain ⟨fsC, hXC⟩ := hC.cell
  obtain ⟨⟨fsM, hXM⟩, hh91⟩ := hM.cell
  refine xa_scr0 (fun hSc => ?_)
  refine xa_aload_n (pc := 682) dL_law_682 rfl ?_
  refine xa_aload_n (pc := 683) dL_law_683 rfl ?_
  refine xa_iload_n (pc := 684) dL_law_684 rfl ?_
  refine xa_iconst (pc := 685) dL_law_685 ?_
  refine xa_iadd (pc := 686) dL_law_686 ?_
  refine xa_ialdw (pc := 687) (i + 1) dL_law_687 (by omega) hSc (by omega) (by omega) (by omega) ?_
  refine xa_aload_n (pc := 688) dL_law_688 rfl ?_
  refine xa_iload_n (pc := 689) dL_law_689 rfl ?_
  refine xa_iconst (pc := 690) dL_law_690 ?_
  refine xa_iadd (pc := 691) dL_law_691 ?_
  refine xa_ialdw (pc := 692) (i + 2) dL_law_692 (by omega) hSc (by omega) (by omega) (by omega) ?_
  refine xa_callV (pc := 693) (as := [xa_i ((xa_xs G) (i + 1)), xa_i ((xa_xs G) (i + 2))]) (rest := [xa_i r1]) dL_law_693 ⟨qX10_worth.1, qX10_worth.2.1, qX10_worth.2.2, by decide, by decide⟩ lkRL_95 imX10_worth seX10_worth rfl rfl (by omega) (by omega) hXM rfl (Nat.le_of_ble_eq_true rfl) (Nat.zero_le _) (Nat.zero_le _) (m_worth (G := G) ((xa_xs G) (i + 1)) ((xa_xs G) (i + 2)) (hxs _) (hxs _) hM) (fun r h' hq => ?_)
  obtain ⟨⟨r0, rfl, sp0⟩, hM, hn2, hf2⟩ := hq
  have e0 := sp0 _ sp1
  subst e0
  have hC := hC.fr (fun i hi => hf2 i (by omega)) (by omega)
  obtain ⟨fsC, hXC⟩ := hC.cell
  obtain ⟨⟨fsM, hXM⟩, hh91⟩ := hM.cell
  refine xa_scr0 (fun hSc => ?_)
  refine xa_icmp_eqs (pc := 696) (tgt := 991) dL_law_696 (by decide) ?_
  exact hNx _ _ _ _ _ _ _ _ _ _ _ _ _ _ _ _ _ _ _ _ _ _ _ _ _ _ _ _ hC hM (by omega) (by omega)
theorem lw_load {G : xa_G} {Z : xa_Zt} {h : xa_H} {i : Nat} {n : Nat} {f ld dg : Nat → Int} {pa jo : Nat} {wa sr pu ri : Int} {mv le fi : Nat → Int} {pc kp : Nat} {mv1 le1 fi1 : Nat → Int} {pc1 : Nat} {mv2 le2 fi2 : Nat → Int} {pc2 : Nat} {bc bs : Nat} {mc ms : Nat} (hi : i + 5 ≤ xa_L G) (hxs : ∀ j, xa_ok (xa_xs G j)) (hC : xCW h 2 n f ld dg pa jo wa sr pu ri mv le fi pc kp mv1 le1 fi1 pc1 mv2 le2 fi2 pc2 bc bs) (hM : xMW h 74 n f ld dg pa jo wa sr pu ri mv le fi pc kp mv1 le1 fi1 pc1 mv2 le2 fi2 pc2) (hmc : bc ≤ mc) (hms : bs ≤ ms) (hNx : lwN G Z i) : xa_W G mL_law Z 266 [some (xa_r 0), some (xa_r 2), some (xa_r 74), some (xa_i ((i : Nat) : Int))] [] h mc ms := by
  obtain ⟨fsC, hXC⟩ := hC.cell
  obtain ⟨⟨fsM, hXM⟩, hh91⟩ := hM.cell
  refine xa_scr0 (fun hSc => ?_)
  refine xa_aload_n (pc := 266) dL_law_266 rfl ?_
  refine xa_aload_n (pc := 267) dL_law_267 rfl ?_
  refine xa_iload_n (pc := 268) dL_law_268 rfl ?_
  refine xa_iconst (pc := 269) dL_law_269 ?_
  refine xa_iadd (pc := 270) dL_law_270 ?_
  refine xa_ialdw (pc := 271) (i + 1) dL_law_271 (by omega) hSc (by omega) (by omega) (by omega) ?_
  refine xa_aload_n (pc := 272) dL_law_272 rfl ?_
  refine xa_iload_n (pc := 273) dL_law_273 rfl ?_
  refine xa_iconst (pc := 274) dL_law_274 ?_
  refine xa_iadd (pc := 275) dL_law_275 ?_
  refine xa_ialdw (pc := 276) (i + 2) dL_law_276 (by omega) hSc (by omega) (by omega) (by omega) ?_
  refine xa_callV (pc := 277) (as := [xa_i ((xa_xs G) (i + 1)), xa_i ((xa_xs G) (i + 2))]) (rest := []) dL_law_277 ⟨qX9_load.1, qX9_load.2.1, qX9_load.2.2, by decide, by decide⟩ lkRL_33 imX9_load seX9_load rfl rfl (by omega) (by omega) hXC rfl (Nat.le_of_ble_eq_true rfl) (Nat.zero_le _) (Nat.zero_le _) (s_load (G := G) ((xa_xs G) (i + 1)) ((xa_xs G) (i + 2)) (hxs _) (hxs _) hC) (fun r h' hq => ?_)
  obtain ⟨rfl, hC, hfr, hh⟩ := hq
  have hM := hM.fr (fun i hi hj => hfr i (by omega) (by omega)) hh
  obtain ⟨fsC, hXC⟩ := hC.cell
  obtain ⟨⟨fsM, hXM⟩, hh91⟩ := hM.cell
  refine xa_scr0 (fun hSc => ?_)
  refine xa_aload_n (pc := 280) dL_law_280 rfl ?_
  refine xa_aload_n (pc := 281) dL_law_281 rfl ?_
  refine xa_iload_n (pc := 282) dL_law_282 rfl ?_
  refine xa_iconst (pc := 283) dL_law_283 ?_
  refine xa_iadd (pc := 284) dL_law_284 ?_
  refine xa_ialdw (pc := 285) (i + 1) dL_law_285 (by omega) hSc (by omega) (by omega) (by omega) ?_
  refine xa_aload_n (pc := 286) dL_law_286 rfl ?_
  refine xa_iload_n (pc := 287) dL_law_287 rfl ?_
  refine xa_iconst (pc := 288) dL_law_288 ?_
  refine xa_iadd (pc := 289) dL_law_289 ?_
  refine xa_ialdw (pc := 290) (i + 2) dL_law_290 (by omega) hSc (by omega) (by omega) (by omega) ?_
  refine xa_callV (pc := 291) (as := [xa_i ((xa_xs G) (i + 1)), xa_i ((xa_xs G) (i + 2))]) (rest := [xa_i _]) dL_law_291 ⟨qX10_load.1, qX10_load.2.1, qX10_load.2.2, by decide, by decide⟩ lkRL_37 imX10_load seX10_load rfl rfl (by omega) (by omega) hXM rfl (Nat.le_of_ble_eq_true rfl) (Nat.zero_le _) (Nat.zero_le _) (m_load (G := G) ((xa_xs G) (i + 1)) ((xa_xs G) (i + 2)) (hxs _) (hxs _) hM) (fun r h' hq => ?_)
  obtain ⟨rfl, hM, hn2, hf2⟩ := hq
  have hC := hC.fr (fun i hi => hf2 i (by omega)) (by omega)
  obtain ⟨fsC, hXC⟩ := hC.cell
  obtain ⟨⟨fsM, hXM⟩, hh91⟩ := hM.cell
  refine xa_scr0 (fun hSc => ?_)
  refine xa_icmp_eqs (pc := 294) (tgt := 991) dL_law_294 (by decide) ?_
  exact hNx _ _ _ _ _ _ _ _ _ _ _ _ _ _ _ _ _ _ _ _ _ _ _ _ _ _ _ _ hC hM (by omega) (by omega)
theorem lw_joint {G : xa_G} {Z : xa_Zt} {h : xa_H} {i : Nat} {n : Nat} {f ld dg : Nat → Int} {pa jo : Nat} {wa sr pu ri : Int} {mv le fi : Nat → Int} {pc kp : Nat} {mv1 le1 fi1 : Nat → Int} {pc1 : Nat} {mv2 le2 fi2 : Nat → Int} {pc2 : Nat} {bc bs : Nat} {mc ms : Nat} (hi : i + 5 ≤ xa_L G) (hxs : ∀ j, xa_ok (xa_xs G j)) (hC : xCW h 2 n f ld dg pa jo wa sr pu ri mv le fi pc kp mv1 le1 fi1 pc1 mv2 le2 fi2 pc2 bc bs) (hM : xMW h 74 n f ld dg pa jo wa sr pu ri mv le fi pc kp mv1 le1 fi1 pc1 mv2 le2 fi2 pc2) (hmc : bc ≤ mc) (hms : bs ≤ ms) (hNx : lwN G Z i) : xa_W G mL_law Z 299 [some (xa_r 0), some (xa_r 2), some (xa_r 74), some (xa_i ((i : Nat) : Int))] [] h mc ms := by
  obtain ⟨fsC, hXC⟩ := hC.cell
  obtain ⟨⟨fsM, hXM⟩, hh91⟩ := hM.cell
  refine xa_scr0 (fun hSc => ?_)
  refine xa_aload_n (pc := 299) dL_law_299 rfl ?_
  refine xa_aload_n (pc := 300) dL_law_300 rfl ?_
  refine xa_iload_n (pc := 301) dL_law_301 rfl ?_
  refine xa_iconst (pc := 302) dL_law_302 ?_
  refine xa_iadd (pc := 303) dL_law_303 ?_
  refine xa_ialdw (pc := 304) (i + 1) dL_law_304 (by omega) hSc (by omega) (by omega) (by omega) ?_
  refine xa_aload_n (pc := 305) dL_law_305 rfl ?_
  refine xa_iload_n (pc := 306) dL_law_306 rfl ?_
  refine xa_iconst (pc := 307) dL_law_307 ?_
  refine xa_iadd (pc := 308) dL_law_308 ?_
  refine xa_ialdw (pc := 309) (i + 2) dL_law_309 (by omega) hSc (by omega) (by omega) (by omega) ?_
  refine xa_callV (pc := 310) (as := [xa_i ((xa_xs G) (i + 1)), xa_i ((xa_xs G) (i + 2))]) (rest := []) dL_law_310 ⟨qX9_joint.1, qX9_joint.2.1, qX9_joint.2.2, by decide, by decide⟩ lkRL_38 imX9_joint seX9_joint rfl rfl (by omega) (by omega) hXC rfl (Nat.le_of_ble_eq_true rfl) (Nat.zero_le _) (Nat.zero_le _) (s_joint (G := G) ((xa_xs G) (i + 1)) ((xa_xs G) (i + 2)) (hxs _) (hxs _) hC) (fun r h' hq => ?_)
  obtain ⟨rfl, hC, hfr, hh⟩ := hq
  have hM := hM.fr (fun i hi hj => hfr i (by omega) (by omega)) hh
  obtain ⟨fsC, hXC⟩ := hC.cell
  obtain ⟨⟨fsM, hXM⟩, hh91⟩ := hM.cell
  refine xa_scr0 (fun hSc => ?_)
  refine xa_aload_n (pc := 313) dL_law_313 rfl ?_
  refine xa_aload_n (pc := 314) dL_law_314 rfl ?_
  refine xa_iload_n (pc := 315) dL_law_315 rfl ?_
  refine xa_iconst (pc := 316) dL_law_316 ?_
  refine xa_iadd (pc := 317) dL_law_317 ?_
  refine xa_ialdw (pc := 318) (i + 1) dL_law_318 (by omega) hSc (by omega) (by omega) (by omega) ?_
  refine xa_aload_n (pc := 319) dL_law_319 rfl ?_
  refine xa_iload_n (pc := 320) dL_law_320 rfl ?_
  refine xa_iconst (pc := 321) dL_law_321 ?_
  refine xa_iadd (pc := 322) dL_law_322 ?_
  refine xa_ialdw (pc := 323) (i + 2) dL_law_323 (by omega) hSc (by omega) (by omega) (by omega) ?_
  refine xa_callV (pc := 324) (as := [xa_i ((xa_xs G) (i + 1)), xa_i ((xa_xs G) (i + 2))]) (rest := [xa_i _]) dL_law_324 ⟨qX10_joint.1, qX10_joint.2.1, qX10_joint.2.2, by decide, by decide⟩ lkRL_41 imX10_joint seX10_joint rfl rfl (by omega) (by omega) hXM rfl (Nat.le_of_ble_eq_true rfl) (Nat.zero_le _) (Nat.zero_le _) (m_joint (G := G) ((xa_xs G) (i + 1)) ((xa_xs G) (i + 2)) (hxs _) (hxs _) hM) (fun r h' hq => ?_)
  obtain ⟨rfl, hM, hn2, hf2⟩ := hq
  have hC := hC.fr (fun i hi => hf2 i (by omega)) (by omega)
  obtain ⟨fsC, hXC⟩ := hC.cell
  obtain ⟨⟨fsM, hXM⟩, hh91⟩ := hM.cell
  refine xa_scr0 (fun hSc => ?_)
  refine xa_icmp_eqs (pc := 327) (tgt := 991) dL_law_327 (by decide) ?_
  exact hNx _ _ _ _ _ _ _ _ _ _ _ _ _ _ _ _ _ _ _ _ _ _ _ _ _ _ _ _ hC hM (by omega) (by omega)
theorem lw_begun {G : xa_G} {Z : xa_Zt} {h : xa_H} {i : Nat} {n : Nat} {f ld dg : Nat → Int} {pa jo : Nat} {wa sr pu ri : Int} {mv le fi : Nat → Int} {pc kp : Nat} {mv1 le1 fi1 : Nat → Int} {pc1 : Nat} {mv2 le2 fi2 : Nat → Int} {pc2 : Nat} {bc bs : Nat} {mc ms : Nat} (hi : i + 5 ≤ xa_L G) (hxs : ∀ j, xa_ok (xa_xs G j)) (hC : xCW h 2 n f ld dg pa jo wa sr pu ri mv le fi pc kp mv1 le1 fi1 pc1 mv2 le2 fi2 pc2 bc bs) (hM : xMW h 74 n f ld dg pa jo wa sr pu ri mv le fi pc kp mv1 le1 fi1 pc1 mv2 le2 fi2 pc2) (hmc : bc ≤ mc) (hms : bs ≤ ms) (hNx : lwN G Z i) : xa_W G mL_law Z 332 [some (xa_r 0), some (xa_r 2), some (xa_r 74), some (xa_i ((i : Nat) : Int))] [] h mc ms := by
  obtain ⟨fsC, hXC⟩ := hC.cell
  obtain ⟨⟨fsM, hXM⟩, hh91⟩ := hM.cell
  refine xa_scr0 (fun hSc => ?_)
  refine xa_aload_n (pc := 332) dL_law_332 rfl ?_
  refine xa_aload_n (pc := 333) dL_law_333 rfl ?_
  refine xa_iload_n (pc := 334) dL_law_334 rfl ?_
  refine xa_iconst (pc := 335) dL_law_335 ?_
  refine xa_iadd (pc := 336) dL_law_336 ?_
  refine xa_ialdw (pc := 337) (i + 1) dL_law_337 (by omega) hSc (by omega) (by omega) (by omega) ?_
  refine xa_callV (pc := 338) (as := [xa_i ((xa_xs G) (i + 1))]) (rest := []) dL_law_338 ⟨qX9_begun.1, qX9_begun.2.1, qX9_begun.2.2, by decide, by decide⟩ lkRL_42 imX9_begun seX9_begun rfl rfl (by omega) (by omega) hXC rfl (Nat.le_of_ble_eq_true rfl) (Nat.zero_le _) (Nat.zero_le _) (s_begun (G := G) ((xa_xs G) (i + 1)) (hxs _) hC) (fun r h' hq => ?_)
  obtain ⟨rfl, hC, hfr, hh⟩ := hq
  have hM := hM.fr (fun i hi hj => hfr i (by omega) (by omega)) hh
  obtain ⟨fsC, hXC⟩ := hC.cell
  obtain ⟨⟨fsM, hXM⟩, hh91⟩ := hM.cell
  refine xa_scr0 (fun hSc => ?_)
  refine xa_aload_n (pc := 341) dL_law_341 rfl ?_
  refine xa_aload_n (pc := 342) dL_law_342 rfl ?_
  refine xa_iload_n (pc := 343) dL_law_343 rfl ?_
  refine xa_iconst (pc := 344) dL_law_344 ?_
  refine xa_iadd (pc := 345) dL_law_345 ?_
  refine xa_ialdw (pc := 346) (i + 1) dL_law_346 (by omega) hSc (by omega) (by omega) (by omega) ?_
  refine xa_callV (pc := 347) (as := [xa_i ((xa_xs G) (i + 1))]) (rest := [xa_i _]) dL_law_347 ⟨qX10_begun.1, qX10_begun.2.1, qX10_begun.2.2, by decide, by decide⟩ lkRL_46 imX10_begun seX10_begun rfl rfl (by omega) (by omega) hXM rfl (Nat.le_of_ble_eq_true rfl) (Nat.zero_le _) (Nat.zero_le _) (m_begun (G := G) ((xa_xs G) (i + 1)) (hxs _) hM) (fun r h' hq => ?_)
  obtain ⟨rfl, hM, hn2, hf2⟩ := hq
  have hC := hC.fr (fun i hi => hf2 i (by omega)) (by omega)
  obtain ⟨fsC, hXC⟩ := hC.cell
  obtain ⟨⟨fsM, hXM⟩, hh91⟩ := hM.cell
  refine xa_scr0 (fun hSc => ?_)
  refine xa_icmp_eqs (pc := 350) (tgt := 991) dL_law_350 (by decide) ?_
  exact hNx _ _ _ _ _ _ _ _ _ _ _ _ _ _ _ _ _ _ _ _ _ _ _ _ _ _ _ _ hC hM (by omega) (by omega)
theorem lw_count {G : xa_G} {Z : xa_Zt} {h : xa_H} {i : Nat} {n : Nat} {f ld dg : Nat → Int} {pa jo : Nat} {wa sr pu ri : Int} {mv le fi : Nat → Int} {pc kp : Nat} {mv1 le1 fi1 : Nat → Int} {pc1 : Nat} {mv2 le2 fi2 : Nat → Int} {pc2 : Nat} {bc bs : Nat} {mc ms : Nat} (hi : i + 5 ≤ xa_L G) (hxs : ∀ j, xa_ok (xa_xs G j)) (hC : xCW h 2 n f ld dg pa jo wa sr pu ri mv le fi pc kp mv1 le1 fi1 pc1 mv2 le2 fi2 pc2 bc bs) (hM : xMW h 74 n f ld dg pa jo wa sr pu ri mv le fi pc kp mv1 le1 fi1 pc1 mv2 le2 fi2 pc2) (hmc : bc ≤ mc) (hms : bs ≤ ms) (hNx : lwN G Z i) : xa_W G mL_law Z 968 [some (xa_r 0), some (xa_r 2), some (xa_r 74), some (xa_i ((i : Nat) : Int))] [] h mc ms := by
  obtain ⟨fsC, hXC⟩ := hC.cell
  obtain ⟨⟨fsM, hXM⟩, hh91⟩ := hM.cell
  refine xa_scr0 (fun hSc => ?_)
  refine xa_aload_n (pc := 968) dL_law_968 rfl ?_
  refine xa_aload_n (pc := 969) dL_law_969 rfl ?_
  refine xa_iload_n (pc := 970) dL_law_970 rfl ?_
  refine xa_iconst (pc := 971) dL_law_971 ?_
  refine xa_iadd (pc := 972) dL_law_972 ?_
  refine xa_ialdw (pc := 973) (i + 1) dL_law_973 (by omega) hSc (by omega) (by omega) (by omega) ?_
  refine xa_callV (pc := 974) (as := [xa_i ((xa_xs G) (i + 1))]) (rest := []) dL_law_974 ⟨qX9_count.1, qX9_count.2.1, qX9_count.2.2, by decide, by decide⟩ lkRL_132 imX9_count seX9_count rfl rfl (by omega) (by omega) hXC rfl (Nat.le_of_ble_eq_true rfl) (Nat.zero_le _) (Nat.zero_le _) (s_count (G := G) ((xa_xs G) (i + 1)) (hxs _) hC) (fun r h' hq => ?_)
  obtain ⟨rfl, hC, hfr, hh⟩ := hq
  have hM := hM.fr (fun i hi hj => hfr i (by omega) (by omega)) hh
  obtain ⟨fsC, hXC⟩ := hC.cell
  obtain ⟨⟨fsM, hXM⟩, hh91⟩ := hM.cell
  refine xa_scr0 (fun hSc => ?_)
  refine xa_aload_n (pc := 977) dL_law_977 rfl ?_
  refine xa_aload_n (pc := 978) dL_law_978 rfl ?_
  refine xa_iload_n (pc := 979) dL_law_979 rfl ?_
  refine xa_iconst (pc := 980) dL_law_980 ?_
  refine xa_iadd (pc := 981) dL_law_981 ?_
  refine xa_ialdw (pc := 982) (i + 1) dL_law_982 (by omega) hSc (by omega) (by omega) (by omega) ?_
  refine xa_callV (pc := 983) (as := [xa_i ((xa_xs G) (i + 1))]) (rest := [xa_i _]) dL_law_983 ⟨qX10_count.1, qX10_count.2.1, qX10_count.2.2, by decide, by decide⟩ lkRL_135 imX10_count seX10_count rfl rfl (by omega) (by omega) hXM rfl (Nat.le_of_ble_eq_true rfl) (Nat.zero_le _) (Nat.zero_le _) (m_count (G := G) ((xa_xs G) (i + 1)) (hxs _) hM) (fun r h' hq => ?_)
  obtain ⟨rfl, hM, hn2, hf2⟩ := hq
  have hC := hC.fr (fun i hi => hf2 i (by omega)) (by omega)
  obtain ⟨fsC, hXC⟩ := hC.cell
  obtain ⟨⟨fsM, hXM⟩, hh91⟩ := hM.cell
  refine xa_scr0 (fun hSc => ?_)
  refine xa_icmp_eqs (pc := 986) (tgt := 991) dL_law_986 (by decide) ?_
  exact hNx _ _ _ _ _ _ _ _ _ _ _ _ _ _ _ _ _ _ _ _ _ _ _ _ _ _ _ _ hC hM (by omega) (by omega)
theorem lw_wipe {G : xa_G} {Z : xa_Zt} {h : xa_H} {i : Nat} {n : Nat} {f ld dg : Nat → Int} {pa jo : Nat} {wa sr pu ri : Int} {mv le fi : Nat → Int} {pc kp : Nat} {mv1 le1 fi1 : Nat → Int} {pc1 : Nat} {mv2 le2 fi2 : Nat → Int} {pc2 : Nat} {bc bs : Nat} {mc ms : Nat} (hi : i + 5 ≤ xa_L G) (hxs : ∀ j, xa_ok (xa_xs G j)) (hC : xCW h 2 n f ld dg pa jo wa sr pu ri mv le fi pc kp mv1 le1 fi1 pc1 mv2 le2 fi2 pc2 bc bs) (hM : xMW h 74 n f ld dg pa jo wa sr pu ri mv le fi pc kp mv1 le1 fi1 pc1 mv2 le2 fi2 pc2) (hmc : bc ≤ mc) (hms : bs ≤ ms) (hNx : lwN G Z i) : xa_W G mL_law Z 227 [some (xa_r 0), some (xa_r 2), some (xa_r 74), some (xa_i ((i : Nat) : Int))] [] h mc ms := by
  obtain ⟨fsC, hXC⟩ := hC.cell
  obtain ⟨⟨fsM, hXM⟩, hh91⟩ := hM.cell
  refine xa_scr0 (fun hSc => ?_)
  refine xa_aload_n (pc := 227) dL_law_227 rfl ?_
  refine xa_callV (pc := 228) (as := []) (rest := []) dL_law_228 ⟨qX9_wipe.1, qX9_wipe.2.1, qX9_wipe.2.2, by decide, by decide⟩ lkRL_20 imX9_wipe seX9_wipe rfl rfl (by omega) (by omega) hXC rfl (Nat.le_of_ble_eq_true rfl) (Nat.zero_le _) (Nat.zero_le _) (s_wipe (G := G)  hC) (fun r h' hq => ?_)
  obtain ⟨rfl, hC, hfr, hh⟩ := hq
  have hM := hM.fr (fun i hi hj => hfr i (by omega) (by omega)) hh
  obtain ⟨fsC, hXC⟩ := hC.cell
  obtain ⟨⟨fsM, hXM⟩, hh91⟩ := hM.cell
  refine xa_scr0 (fun hSc => ?_)
  refine xa_aload_n (pc := 231) dL_law_231 rfl ?_
  refine xa_callV (pc := 232) (as := []) (rest := [xa_i _]) dL_law_232 ⟨qX10_wipe.1, qX10_wipe.2.1, qX10_wipe.2.2, by decide, by decide⟩ lkRL_24 imX10_wipe seX10_wipe rfl rfl (by omega) (by omega) hXM rfl (Nat.le_of_ble_eq_true rfl) (Nat.zero_le _) (Nat.zero_le _) (m_wipe (G := G)  hM) (fun r h' hq => ?_)
  obtain ⟨rfl, hM, hn2, hf2⟩ := hq
  have hC := hC.fr (fun i hi => hf2 i (by omega)) (by omega)
  obtain ⟨fsC, hXC⟩ := hC.cell
  obtain ⟨⟨fsM, hXM⟩, hh91⟩ := hM.cell
  refine xa_scr0 (fun hSc => ?_)
  refine xa_icmp_eqs (pc := 235) (tgt := 991) dL_law_235 (by decide) ?_
  exact hNx _ _ _ _ _ _ _ _ _ _ _ _ _ _ _ _ _ _ _ _ _ _ _ _ _ _ _ _ hC hM (by omega) (by omega)
theorem lw_noFilm {G : xa_G} {Z : xa_Zt} {h : xa_H} {i : Nat} {n : Nat} {f ld dg : Nat → Int} {pa jo : Nat} {wa sr pu ri : Int} {mv le fi : Nat → Int} {pc kp : Nat} {mv1 le1 fi1 : Nat → Int} {pc1 : Nat} {mv2 le2 fi2 : Nat → Int} {pc2 : Nat} {bc bs : Nat} {mc ms : Nat} (hi : i + 5 ≤ xa_L G) (hxs : ∀ j, xa_ok (xa_xs G j)) (hC : xCW h 2 n f ld dg pa jo wa sr pu ri mv le fi pc kp mv1 le1 fi1 pc1 mv2 le2 fi2 pc2 bc bs) (hM : xMW h 74 n f ld dg pa jo wa sr pu ri mv le fi pc kp mv1 le1 fi1 pc1 mv2 le2 fi2 pc2) (hmc : bc ≤ mc) (hms : bs ≤ ms) (hNx : lwN G Z i) : xa_W G mL_law Z 754 [some (xa_r 0), some (xa_r 2), some (xa_r 74), some (xa_i ((i : Nat) : Int))] [] h mc ms := by
  obtain ⟨fsC, hXC⟩ := hC.cell
  obtain ⟨⟨fsM, hXM⟩, hh91⟩ := hM.cell
  refine xa_scr0 (fun hSc => ?_)
  refine xa_aload_n (pc := 754) dL_law_754 rfl ?_
  refine xa_callV (pc := 755) (as := []) (rest := []) dL_law_755 ⟨qX9_noFilm.1, qX9_noFilm.2.1, qX9_noFilm.2.2, by decide, by decide⟩ lkRL_100 imX9_noFilm seX9_noFilm rfl rfl (by omega) (by omega) hXC rfl (Nat.le_of_ble_eq_true rfl) (Nat.zero_le _) (Nat.zero_le _) (s_noFilm (G := G)  hC) (fun r h' hq => ?_)
  obtain ⟨rfl, hC, hfr, hh⟩ := hq
  have hM := hM.fr (fun i hi hj => hfr i (by omega) (by omega)) hh
  obtain ⟨fsC, hXC⟩ := hC.cell
  obtain ⟨⟨fsM, hXM⟩, hh91⟩ := hM.cell
  refine xa_scr0 (fun hSc => ?_)
  refine xa_aload_n (pc := 758) dL_law_758 rfl ?_
  refine xa_callV (pc := 759) (as := []) (rest := [xa_i _]) dL_law_759 ⟨qX10_noFilm.1, qX10_noFilm.2.1, qX10_noFilm.2.2, by decide, by decide⟩ lkRL_103 imX10_noFilm seX10_noFilm rfl rfl (by omega) (by omega) hXM rfl (Nat.le_of_ble_eq_true rfl) (Nat.zero_le _) (Nat.zero_le _) (m_noFilm (G := G)  hM) (fun r h' hq => ?_)
  obtain ⟨rfl, hM, hn2, hf2⟩ := hq
  have hC := hC.fr (fun i hi => hf2 i (by omega)) (by omega)
  obtain ⟨fsC, hXC⟩ := hC.cell
  obtain ⟨⟨fsM, hXM⟩, hh91⟩ := hM.cell
  refine xa_scr0 (fun hSc => ?_)
  refine xa_icmp_eqs (pc := 762) (tgt := 991) dL_law_762 (by decide) ?_
  exact hNx _ _ _ _ _ _ _ _ _ _ _ _ _ _ _ _ _ _ _ _ _ _ _ _ _ _ _ _ hC hM (by omega) (by omega)
