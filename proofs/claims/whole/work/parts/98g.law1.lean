/-! The law's calls, one after the other -/
theorem xa_scr0 {G : xa_G} {Y : xa_Y} {Z : xa_Zt} {pc : Nat} {ls : xa_Ls} {st : List xa_V} {h : xa_H} {mc ms : Nat} (K : h.1 0 = xa_a (xa_L G) (xa_xs G) → xa_W G Y Z pc ls st h mc ms) : xa_W G Y Z pc ls st h mc ms := by
  intro p l e s m args below meth c hB R H locs lsC cells slots r1 r2 r3 r4 hH hL hl
  exact K hH.2.2.2.1.1 p l e s m args below meth c hB R H locs lsC cells slots r1 r2 r3 r4 hH hL hl
theorem xa_icmp_eqs {G : xa_G} {Y : xa_Y} {Z : xa_Zt} {pc : Nat} {ls : xa_Ls} {st : List xa_V} {h : xa_H} {mc ms : Nat} {x : Int} {off : Int} {tgt : Nat} (hd : decode (xa_yc Y) pc = .ok (.if_icmp .eq off, 3)) (ht : (pc : Int) + off = (tgt : Int)) (kt : xa_W G Y Z tgt ls st h mc ms) : xa_W G Y Z pc ls (xa_i x :: xa_i x :: st) h mc ms := by
  intro p l e s m args below meth c hB R H locs lsC cells slots r1 r2 r3 r4 hH hL hl
  have kt := kt p l e s m args below meth c hB R H locs lsC cells slots r1 r2 r3 r4 hH hL hl
  exact lv_icmp_eq hB.1 hB.2.1 hd ht (fun _ => kt) (fun q => absurd rfl q)
/-- what goes on behind a call that both answered alike -/
def lwN (G : xa_G) (Z : xa_Zt) (i : Nat) : Prop := ∀ (h : xa_H) (n : Nat) (f ld dg : Nat → Int) (pa jo : Nat) (wa sr pu ri : Int) (mv le fi : Nat → Int) (pc kp : Nat) (mv1 le1 fi1 : Nat → Int) (pc1 : Nat) (mv2 le2 fi2 : Nat → Int) (pc2 : Nat) (bc bs : Nat) (mc ms : Nat), xCW h 2 n f ld dg pa jo wa sr pu ri mv le fi pc kp mv1 le1 fi1 pc1 mv2 le2 fi2 pc2 bc bs → xMW h 74 n f ld dg pa jo wa sr pu ri mv le fi pc kp mv1 le1 fi1 pc1 mv2 le2 fi2 pc2 → bc ≤ mc → bs ≤ ms → xa_W G mL_law Z 991 [some (xa_r 0), some (xa_r 2), some (xa_r 74), some (xa_i ((i : Nat) : Int))] [] h mc ms
theorem xMW.cell {h : xa_H} {k : Nat} {n : Nat} {f ld dg : Nat → Int} {pa jo : Nat} {wa sr pu ri : Int} {mv le fi : Nat → Int} {pc kp : Nat} {mv1 le1 fi1 : Nat → Int} {pc1 : Nat} {mv2 le2 fi2 : Nat → Int} {pc2 : Nat} (hM : xMW h k n f ld dg pa jo wa sr pu ri mv le fi pc kp mv1 le1 fi1 pc1 mv2 le2 fi2 pc2) : (∃ fs, h.1 k = xa_o 10 fs) ∧ k + 16 < h.2 := by
  obtain ⟨F, s, a, -⟩ := hM
  exact ⟨⟨_, a.1⟩, a.2.2.2.2.2.2.2.2.2.2.2.2.2.2.2.2.2.2⟩
theorem xCW.cell {h : xa_H} {k : Nat} {n : Nat} {f ld dg : Nat → Int} {pa jo : Nat} {wa sr pu ri : Int} {mv le fi : Nat → Int} {pc kp : Nat} {mv1 le1 fi1 : Nat → Int} {pc1 : Nat} {mv2 le2 fi2 : Nat → Int} {pc2 : Nat} {bc bs : Nat} (hC : xCW h k n f ld dg pa jo wa sr pu ri mv le fi pc kp mv1 le1 fi1 pc1 mv2 le2 fi2 pc2 bc bs) : ∃ fs, h.1 k = xa_o 9 fs := ⟨_, hC.1.1⟩
theorem lw_turn {G : xa_G} {Z : xa_Zt} {h : xa_H} {i : Nat} {n : Nat} {f ld dg : Nat → Int} {pa jo : Nat} {wa sr pu ri : Int} {mv le fi : Nat → Int} {pc kp : Nat} {mv1 le1 fi1 : Nat → Int} {pc1 : Nat} {mv2 le2 fi2 : Nat → Int} {pc2 : Nat} {bc bs : Nat} {mc ms : Nat} (hi : i + 5 ≤ xa_L G) (hxs : ∀ j, xa_ok (xa_xs G j)) (hC : xCW h 2 n f ld dg pa jo wa sr pu ri mv le fi pc kp mv1 le1 fi1 pc1 mv2 le2 fi2 pc2 bc bs) (hM : xMW h 74 n f ld dg pa jo wa sr pu ri mv le fi pc kp mv1 le1 fi1 pc1 mv2 le2 fi2 pc2) (hmc : bc ≤ mc) (hms : bs ≤ ms) (hNx : lwN G Z i) : xa_W G mL_law Z 411 [some (xa_r 0), some (xa_r 2), some (xa_r 74), some (xa_i ((i : Nat) : Int))] [] h mc ms := by
  obtain ⟨fsC, hXC⟩ := hC.cell
  obtain ⟨⟨fsM, hXM⟩, hh91⟩ := hM.cell
  refine xa_scr0 (fun hSc => ?_)
  refine xa_aload_n (pc := 411) dL_law_411 rfl ?_
  refine xa_aload_n (pc := 412) dL_law_412 rfl ?_
  refine xa_iload_n (pc := 413) dL_law_413 rfl ?_
  refine xa_iconst (pc := 414) dL_law_414 ?_
  refine xa_iadd (pc := 415) dL_law_415 ?_
  refine xa_ialdw (pc := 416) (i + 1) dL_law_416 (by omega) hSc (by omega) (by omega) (by omega) ?_
  refine xa_aload_n (pc := 417) dL_law_417 rfl ?_
  refine xa_iload_n (pc := 418) dL_law_418 rfl ?_
  refine xa_iconst (pc := 419) dL_law_419 ?_
  refine xa_iadd (pc := 420) dL_law_420 ?_
  refine xa_ialdw (pc := 421) (i + 2) dL_law_421 (by omega) hSc (by omega) (by omega) (by omega) ?_
  refine xa_aload_n (pc := 422) dL_law_422 rfl ?_
  refine xa_iload_n (pc := 423) dL_law_423 rfl ?_
  refine xa_iconst (pc := 424) dL_law_424 ?_
  refine xa_iadd (pc := 425) dL_law_425 ?_
  refine xa_ialdw (pc := 426) (i + 3) dL_law_426 (by omega) hSc (by omega) (by omega) (by omega) ?_
  refine xa_aload_n (pc := 427) dL_law_427 rfl ?_
  refine xa_iload_n (pc := 428) dL_law_428 rfl ?_
  refine xa_iconst (pc := 429) dL_law_429 ?_
  refine xa_iadd (pc := 430) dL_law_430 ?_
  refine xa_ialdw (pc := 431) (i + 4) dL_law_431 (by omega) hSc (by omega) (by omega) (by omega) ?_
  refine xa_callV (pc := 432) (as := [xa_i ((xa_xs G) (i + 1)), xa_i ((xa_xs G) (i + 2)), xa_i ((xa_xs G) (i + 3)), xa_i ((xa_xs G) (i + 4))]) (rest := []) dL_law_432 ⟨qX9_turn.1, qX9_turn.2.1, qX9_turn.2.2, by decide, by decide⟩ lkRL_55 imX9_turn seX9_turn rfl rfl (by omega) (by omega) hXC rfl (Nat.le_of_ble_eq_true rfl) (Nat.zero_le _) (Nat.zero_le _) (s_turn (G := G) ((xa_xs G) (i + 1)) ((xa_xs G) (i + 2)) ((xa_xs G) (i + 3)) ((xa_xs G) (i + 4)) (hxs _) (hxs _) (hxs _) (hxs _) hC) (fun r h' hq => ?_)
  obtain ⟨⟨r1, rfl, sp1⟩, hC, hfr, hh⟩ := hq
  have hM := hM.fr (fun i hi hj => hfr i (by omega) (by omega)) hh
  obtain ⟨fsC, hXC⟩ := hC.cell
  obtain ⟨⟨fsM, hXM⟩, hh91⟩ := hM.cell
  refine xa_scr0 (fun hSc => ?_)
  refine xa_aload_n (pc := 435) dL_law_435 rfl ?_
  refine xa_aload_n (pc := 436) dL_law_436 rfl ?_
  refine xa_iload_n (pc := 437) dL_law_437 rfl ?_
  refine xa_iconst (pc := 438) dL_law_438 ?_
  refine xa_iadd (pc := 439) dL_law_439 ?_
  refine xa_ialdw (pc := 440) (i + 1) dL_law_440 (by omega) hSc (by omega) (by omega) (by omega) ?_
  refine xa_aload_n (pc := 441) dL_law_441 rfl ?_
  refine xa_iload_n (pc := 442) dL_law_442 rfl ?_
  refine xa_iconst (pc := 443) dL_law_443 ?_
  refine xa_iadd (pc := 444) dL_law_444 ?_
  refine xa_ialdw (pc := 445) (i + 2) dL_law_445 (by omega) hSc (by omega) (by omega) (by omega) ?_
  refine xa_aload_n (pc := 446) dL_law_446 rfl ?_
  refine xa_iload_n (pc := 447) dL_law_447 rfl ?_
  refine xa_iconst (pc := 448) dL_law_448 ?_
  refine xa_iadd (pc := 449) dL_law_449 ?_
  refine xa_ialdw (pc := 450) (i + 3) dL_law_450 (by omega) hSc (by omega) (by omega) (by omega) ?_
  refine xa_aload_n (pc := 451) dL_law_451 rfl ?_
  refine xa_iload_n (pc := 452) dL_law_452 rfl ?_
  refine xa_iconst (pc := 453) dL_law_453 ?_
  refine xa_iadd (pc := 454) dL_law_454 ?_
  refine xa_ialdw (pc := 455) (i + 4) dL_law_455 (by omega) hSc (by omega) (by omega) (by omega) ?_
  refine xa_callV (pc := 456) (as := [xa_i ((xa_xs G) (i + 1)), xa_i ((xa_xs G) (i + 2)), xa_i ((xa_xs G) (i + 3)), xa_i ((xa_xs G) (i + 4))]) (rest := [xa_i r1]) dL_law_456 ⟨qX10_turn.1, qX10_turn.2.1, qX10_turn.2.2, by decide, by decide⟩ lkRL_59 imX10_turn seX10_turn rfl rfl (by omega) (by omega) hXM rfl (Nat.le_of_ble_eq_true rfl) (Nat.zero_le _) (Nat.zero_le _) (m_turn (G := G) ((xa_xs G) (i + 1)) ((xa_xs G) (i + 2)) ((xa_xs G) (i + 3)) ((xa_xs G) (i + 4)) (hxs _) (hxs _) (hxs _) (hxs _) hM) (fun r h' hq => ?_)
  obtain ⟨⟨r0, rfl, sp0⟩, hM, hn2, hf2⟩ := hq
  have e0 := sp0 _ sp1
  subst e0
  have hC := hC.fr (fun i hi => hf2 i (by omega)) (by omega)
  obtain ⟨fsC, hXC⟩ := hC.cell
  obtain ⟨⟨fsM, hXM⟩, hh91⟩ := hM.cell
  refine xa_scr0 (fun hSc => ?_)
  refine xa_icmp_eqs (pc := 459) (tgt := 991) dL_law_459 (by decide) ?_
  exact hNx _ _ _ _ _ _ _ _ _ _ _ _ _ _ _ _ _ _ _ _ _ _ _ _ _ _ _ _ hC hM (by omega) (by omega)
