/-! Search: the calls from outside -/
theorem xa_bud {G : xa_G} {Y : xa_Y} {Z : xa_Zt} {pc : Nat} {ls : xa_Ls} {st : List xa_V} {h : xa_H} {mc ms : Nat} (mc' ms' : Nat) (e1 : mc = mc') (e2 : ms = ms') (K : xa_W G Y Z pc ls st h mc' ms') : xa_W G Y Z pc ls st h mc ms := by
  subst e1
  subst e2
  exact K
theorem xSpl.lt {h : xa_H} {k kb kl kbr kam nl nb na : Nat} (hp : xSpl h k kb kl kbr kam nl nb na) : kb + 3 ≤ k ∧ 2 ≤ kb ∧ 2 ≤ k ∧ k + 11 < h.2 ∧ kl < h.2 ∧ kbr < h.2 ∧ kam < h.2 := by
  obtain ⟨h1, ⟨h2, h3, h4⟩, ⟨h5, h6, h7⟩, -⟩ := hp
  exact ⟨h1.1, h2, h3, h4, h5, h6, h7⟩
theorem xSA.spl {h : xa_H} {k kb kl kbr kam nl na : Nat} {sj rdy : Int} {ld dg : Nat → Int} {pa jo : Nat} {wa sr pu ri : Int} (hS : xSA h k kb kl kbr kam nl na sj rdy ld dg pa jo wa sr pu ri) : xSpl h k kb kl kbr kam nl (na * 11) na := by
  rcases hS with ⟨-, tk, op, ti, hR⟩ | ⟨-, hN⟩
  · exact hR.1
  · exact hN.1
theorem xSA.cell {h : xa_H} {k kb kl kbr kam nl na : Nat} {sj rdy : Int} {ld dg : Nat → Int} {pa jo : Nat} {wa sr pu ri : Int} (hS : xSA h k kb kl kbr kam nl na sj rdy ld dg pa jo wa sr pu ri) : ∃ fs, h.1 k = xa_o 3 fs := by
  rcases hS with ⟨-, tk, op, ti, h1, h2, h3, pl, lw, br, am, po, sp, lk, en, tj, tb, fi, la, lo, Q, P, M, D, n, kk, h4, h5, h6, h7, h8, h9⟩ | ⟨-, h1, ns, pl, lw, br, am, po, sp, lk, tk, en, tj, tb, op, fi, la, lo, ti, an, fs, lst, h2, h3, h4⟩
  · exact ⟨_, h9.1⟩
  · exact ⟨_, h4.1⟩
theorem c_prepare {G : xa_G} {h : xa_H} (k kb kl kbr kam nl na : Nat) (sj rdy : Int) (ld dg : Nat → Int) (pa jo : Nat) (wa sr pu ri : Int) (hB9 : vB ld dg pa jo wa sr pu ri) (hsj : -1 ≤ sj ∧ sj < (jo : Int)) (hS : xSA h k kb kl kbr kam nl na sj rdy ld dg pa jo wa sr pu ri) (hB : xB h kb ld dg pa jo wa sr pu ri) : xa_M G mX3_prepare [xa_r k] h (kC rdy na nl (kN pa jo wa sr sj)).1 (kC rdy na nl (kN pa jo wa sr sj)).2 (fun r h' => r = none ∧ (∃ (kl' kbr' kam' nl' na' : Nat) (tk' : Nat → Int) (op' ti' : Int), nl' = kNl rdy nl (kN pa jo wa sr sj) ∧ na' = kNa rdy na (kN pa jo wa sr sj) ∧ xSR h' k kb kl' kbr' kam' nl' na' sj ld dg pa jo wa sr pu ri tk' op' ti' ∧ (kl' = kl ∨ h.2 ≤ kl') ∧ (kbr' = kbr ∨ h.2 ≤ kbr') ∧ (kam' = kam ∨ h.2 ≤ kam')) ∧ h'.2 = h.2 + (kC rdy na nl (kN pa jo wa sr sj)).1 ∧ ∀ i, ((i < k ∨ k + 12 ≤ i) ∧ i ≠ kl ∧ i ≠ kbr ∧ i ≠ kam ∧ i < h.2) → h'.1 i = h.1 i) := by
  obtain ⟨p1, p2, p3, p4, p5, p6, p7⟩ := hS.spl.lt
  obtain ⟨b0, b1, b2, b3, b4⟩ := hB
  rcases hS with ⟨rfl, tk, op, ti, hR⟩ | ⟨rfl, h1, ns, pl, lw, br, am, po, sp, lk, tk, en, tj, tb, op, fi, la, lo, ti, an, fs, lst, h2, h3, e0, e1, e2, e3, t0, t1, t2, t3, t4, s0, s1, s2⟩
  · have hR' := hR
    obtain ⟨h1, h2, h3, pl, lw, br, am, po, sp, lk, en, tj, tb, fi, la, lo, Q, P, M, D, n, kk, h4, h5, h6, h7, h8, h9⟩ := hR
    refine xa_mono (c_prepare1 k kb kl op fi la lo ti _ p3 p4 h9.1) ?_
    rintro r h' ⟨q1, q2⟩
    subst q2
    exact ⟨q1, ⟨kl, kbr, kam, nl, na, tk, op, ti, rfl, rfl, hR', Or.inl rfl, Or.inl rfl, Or.inl rfl⟩, rfl, fun _ _ => rfl⟩
  · obtain ⟨hPL, -, -, g1, g2, g3⟩ := h1
    refine xa_mono (c_prepare0 k kb kl kbr kam nl (na * 11) na ns pl lw br am po sp lk tk en sj tj tb op fi la lo ti an fs lst ld dg pa jo wa sr pu ri hB9 hsj hPL p1 p2 p3 rfl g2 g3 p4 p5 p6 p7 h2 h3 e0 e1 e2 e3 t0 t1 t2 t3 t4 s0 s1 s2 b0 b1 b2) ?_
    rintro r h' ⟨q1, ⟨kl', kbr', kam', nl', na', tk', op', ti', w1, w2, w3, w4, w5, w6⟩, q2, q3⟩
    exact ⟨q1, ⟨kl', kbr', kam', nl', na', tk', op', ti', w1, w2, w3, w4, w5, w6⟩, q2, q3⟩
/-- the moves -/
theorem c_moveFrom {G : xa_G} {h : xa_H} (k kb kl kbr kam nl na : Nat) (ld dg : Nat → Int) (pa jo : Nat) (wa sr pu ri : Int) (tk : Nat → Int) (op ti : Int) (hB9 : vB ld dg pa jo wa sr pu ri) (hS : xSR h k kb kl kbr kam nl na (-1) ld dg pa jo wa sr pu ri tk op ti) (hB : xB h kb ld dg pa jo wa sr pu ri) (t i : Nat) (ht : t < 360) (hi : (i : Int) < tk t) : xa_M G mX3_moveFrom [xa_r k, xa_i ((t : Nat) : Int), xa_i ((i : Nat) : Int)] h 0 0 (fun r h' => (∃ m : Int, r = some (xa_i m) ∧ gmv ld dg pa jo wa sr pu ri (kJ jo (-1)) i ((tk t).toNat - 1) (cf_rest pa) ((t : Nat) : Int) m) ∧ xSR h' k kb kl kbr kam nl na (-1) ld dg pa jo wa sr pu ri tk op ti ∧ h'.2 = h.2 ∧ ∀ i, ((i < k ∨ k + 12 ≤ i) ∧ i ≠ kl ∧ i ≠ kbr ∧ i ≠ kam) → h'.1 i = h.1 i) := by
  obtain ⟨p1, p2, p3, p4, p5, p6, p7⟩ := hS.spl.lt
  obtain ⟨b0, b1, b2, b3, b4⟩ := hB
  have hj0 := hB9.1
  obtain ⟨⟨hPL, x1, x2, g1, g2, g3⟩, h2, h3, pl, lw, br, am, po, sp, lk, en, tj, tb, fi, la, lo, Q, P, M, D, n, kk, h4, h5, h6, h7, h8, e0, e1, e2, e3, t0, t1, t2, t3, t4, s0, s1, s2⟩ := hS
  rcases h8.2.2.1 t ht with ⟨q, -⟩ | ⟨b, c1, c2, c3, c4, c5⟩
  · omega
  refine xa_mono (c_moveFrom0 t i b n kk Q P M D lk tk en br am po sp op fi la lo ti _ tj tb k kb kl kbr kam nl (na * 11) na pl lw (-1) ld dg pa jo wa sr pu ri hB9 (by omega) h4 hPL p1 p2 p3 h2 rfl g2 h3 g3 p4 p5 p6 p7 h8 c1 (by omega) ht c4 c5 h5 h6 e0 e1 e2 e3 t0 t1 t2 t3 t4 s0 s1 s2 b0 b1 b2) ?_
  rintro r h' ⟨q1, ⟨br', am', po', sp', tj', tb', w1, w2, hE0, hE1, hE2, hE3, hT0, hT1, hT2, hT3, hT4, hS0, hS1, hS2, -, -, -⟩, q2, q3⟩
  refine ⟨⟨_, q1, ?_⟩, ⟨⟨hPL, ⟨p2, p3, by omega⟩, ⟨by omega, by omega, by omega⟩, rfl, g2, g3⟩, h2, h3, pl, lw, br', am', po', sp', lk, en, tj', tb', fi, la, lo, Q, P, M, D, n, kk, h4, w1, w2, h7, h8, hE0, hE1, hE2, hE3, hT0, hT1, hT2, hT3, hT4, hS0, hS1, hS2⟩, q2, q3⟩
  have k := sI_moves (sj := -1) hB9 rfl h8.1 ht c1 c2 c3 (i := i) (by omega)
  rw [c4]
  exact k

theorem c_ticksFrom {G : xa_G} {h : xa_H} (k kb kl kbr kam nl na : Nat) (sj rdy : Int) (ld dg : Nat → Int) (pa jo : Nat) (wa sr pu ri : Int) (hB9 : vB ld dg pa jo wa sr pu ri) (hsj : -1 ≤ sj ∧ sj < (jo : Int)) (hS : xSA h k kb kl kbr kam nl na sj rdy ld dg pa jo wa sr pu ri) (hB : xB h kb ld dg pa jo wa sr pu ri) (t : Nat) (ht : t < 360)  : xa_M G mX3_ticksFrom [xa_r k, xa_i ((t : Nat) : Int)] h (kC rdy na nl (kN pa jo wa sr sj)).1 (kC rdy na nl (kN pa jo wa sr sj)).2 (fun r h' => (∃ (kl' kbr' kam' nl' na' : Nat) (tk' : Nat → Int) (op' ti' : Int), nl' = kNl rdy nl (kN pa jo wa sr sj) ∧ na' = kNa rdy na (kN pa jo wa sr sj) ∧ xSR h' k kb kl' kbr' kam' nl' na' sj ld dg pa jo wa sr pu ri tk' op' ti' ∧ r = some (xa_i (tk' t)) ∧ (tk' t ≠ -1 ∨ op' = 0) ∧ (kl' = kl ∨ h.2 ≤ kl') ∧ (kbr' = kbr ∨ h.2 ≤ kbr') ∧ (kam' = kam ∨ h.2 ≤ kam')) ∧ h'.2 = h.2 + (kC rdy na nl (kN pa jo wa sr sj)).1 ∧ ∀ i, ((i < k ∨ k + 12 ≤ i) ∧ i ≠ kl ∧ i ≠ kbr ∧ i ≠ kam ∧ i < h.2) → h'.1 i = h.1 i) := by
  refine xa_enter (by decide +kernel) (Nat.le_of_ble_eq_true rfl) ?_
  refine xa_locals (ls' := [some (xa_r k), some (xa_i ((t : Nat) : Int)), none]) rfl ?_
  have hn : h.2 = h.2 := rfl
  have fr : ∀ i, ((i < k ∨ k + 12 ≤ i) ∧ i ≠ kl ∧ i ≠ kbr ∧ i ≠ kam ∧ i < h.2) → h.1 i = h.1 i := fun _ _ => rfl
  obtain ⟨fs, hE⟩ := hS.cell
  have hPL := hS.spl.1
  obtain ⟨p1, p2, p3, p4, p5, p6, p7⟩ := hS.spl.lt
  refine xa_aload_n (pc := 0) dX3_ticksFrom_0 rfl ?_
  refine xa_callV (pc := 1) (as := []) (rest := []) dX3_ticksFrom_1 ⟨qX3_prepare.1, qX3_prepare.2.1, qX3_prepare.2.2, by decide, by decide⟩ lkRX3_38 imX3_prepare seX3_prepare rfl rfl (by omega) (by omega) hE rfl (Nat.le_of_ble_eq_true rfl) (Nat.le_refl _) (Nat.le_refl _) (c_prepare k kb kl kbr kam nl na sj rdy ld dg pa jo wa sr pu ri hB9 hsj hS hB) (fun r h' hq => ?_)
  obtain ⟨rfl, ⟨kl', kbr', kam', nl', na', tk', op', ti', hnl', hna', ⟨⟨hPL', ⟨hkb, hk, hkn'⟩, ⟨hkl2', hkbr2', hkam2'⟩, hnbx, hna9', hnl9'⟩, hna1, hnl1, pl1, lw1, br1, am1, po1, sp1, lk1, en1, tj1, tb1, fi1, la1, lo1, Q, P, M, D, n, kk, hP1, hTI1, hstb1, hP01, hI1, hE0, hE1, hE2, hE3, hT0, hT1, hT2, hT3, hT4, hS0, hS1, hS2⟩, hx1, hx2, hx3⟩, hqn, hqf⟩ := hq
  have hn : h'.2 = h.2 + (kC rdy na nl (kN pa jo wa sr sj)).1 := hqn
  have fr : ∀ i, ((i < k ∨ k + 12 ≤ i) ∧ i ≠ kl ∧ i ≠ kbr ∧ i ≠ kam ∧ i < h.2) → h'.1 i = h.1 i := hqf
  have hB0 := (hqf kb ⟨by omega, (hPL.lb 0 (by decide)), (hPL.rb 0 (by decide)), (hPL.ab 0 (by decide)), by omega⟩).trans hB.1
  have hB1 := (hqf (kb + 1) ⟨by omega, (hPL.lb 1 (by decide)), (hPL.rb 1 (by decide)), (hPL.ab 1 (by decide)), by omega⟩).trans hB.2.1
  have hB2 := (hqf (kb + 2) ⟨by omega, (hPL.lb 2 (by decide)), (hPL.rb 2 (by decide)), (hPL.ab 2 (by decide)), by omega⟩).trans hB.2.2.1
  refine xa_iload_n (pc := 4) dX3_ticksFrom_4 rfl ?_
  refine xa_if_lt (pc := 5) (tgt := 17) dX3_ticksFrom_5 (by decide) ⟨by omega, by omega⟩ (fun c_5 => ?_) (fun c_5 => ?_)
  · skip
    exfalso; omega
  · skip
    refine xa_iload_n (pc := 8) dX3_ticksFrom_8 rfl ?_
    refine xa_aload_n (pc := 9) dX3_ticksFrom_9 rfl ?_
    refine xa_getfield (pc := 10) dX3_ticksFrom_10 flRX3_11 (by omega) (by omega) hE0 rfl ?_
    refine xa_alen (pc := 13) dX3_ticksFrom_13 (by omega) hE1 ?_
    refine xa_top (y := 360) rfl ?_
    refine xa_icmp_lt (pc := 14) (tgt := 19) dX3_ticksFrom_14 (by decide) ⟨by omega, by omega⟩ (by decide) (fun c_14 => ?_) (fun c_14 => ?_)
    · skip
      refine xa_iconst (pc := 19) dX3_ticksFrom_19 ?_
      refine xa_istoren (pc := 20) [some (xa_r k), some (xa_i ((t : Nat) : Int)), some (xa_i 0)] dX3_ticksFrom_20 (by decide) (Nat.le_of_ble_eq_true rfl) rfl rfl ?_
      refine xa_bud 0 0 (by omega) (by omega) ?_
      refine xa_wmono ?_ (c_tick_loop hB9 hsj hP1 hPL' p1 hkb hk hna1 rfl hna9' hnl1 hnl9' ht 583201 0 kk n Q P M D lk1 tk' en1 br1 am1 po1 sp1 op' fi1 la1 lo1 ti' tj1 tb1 h' (by omega) (by omega) hI1 hP01 hTI1 hstb1 rfl hkn' hkl2' hkbr2' hkam2' hE0 hE1 hE2 hE3 hT0 hT1 hT2 hT3 hT4 hS0 hS1 hS2 hB0 hB1 hB2 (fun _ _ => rfl))
      rintro r h2 ⟨⟨tk2, op2, ti2, e1, e2⟩, e3, e4⟩
      refine ⟨⟨kl', kbr', kam', nl', na', tk2, op2, ti2, hnl', hna', e1, e2.1, e2.2, hx1, hx2, hx3⟩, e3.trans hn, fun i hi => (e4 i ⟨hi.1, by omega, by omega, by omega⟩).trans (fr i hi)⟩
    · skip
      exfalso; omega
theorem c_turnsWithin {G : xa_G} {h : xa_H} (k kb kl kbr kam nl na : Nat) (sj rdy : Int) (ld dg : Nat → Int) (pa jo : Nat) (wa sr pu ri : Int) (hB9 : vB ld dg pa jo wa sr pu ri) (hsj : -1 ≤ sj ∧ sj < (jo : Int)) (hS : xSA h k kb kl kbr kam nl na sj rdy ld dg pa jo wa sr pu ri) (hB : xB h kb ld dg pa jo wa sr pu ri) (m : Nat) (hm : m ≤ 100000)  : xa_M G mX3_turnsWithin [xa_r k, xa_i ((m : Nat) : Int)] h (kC rdy na nl (kN pa jo wa sr sj)).1 (kC rdy na nl (kN pa jo wa sr sj)).2 (fun r h' => (∃ (kl' kbr' kam' nl' na' : Nat) (tk' : Nat → Int) (op' ti' : Int), nl' = kNl rdy nl (kN pa jo wa sr sj) ∧ na' = kNa rdy na (kN pa jo wa sr sj) ∧ xSR h' k kb kl' kbr' kam' nl' na' sj ld dg pa jo wa sr pu ri tk' op' ti' ∧ r = some (xa_i ((ct_n (fun t => decide (0 ≤ tk' t ∧ tk' t ≤ ((m : Nat) : Int))) 360 : Nat) : Int)) ∧ (op' = 0 ∨ ((m : Nat) : Int) ≤ ti') ∧ (kl' = kl ∨ h.2 ≤ kl') ∧ (kbr' = kbr ∨ h.2 ≤ kbr') ∧ (kam' = kam ∨ h.2 ≤ kam')) ∧ h'.2 = h.2 + (kC rdy na nl (kN pa jo wa sr sj)).1 ∧ ∀ i, ((i < k ∨ k + 12 ≤ i) ∧ i ≠ kl ∧ i ≠ kbr ∧ i ≠ kam ∧ i < h.2) → h'.1 i = h.1 i) := by
  refine xa_enter (by decide +kernel) (Nat.le_of_ble_eq_true rfl) ?_
  refine xa_locals (ls' := [some (xa_r k), some (xa_i ((m : Nat) : Int)), none, none]) rfl ?_
  have hn : h.2 = h.2 := rfl
  have fr : ∀ i, ((i < k ∨ k + 12 ≤ i) ∧ i ≠ kl ∧ i ≠ kbr ∧ i ≠ kam ∧ i < h.2) → h.1 i = h.1 i := fun _ _ => rfl
  obtain ⟨fs, hE⟩ := hS.cell
  have hPL := hS.spl.1
  obtain ⟨p1, p2, p3, p4, p5, p6, p7⟩ := hS.spl.lt
  refine xa_aload_n (pc := 0) dX3_turnsWithin_0 rfl ?_
  refine xa_callV (pc := 1) (as := []) (rest := []) dX3_turnsWithin_1 ⟨qX3_prepare.1, qX3_prepare.2.1, qX3_prepare.2.2, by decide, by decide⟩ lkRX3_38 imX3_prepare seX3_prepare rfl rfl (by omega) (by omega) hE rfl (Nat.le_of_ble_eq_true rfl) (Nat.le_refl _) (Nat.le_refl _) (c_prepare k kb kl kbr kam nl na sj rdy ld dg pa jo wa sr pu ri hB9 hsj hS hB) (fun r h' hq => ?_)
  obtain ⟨rfl, ⟨kl', kbr', kam', nl', na', tk', op', ti', hnl', hna', ⟨⟨hPL', ⟨hkb, hk, hkn'⟩, ⟨hkl2', hkbr2', hkam2'⟩, hnbx, hna9', hnl9'⟩, hna1, hnl1, pl1, lw1, br1, am1, po1, sp1, lk1, en1, tj1, tb1, fi1, la1, lo1, Q, P, M, D, n, kk, hP1, hTI1, hstb1, hP01, hI1, hE0, hE1, hE2, hE3, hT0, hT1, hT2, hT3, hT4, hS0, hS1, hS2⟩, hx1, hx2, hx3⟩, hqn, hqf⟩ := hq
  have hn : h'.2 = h.2 + (kC rdy na nl (kN pa jo wa sr sj)).1 := hqn
  have fr : ∀ i, ((i < k ∨ k + 12 ≤ i) ∧ i ≠ kl ∧ i ≠ kbr ∧ i ≠ kam ∧ i < h.2) → h'.1 i = h.1 i := hqf
  have hB0 := (hqf kb ⟨by omega, (hPL.lb 0 (by decide)), (hPL.rb 0 (by decide)), (hPL.ab 0 (by decide)), by omega⟩).trans hB.1
  have hB1 := (hqf (kb + 1) ⟨by omega, (hPL.lb 1 (by decide)), (hPL.rb 1 (by decide)), (hPL.ab 1 (by decide)), by omega⟩).trans hB.2.1
  have hB2 := (hqf (kb + 2) ⟨by omega, (hPL.lb 2 (by decide)), (hPL.rb 2 (by decide)), (hPL.ab 2 (by decide)), by omega⟩).trans hB.2.2.1
  refine xa_iconst (pc := 4) dX3_turnsWithin_4 ?_
  refine xa_istoren (pc := 5) [some (xa_r k), some (xa_i ((m : Nat) : Int)), some (xa_i 0), none] dX3_turnsWithin_5 (by decide) (Nat.le_of_ble_eq_true rfl) rfl rfl ?_
  refine xa_bud 0 0 (by omega) (by omega) ?_
  refine xa_wmono ?_ (c_with_loop hB9 hsj hP1 hPL' p1 hkb hk hna1 rfl hna9' hnl1 hnl9' hm 583201 0 kk n Q P M D lk1 tk' en1 br1 am1 po1 sp1 op' fi1 la1 lo1 ti' tj1 tb1 h' (by omega) (by omega) hI1 hP01 hTI1 hstb1 rfl hkn' hkl2' hkbr2' hkam2' hE0 hE1 hE2 hE3 hT0 hT1 hT2 hT3 hT4 hS0 hS1 hS2 hB0 hB1 hB2 (fun _ _ => rfl))
  rintro r h2 ⟨⟨tk2, op2, ti2, e1, e2⟩, e3, e4⟩
  refine ⟨⟨kl', kbr', kam', nl', na', tk2, op2, ti2, hnl', hna', e1, e2.1, e2.2, hx1, hx2, hx3⟩, e3.trans hn, fun i hi => (e4 i ⟨hi.1, by omega, by omega, by omega⟩).trans (fr i hi)⟩
