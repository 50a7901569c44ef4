/-! Search: ticks, turns within, moves -/
theorem xSR.spl {h : xa_H} {k kb kl kbr kam nl na : Nat} {sj : Int} {ld dg : Nat → Int} {pa jo : Nat} {wa sr pu ri : Int} {tk : Nat → Int} {op ti : Int} (hS : xSR h k kb kl kbr kam nl na sj ld dg pa jo wa sr pu ri tk op ti) : xSpl h k kb kl kbr kam nl (na * 11) na := hS.1
theorem xSR.tk_b {h : xa_H} {k kb kl kbr kam nl na : Nat} {sj : Int} {ld dg : Nat → Int} {pa jo : Nat} {wa sr pu ri : Int} {tk : Nat → Int} {op ti : Int} (hS : xSR h k kb kl kbr kam nl na sj ld dg pa jo wa sr pu ri tk op ti) : ∀ t, t < 360 → -1 ≤ tk t ∧ tk t ≤ 200 := by
  obtain ⟨h1, h2, h3, pl, lw, br, am, po, sp, lk, en, tj, tb, fi, la, lo, Q, P, M, D, n, kk, h4, h5, h6, h7, h8, h9⟩ := hS
  exact fun t ht => sI_b h8 ht
theorem xSR.tk_is {h : xa_H} {k kb kl kbr kam nl na : Nat} {sj : Int} {ld dg : Nat → Int} {pa jo : Nat} {wa sr pu ri : Int} {tk : Nat → Int} {op ti : Int} (hB : vB ld dg pa jo wa sr pu ri) (hsj : -1 ≤ sj ∧ sj < (jo : Int)) (hS : xSR h k kb kl kbr kam nl na sj ld dg pa jo wa sr pu ri tk op ti) {t : Nat} (ht : t < 360) (hd : tk t ≠ -1 ∨ op = 0) : tk_is ld dg pa jo wa sr pu ri (kJ jo sj) (t : Int) (if tk t = -1 then -4 else tk t) := by
  obtain ⟨h1, h2, h3, pl, lw, br, am, po, sp, lk, en, tj, tb, fi, la, lo, Q, P, M, D, n, kk, h4, h5, h6, h7, h8, h9⟩ := hS
  exact sI_tk hB hsj h8 ht hd
theorem xSR.tk_B {h : xa_H} {k kb kl kbr kam nl na : Nat} {sj : Int} {ld dg : Nat → Int} {pa jo : Nat} {wa sr pu ri : Int} {tk : Nat → Int} {op ti : Int} (hB : vB ld dg pa jo wa sr pu ri) (hsj : -1 ≤ sj ∧ sj < (jo : Int)) (hS : xSR h k kb kl kbr kam nl na sj ld dg pa jo wa sr pu ri tk op ti) {m t : Nat} (ht : t < 360) (hd : op = 0 ∨ (m : Int) ≤ ti) : (0 ≤ tk t ∧ tk t ≤ (m : Int)) ↔ tk_B ld dg pa jo wa sr pu ri (kJ jo sj) (t : Int) m := by
  obtain ⟨h1, h2, h3, pl, lw, br, am, po, sp, lk, en, tj, tb, fi, la, lo, Q, P, M, D, n, kk, h4, h5, h6, h7, h8, h9⟩ := hS
  exact sI_B hB hsj h8 ht hd
theorem sI_op {ld dg : Nat → Int} {pa jo : Nat} {wa sr pu ri sj : Int} {lk tk en : Nat → Int} {op fi la lo ti an : Int} {Q P M D : Nat → Nat} {n k : Nat} (hI : sI ld dg pa jo wa sr pu ri sj lk tk en op fi la lo ti an Q P M D n k) : (op = 0 ∨ op = 1) ∧ k ≤ n ∧ n ≤ (360 * kN pa jo wa sr sj).toNat ∧ (k = n → op = 0) ∧ (op = 1 → k < n) := by
  have h1 := qI_le hI.1
  have h2 := hI.1.1.2.2.2
  rcases hI.2.2.2.2.2.2.2.2 with ⟨a, b, -⟩ | ⟨a, -⟩ <;> exact ⟨by omega, by omega, by omega, by omega, by omega⟩

set_option maxHeartbeats 4000000 in
theorem c_tick_loop {G : xa_G} {h0 : xa_H} {t : Nat} {k kb kl kbr kam nl nb na : Nat} {pl lw : Nat → Int} {sj : Int} {ld dg : Nat → Int} {pa jo : Nat} {wa sr pu ri : Int} (hB9 : vB ld dg pa jo wa sr pu ri) (hsj : -1 ≤ sj ∧ sj < (jo : Int)) (hP : kP jo wa sr sj pl lw) (hPL : PL k kb kl kbr kam) (hkk : kb + 3 ≤ k) (hkb : 2 ≤ kb) (hk : 2 ≤ k) (hna : kN pa jo wa sr sj ≤ (na : Int)) (hnb : nb = na * 11) (hna9 : na ≤ 100000) (hnl : 360 * kN pa jo wa sr sj ≤ (nl : Int)) (hnl9 : nl ≤ 583200) (ht : t < 360) : ∀ (d : Nat) (i kk n : Nat) (Q P M D : Nat → Nat) (lk tk en br am po sp : Nat → Int) (op fi la lo ti tj tb : Int) (h : xa_H), 583200 - kk < d → (i ≤ kk) → (sI ld dg pa jo wa sr pu ri sj lk tk en op fi la lo ti ((sC tk : Nat) : Int) Q P M D n kk) → (P 0 = 0) → (kTI ld dg pa jo wa sr pu sj br am) → (xStb po sp tj tb) → (h.2 = h0.2) → (k + 11 < h.2) → (kl < h.2) → (kbr < h.2) → (kam < h.2) → (h.1 k = xa_o 3 [xa_r kb, xa_r (k + 4), xa_r (k + 1), xa_r (k + 2), xa_r kl, xa_i 1, xa_i op, xa_i fi, xa_i la, xa_i lo, xa_i ti, xa_i ((sC tk : Nat) : Int)]) → (h.1 (k + 1) = xa_a 360 tk) → (h.1 (k + 2) = xa_a 360 en) → (h.1 kl = xa_a nl lk) → (h.1 (k + 4) = xa_o 6 [xa_r kb, xa_r (k + 4 + 5), xa_i sj, xa_r (k + 4 + 1), xa_r (k + 4 + 2), xa_i (((kN pa jo wa sr sj).toNat : Nat) : Int), xa_i (kF pa jo wa sr sj), xa_i (kF pa jo wa sr sj + (if 2 < pa then 27 else 9) - 1), xa_r kbr, xa_r kam]) → (h.1 (k + 4 + 1) = xa_a 2 pl) → (h.1 (k + 4 + 2) = xa_a 2 lw) → (h.1 kbr = xa_a nb br) → (h.1 kam = xa_a na am) → (h.1 (k + 4 + 5) = xa_o 4 [xa_r kb, xa_r (k + 4 + 5 + 1), xa_r (k + 4 + 5 + 2), xa_i tj, xa_i tb]) → (h.1 (k + 4 + 5 + 1) = xa_a 3 po) → (h.1 (k + 4 + 5 + 2) = xa_a 2 sp) → (h.1 kb = xa_o 0 [xa_r (kb + 1), xa_r (kb + 2), xa_i ((pa : Nat) : Int), xa_i ((jo : Nat) : Int), xa_i wa, xa_i sr, xa_i pu, xa_i ri]) → (h.1 (kb + 1) = xa_a 9 ld) → (h.1 (kb + 2) = xa_a 2 dg) → (∀ i, ((i < k ∨ k + 12 ≤ i) ∧ i ≠ kl ∧ i ≠ kbr ∧ i ≠ kam) → h.1 i = h0.1 i) → xa_W G mX3_ticksFrom (xa_Z G (fun r h' => (∃ (tk' : Nat → Int) (op' ti' : Int), xSR h' k kb kl kbr kam nl na sj ld dg pa jo wa sr pu ri tk' op' ti' ∧ r = some (xa_i (tk' t)) ∧ (tk' t ≠ -1 ∨ op' = 0)) ∧ h'.2 = h0.2 ∧ ∀ i, ((i < k ∨ k + 12 ≤ i) ∧ i ≠ kl ∧ i ≠ kbr ∧ i ≠ kam) → h'.1 i = h0.1 i)) 21 [some (xa_r k), some (xa_i ((t : Nat) : Int)), some (xa_i ((i : Nat) : Int))] [] h 0 0 := by
  intro d
  induction d with
  | zero => intros; exfalso; omega
  | succ d ih =>
    intro i kk n Q P M D lk tk en br am po sp op fi la lo ti tj tb h hd hik hI hP0 hTI hstb hn0 hkn hkl2 hkbr2 hkam2 hE0 hE1 hE2 hE3 hT0 hT1 hT2 hT3 hT4 hS0 hS1 hS2 hB0 hB1 hB2 fr0
    have hn : h.2 = h.2 := rfl
    have fr : ∀ i, ((i < k ∨ k + 12 ≤ i) ∧ i ≠ kl ∧ i ≠ kbr ∧ i ≠ kam) → h.1 i = h.1 i := fun _ _ => rfl
    have hN := kN_b (sj := sj) hB9
    obtain ⟨hop, hkn9, hnN, hkop, hopk⟩ := sI_op hI
    have htk := fun t ht => sI_b hI (t := t) ht
    refine xa_iload_n (pc := 21) dX3_ticksFrom_21 rfl ?_
    refine xa_ldc (pc := 22) (n := 583200) dX3_ticksFrom_22 ctRX3_41 rfl ?_
    refine xa_icmp_ge (pc := 24) (tgt := 54) dX3_ticksFrom_24 (by decide) ⟨by omega, by omega⟩ (by decide) (fun c_24 => ?_) (fun c_24 => ?_)
    · skip
      refine xa_aload_n (pc := 54) dX3_ticksFrom_54 rfl ?_
      refine xa_getfield (pc := 55) dX3_ticksFrom_55 flRX3_11 (by omega) (by omega) hE0 rfl ?_
      refine xa_iload_n (pc := 58) dX3_ticksFrom_58 rfl ?_
      refine xa_ialdw (pc := 59) t dX3_ticksFrom_59 (by omega) hE1 (by omega) (by omega) (Int.toNat_natCast _) ?_
      have htb := htk t ht
      refine xa_ireturn (pc := 60) dX3_ticksFrom_60 rfl trivial ?_
      subst hnb
      exact ⟨⟨tk, op, ti, ⟨⟨hPL, ⟨hkb, hk, by omega⟩, ⟨by omega, by omega, by omega⟩, rfl, hna9, hnl9⟩, hna, hnl, pl, lw, br, am, po, sp, lk, en, tj, tb, fi, la, lo, Q, P, M, D, n, kk, hP, hTI, hstb, hP0, hI, hE0, hE1, hE2, hE3, hT0, hT1, hT2, hT3, hT4, hS0, hS1, hS2⟩, rfl, by omega⟩, by omega, fun i hi => (fr i hi).trans (fr0 i hi)⟩
    · skip
      refine xa_aload_n (pc := 27) dX3_ticksFrom_27 rfl ?_
      refine xa_getfield (pc := 28) dX3_ticksFrom_28 flRX3_42 (by omega) (by omega) hE0 rfl ?_
      refine xa_if_eq (pc := 31) (tgt := 54) dX3_ticksFrom_31 (by decide) ⟨by omega, by omega⟩ (fun c_31 => ?_) (fun c_31 => ?_)
      · skip
        refine xa_aload_n (pc := 54) dX3_ticksFrom_54 rfl ?_
        refine xa_getfield (pc := 55) dX3_ticksFrom_55 flRX3_11 (by omega) (by omega) hE0 rfl ?_
        refine xa_iload_n (pc := 58) dX3_ticksFrom_58 rfl ?_
        refine xa_ialdw (pc := 59) t dX3_ticksFrom_59 (by omega) hE1 (by omega) (by omega) (Int.toNat_natCast _) ?_
        have htb := htk t ht
        refine xa_ireturn (pc := 60) dX3_ticksFrom_60 rfl trivial ?_
        subst hnb
        exact ⟨⟨tk, op, ti, ⟨⟨hPL, ⟨hkb, hk, by omega⟩, ⟨by omega, by omega, by omega⟩, rfl, hna9, hnl9⟩, hna, hnl, pl, lw, br, am, po, sp, lk, en, tj, tb, fi, la, lo, Q, P, M, D, n, kk, hP, hTI, hstb, hP0, hI, hE0, hE1, hE2, hE3, hT0, hT1, hT2, hT3, hT4, hS0, hS1, hS2⟩, rfl, by omega⟩, by omega, fun i hi => (fr i hi).trans (fr0 i hi)⟩
      · skip
        refine xa_aload_n (pc := 34) dX3_ticksFrom_34 rfl ?_
        refine xa_getfield (pc := 35) dX3_ticksFrom_35 flRX3_11 (by omega) (by omega) hE0 rfl ?_
        refine xa_iload_n (pc := 38) dX3_ticksFrom_38 rfl ?_
        refine xa_ialdw (pc := 39) t dX3_ticksFrom_39 (by omega) hE1 (by omega) (by omega) (Int.toNat_natCast _) ?_
        have htb := htk t ht
        refine xa_iconst (pc := 40) dX3_ticksFrom_40 ?_
        refine xa_icmp_ne (pc := 41) (tgt := 54) dX3_ticksFrom_41 (by decide) ⟨by omega, by omega⟩ (by decide) (fun c_41 => ?_) (fun c_41 => ?_)
        · skip
          refine xa_aload_n (pc := 54) dX3_ticksFrom_54 rfl ?_
          refine xa_getfield (pc := 55) dX3_ticksFrom_55 flRX3_11 (by omega) (by omega) hE0 rfl ?_
          refine xa_iload_n (pc := 58) dX3_ticksFrom_58 rfl ?_
          refine xa_ialdw (pc := 59) t dX3_ticksFrom_59 (by omega) hE1 (by omega) (by omega) (Int.toNat_natCast _) ?_
          have htb := htk t ht
          refine xa_ireturn (pc := 60) dX3_ticksFrom_60 rfl trivial ?_
          subst hnb
          exact ⟨⟨tk, op, ti, ⟨⟨hPL, ⟨hkb, hk, by omega⟩, ⟨by omega, by omega, by omega⟩, rfl, hna9, hnl9⟩, hna, hnl, pl, lw, br, am, po, sp, lk, en, tj, tb, fi, la, lo, Q, P, M, D, n, kk, hP, hTI, hstb, hP0, hI, hE0, hE1, hE2, hE3, hT0, hT1, hT2, hT3, hT4, hS0, hS1, hS2⟩, rfl, by omega⟩, by omega, fun i hi => (fr i hi).trans (fr0 i hi)⟩
        · skip
          refine xa_aload_n (pc := 44) dX3_ticksFrom_44 rfl ?_
          refine xa_callV (pc := 45) (as := []) (rest := []) dX3_ticksFrom_45 ⟨qX3_expandFirst.1, qX3_expandFirst.2.1, qX3_expandFirst.2.2, by decide, by decide⟩ lkRX3_45 imX3_expandFirst seX3_expandFirst rfl rfl (by omega) (by omega) hE0 rfl (Nat.le_of_ble_eq_true rfl) (Nat.zero_le _) (Nat.zero_le _) (c_expandFirst br am po sp lk tk en tj tb op fi la lo ti _ Q P M D n kk k kb kl kbr kam nl nb na pl lw sj 1 ld dg pa jo wa sr pu ri hB9 hsj hP hPL hkk hkb hk hna hnb hna9 hnl hnl9 (by omega) (by omega) (by omega) (by omega) hstb hTI hI hP0 (by omega) hE0 hE1 hE2 hE3 hT0 hT1 hT2 hT3 hT4 hS0 hS1 hS2 hB0 hB1 hB2) (fun r h' hq => ?_)
          obtain ⟨rfl, ⟨lk', tk', en', br', am', po', sp', op', fi', la', lo', ti', tj', tb', Q', P', M', D', n', hI', hP0', hTI', hstb', hE0, hE1, hE2, hE3, hT0, hT1, hT2, hT3, hT4, hS0, hS1, hS2, hB0, hB1, hB2⟩, hqn, hqf⟩ := hq
          have hn : h'.2 = h.2 := hqn.trans hn
          have fr : ∀ i, ((i < k ∨ k + 12 ≤ i) ∧ i ≠ kl ∧ i ≠ kbr ∧ i ≠ kam) → h'.1 i = h.1 i := fun i hi => (hqf i hi).trans (fr i hi)
          refine xa_iincw (pc := 48) (y := ((i + 1 : Nat) : Int)) [some (xa_r k), some (xa_i ((t : Nat) : Int)), some (xa_i ((i + 1 : Nat) : Int))] dX3_ticksFrom_48 (by decide) rfl rfl (by omega) rfl ?_
          refine xa_goto (pc := 51) (tgt := 21) dX3_ticksFrom_51 (by decide) ?_
          exact ih (i + 1) (kk + 1) n' Q' P' M' D' lk' tk' en' br' am' po' sp' op' fi' la' lo' ti' tj' tb' h' (by omega) (by omega) hI' hP0' hTI' hstb' (by omega) (by omega) (by omega) (by omega) (by omega) hE0 hE1 hE2 hE3 hT0 hT1 hT2 hT3 hT4 hS0 hS1 hS2 hB0 hB1 hB2 (fun i hi => (fr i hi).trans (fr0 i hi))
theorem c_within_loop {G : xa_G} {h : xa_H} {m : Nat} {tk en lk : Nat → Int} {k kb kl nl : Nat} {rdy op fi la lo ti an : Int} (hk : 2 ≤ k) (hkn : k + 11 < h.2) (hm : m ≤ 100000) (htk : ∀ t, t < 360 → -1 ≤ tk t ∧ tk t ≤ 200) (hE0 : h.1 k = xa_o 3 [xa_r kb, xa_r (k + 4), xa_r (k + 1), xa_r (k + 2), xa_r kl, xa_i rdy, xa_i op, xa_i fi, xa_i la, xa_i lo, xa_i ti, xa_i an]) (hE1 : h.1 (k + 1) = xa_a 360 tk) : ∀ (d : Nat) (e : Nat), 360 - e < d → (e ≤ 360) → xa_W G mX3_turnsWithin (xa_Z G (fun r h' => r = some (xa_i ((ct_n (fun t => decide (0 ≤ tk t ∧ tk t ≤ ((m : Nat) : Int))) 360 : Nat) : Int)) ∧ h' = h)) 41 [some (xa_r k), some (xa_i ((m : Nat) : Int)), some (xa_i ((ct_n (fun t => decide (0 ≤ tk t ∧ tk t ≤ ((m : Nat) : Int))) e : Nat) : Int)), some (xa_i ((e : Nat) : Int))] [] h 0 0 := by
  intro d
  induction d with
  | zero => intros; exfalso; omega
  | succ d ih =>
    intro e hd he
    have hce := ct_le (fun t => decide (0 ≤ tk t ∧ tk t ≤ ((m : Nat) : Int))) e
    refine xa_iload_n (pc := 41) dX3_turnsWithin_41 rfl ?_
    refine xa_aload_n (pc := 42) dX3_turnsWithin_42 rfl ?_
    refine xa_getfield (pc := 43) dX3_turnsWithin_43 flRX3_11 (by omega) (by omega) hE0 rfl ?_
    refine xa_alen (pc := 46) dX3_turnsWithin_46 (by omega) hE1 ?_
    refine xa_top (y := 360) rfl ?_
    refine xa_icmp_ge (pc := 47) (tgt := 73) dX3_turnsWithin_47 (by decide) ⟨by omega, by omega⟩ (by decide) (fun c_47 => ?_) (fun c_47 => ?_)
    · skip
      refine xa_iload_n (pc := 73) dX3_turnsWithin_73 rfl ?_
      refine xa_ireturn (pc := 74) dX3_turnsWithin_74 rfl trivial ?_
      have he3 : e = 360 := by omega
      subst he3
      exact ⟨rfl, rfl⟩
    · skip
      refine xa_aload_n (pc := 50) dX3_turnsWithin_50 rfl ?_
      refine xa_getfield (pc := 51) dX3_turnsWithin_51 flRX3_11 (by omega) (by omega) hE0 rfl ?_
      refine xa_iload_n (pc := 54) dX3_turnsWithin_54 rfl ?_
      refine xa_ialdw (pc := 55) e dX3_turnsWithin_55 (by omega) hE1 (by omega) (by omega) (Int.toNat_natCast _) ?_
      have htb := htk e (by omega)
      refine xa_iconst (pc := 56) dX3_turnsWithin_56 ?_
      refine xa_iload_n (pc := 57) dX3_turnsWithin_57 rfl ?_
      refine xa_callS (pc := 58) (as := [xa_i (tk e), xa_i 0, xa_i ((m : Nat) : Int)]) (rest := []) dX3_turnsWithin_58 ⟨qX9_isWithin.1, qX9_isWithin.2.1, qX9_isWithin.2.2, by decide, by decide⟩ lkRX3_52 smX9_isWithin rfl rfl (Nat.le_of_ble_eq_true rfl) (Nat.zero_le _) (Nat.zero_le _) (c_isWithin _ _ _ ⟨by omega, by omega⟩ (by decide) ⟨by omega, by omega⟩) (fun r h' hq => ?_)
      obtain ⟨rfl, hq⟩ := hq
      have hq := hq.symm
      subst hq
      refine xa_if_eq (pc := 61) (tgt := 67) dX3_turnsWithin_61 (by decide) xa_okb (fun c_61 => ?_) (fun c_61 => ?_)
      · have c_61 := xa_b0.mp c_61
        refine xa_iincw (pc := 67) (y := ((e + 1 : Nat) : Int)) [some (xa_r k), some (xa_i ((m : Nat) : Int)), some (xa_i ((ct_n (fun t => decide (0 ≤ tk t ∧ tk t ≤ ((m : Nat) : Int))) e : Nat) : Int)), some (xa_i ((e + 1 : Nat) : Int))] dX3_turnsWithin_67 (by decide) rfl rfl (by omega) rfl ?_
        refine xa_goto (pc := 70) (tgt := 41) dX3_turnsWithin_70 (by decide) ?_
        have ec : ((ct_n (fun t => decide (0 ≤ tk t ∧ tk t ≤ ((m : Nat) : Int))) e : Nat) : Int) = ((ct_n (fun t => decide (0 ≤ tk t ∧ tk t ≤ ((m : Nat) : Int))) (e + 1) : Nat) : Int) := by
          show ((ct_n (fun t => decide (0 ≤ tk t ∧ tk t ≤ ((m : Nat) : Int))) e : Nat) : Int) = ((ct_n (fun t => decide (0 ≤ tk t ∧ tk t ≤ ((m : Nat) : Int))) e + (if (fun t => decide (0 ≤ tk t ∧ tk t ≤ ((m : Nat) : Int))) e = true then 1 else 0) : Nat) : Int)
          rw [if_neg (by rw [decide_eq_true_iff]; exact c_61)]
          all_goals omega
        rw [ec]
        exact ih (e + 1) (by omega) (by omega)
      · have c_61 := xa_b1.mp c_61
        refine xa_iincw (pc := 64) (y := ((ct_n (fun t => decide (0 ≤ tk t ∧ tk t ≤ ((m : Nat) : Int))) e + 1 : Nat) : Int)) [some (xa_r k), some (xa_i ((m : Nat) : Int)), some (xa_i ((ct_n (fun t => decide (0 ≤ tk t ∧ tk t ≤ ((m : Nat) : Int))) e + 1 : Nat) : Int)), some (xa_i ((e : Nat) : Int))] dX3_turnsWithin_64 (by decide) rfl rfl (by omega) rfl ?_
        refine xa_iincw (pc := 67) (y := ((e + 1 : Nat) : Int)) [some (xa_r k), some (xa_i ((m : Nat) : Int)), some (xa_i ((ct_n (fun t => decide (0 ≤ tk t ∧ tk t ≤ ((m : Nat) : Int))) e + 1 : Nat) : Int)), some (xa_i ((e + 1 : Nat) : Int))] dX3_turnsWithin_67 (by decide) rfl rfl (by omega) rfl ?_
        refine xa_goto (pc := 70) (tgt := 41) dX3_turnsWithin_70 (by decide) ?_
        have ec : ((ct_n (fun t => decide (0 ≤ tk t ∧ tk t ≤ ((m : Nat) : Int))) e + 1 : Nat) : Int) = ((ct_n (fun t => decide (0 ≤ tk t ∧ tk t ≤ ((m : Nat) : Int))) (e + 1) : Nat) : Int) := by
          show ((ct_n (fun t => decide (0 ≤ tk t ∧ tk t ≤ ((m : Nat) : Int))) e + 1 : Nat) : Int) = ((ct_n (fun t => decide (0 ≤ tk t ∧ tk t ≤ ((m : Nat) : Int))) e + (if (fun t => decide (0 ≤ tk t ∧ tk t ≤ ((m : Nat) : Int))) e = true then 1 else 0) : Nat) : Int)
          rw [if_pos (by rw [decide_eq_true_iff]; exact c_61)]
          all_goals omega
        rw [ec]
        exact ih (e + 1) (by omega) (by omega)
set_option maxHeartbeats 4000000 in
theorem c_with_loop {G : xa_G} {h0 : xa_H} {m : Nat} {k kb kl kbr kam nl nb na : Nat} {pl lw : Nat → Int} {sj : Int} {ld dg : Nat → Int} {pa jo : Nat} {wa sr pu ri : Int} (hB9 : vB ld dg pa jo wa sr pu ri) (hsj : -1 ≤ sj ∧ sj < (jo : Int)) (hP : kP jo wa sr sj pl lw) (hPL : PL k kb kl kbr kam) (hkk : kb + 3 ≤ k) (hkb : 2 ≤ kb) (hk : 2 ≤ k) (hna : kN pa jo wa sr sj ≤ (na : Int)) (hnb : nb = na * 11) (hna9 : na ≤ 100000) (hnl : 360 * kN pa jo wa sr sj ≤ (nl : Int)) (hnl9 : nl ≤ 583200) (hm : m ≤ 100000) : ∀ (d : Nat) (i kk n : Nat) (Q P M D : Nat → Nat) (lk tk en br am po sp : Nat → Int) (op fi la lo ti tj tb : Int) (h : xa_H), 583200 - kk < d → (i ≤ kk) → (sI ld dg pa jo wa sr pu ri sj lk tk en op fi la lo ti ((sC tk : Nat) : Int) Q P M D n kk) → (P 0 = 0) → (kTI ld dg pa jo wa sr pu sj br am) → (xStb po sp tj tb) → (h.2 = h0.2) → (k + 11 < h.2) → (kl < h.2) → (kbr < h.2) → (kam < h.2) → (h.1 k = xa_o 3 [xa_r kb, xa_r (k + 4), xa_r (k + 1), xa_r (k + 2), xa_r kl, xa_i 1, xa_i op, xa_i fi, xa_i la, xa_i lo, xa_i ti, xa_i ((sC tk : Nat) : Int)]) → (h.1 (k + 1) = xa_a 360 tk) → (h.1 (k + 2) = xa_a 360 en) → (h.1 kl = xa_a nl lk) → (h.1 (k + 4) = xa_o 6 [xa_r kb, xa_r (k + 4 + 5), xa_i sj, xa_r (k + 4 + 1), xa_r (k + 4 + 2), xa_i (((kN pa jo wa sr sj).toNat : Nat) : Int), xa_i (kF pa jo wa sr sj), xa_i (kF pa jo wa sr sj + (if 2 < pa then 27 else 9) - 1), xa_r kbr, xa_r kam]) → (h.1 (k + 4 + 1) = xa_a 2 pl) → (h.1 (k + 4 + 2) = xa_a 2 lw) → (h.1 kbr = xa_a nb br) → (h.1 kam = xa_a na am) → (h.1 (k + 4 + 5) = xa_o 4 [xa_r kb, xa_r (k + 4 + 5 + 1), xa_r (k + 4 + 5 + 2), xa_i tj, xa_i tb]) → (h.1 (k + 4 + 5 + 1) = xa_a 3 po) → (h.1 (k + 4 + 5 + 2) = xa_a 2 sp) → (h.1 kb = xa_o 0 [xa_r (kb + 1), xa_r (kb + 2), xa_i ((pa : Nat) : Int), xa_i ((jo : Nat) : Int), xa_i wa, xa_i sr, xa_i pu, xa_i ri]) → (h.1 (kb + 1) = xa_a 9 ld) → (h.1 (kb + 2) = xa_a 2 dg) → (∀ i, ((i < k ∨ k + 12 ≤ i) ∧ i ≠ kl ∧ i ≠ kbr ∧ i ≠ kam) → h.1 i = h0.1 i) → xa_W G mX3_turnsWithin (xa_Z G (fun r h' => (∃ (tk' : Nat → Int) (op' ti' : Int), xSR h' k kb kl kbr kam nl na sj ld dg pa jo wa sr pu ri tk' op' ti' ∧ r = some (xa_i ((ct_n (fun t => decide (0 ≤ tk' t ∧ tk' t ≤ ((m : Nat) : Int))) 360 : Nat) : Int)) ∧ (op' = 0 ∨ ((m : Nat) : Int) ≤ ti')) ∧ h'.2 = h0.2 ∧ ∀ i, ((i < k ∨ k + 12 ≤ i) ∧ i ≠ kl ∧ i ≠ kbr ∧ i ≠ kam) → h'.1 i = h0.1 i)) 6 [some (xa_r k), some (xa_i ((m : Nat) : Int)), some (xa_i ((i : Nat) : Int)), none] [] h 0 0 := by
  intro d
  induction d with
  | zero => intros; exfalso; omega
  | succ d ih =>
    intro i kk n Q P M D lk tk en br am po sp op fi la lo ti tj tb h hd hik hI hP0 hTI hstb hn0 hkn hkl2 hkbr2 hkam2 hE0 hE1 hE2 hE3 hT0 hT1 hT2 hT3 hT4 hS0 hS1 hS2 hB0 hB1 hB2 fr0
    have hn : h.2 = h.2 := rfl
    have fr : ∀ i, ((i < k ∨ k + 12 ≤ i) ∧ i ≠ kl ∧ i ≠ kbr ∧ i ≠ kam) → h.1 i = h.1 i := fun _ _ => rfl
    have hN := kN_b (sj := sj) hB9
    obtain ⟨hop, hkn9, hnN, hkop, hopk⟩ := sI_op hI
    have htk := fun t ht => sI_b hI (t := t) ht
    have hti9 := hI.2.2.2.2.2.2.2.1
    refine xa_iload_n (pc := 6) dX3_turnsWithin_6 rfl ?_
    refine xa_ldc (pc := 7) (n := 583200) dX3_turnsWithin_7 ctRX3_41 rfl ?_
    refine xa_icmp_ge (pc := 9) (tgt := 37) dX3_turnsWithin_9 (by decide) ⟨by omega, by omega⟩ (by decide) (fun c_9 => ?_) (fun c_9 => ?_)
    · skip
      refine xa_iconst (pc := 37) dX3_turnsWithin_37 ?_
      refine xa_istoren (pc := 38) [some (xa_r k), some (xa_i ((m : Nat) : Int)), some (xa_i 0), none] dX3_turnsWithin_38 (by decide) (Nat.le_of_ble_eq_true rfl) rfl rfl ?_
      refine xa_iconst (pc := 39) dX3_turnsWithin_39 ?_
      refine xa_istoren (pc := 40) [some (xa_r k), some (xa_i ((m : Nat) : Int)), some (xa_i 0), some (xa_i 0)] dX3_turnsWithin_40 (by decide) (Nat.le_of_ble_eq_true rfl) rfl rfl ?_
      subst hnb
      refine xa_wmono ?_ (c_within_loop (m := m) (tk := tk) (en := en) (lk := lk) (nl := nl) hk hkn hm htk hE0 hE1 361 0 (by omega) (by omega))
      rintro r h1 ⟨rfl, hq⟩
      have hq := hq.symm
      subst hq
      exact ⟨⟨tk, op, ti, ⟨⟨hPL, ⟨hkb, hk, by omega⟩, ⟨by omega, by omega, by omega⟩, rfl, hna9, hnl9⟩, hna, hnl, pl, lw, br, am, po, sp, lk, en, tj, tb, fi, la, lo, Q, P, M, D, n, kk, hP, hTI, hstb, hP0, hI, hE0, hE1, hE2, hE3, hT0, hT1, hT2, hT3, hT4, hS0, hS1, hS2⟩, rfl, by omega⟩, by omega, fun i hi => (fr i hi).trans (fr0 i hi)⟩
    · skip
      refine xa_aload_n (pc := 12) dX3_turnsWithin_12 rfl ?_
      refine xa_getfield (pc := 13) dX3_turnsWithin_13 flRX3_42 (by omega) (by omega) hE0 rfl ?_
      refine xa_if_eq (pc := 16) (tgt := 37) dX3_turnsWithin_16 (by decide) ⟨by omega, by omega⟩ (fun c_16 => ?_) (fun c_16 => ?_)
      · skip
        refine xa_iconst (pc := 37) dX3_turnsWithin_37 ?_
        refine xa_istoren (pc := 38) [some (xa_r k), some (xa_i ((m : Nat) : Int)), some (xa_i 0), none] dX3_turnsWithin_38 (by decide) (Nat.le_of_ble_eq_true rfl) rfl rfl ?_
        refine xa_iconst (pc := 39) dX3_turnsWithin_39 ?_
        refine xa_istoren (pc := 40) [some (xa_r k), some (xa_i ((m : Nat) : Int)), some (xa_i 0), some (xa_i 0)] dX3_turnsWithin_40 (by decide) (Nat.le_of_ble_eq_true rfl) rfl rfl ?_
        subst hnb
        refine xa_wmono ?_ (c_within_loop (m := m) (tk := tk) (en := en) (lk := lk) (nl := nl) hk hkn hm htk hE0 hE1 361 0 (by omega) (by omega))
        rintro r h1 ⟨rfl, hq⟩
        have hq := hq.symm
        subst hq
        exact ⟨⟨tk, op, ti, ⟨⟨hPL, ⟨hkb, hk, by omega⟩, ⟨by omega, by omega, by omega⟩, rfl, hna9, hnl9⟩, hna, hnl, pl, lw, br, am, po, sp, lk, en, tj, tb, fi, la, lo, Q, P, M, D, n, kk, hP, hTI, hstb, hP0, hI, hE0, hE1, hE2, hE3, hT0, hT1, hT2, hT3, hT4, hS0, hS1, hS2⟩, rfl, by omega⟩, by omega, fun i hi => (fr i hi).trans (fr0 i hi)⟩
      · skip
        refine xa_aload_n (pc := 19) dX3_turnsWithin_19 rfl ?_
        refine xa_getfield (pc := 20) dX3_turnsWithin_20 flRX3_48 (by omega) (by omega) hE0 rfl ?_
        refine xa_iload_n (pc := 23) dX3_turnsWithin_23 rfl ?_
        refine xa_icmp_ge (pc := 24) (tgt := 37) dX3_turnsWithin_24 (by decide) ⟨by omega, by omega⟩ ⟨by omega, by omega⟩ (fun c_24 => ?_) (fun c_24 => ?_)
        · skip
          refine xa_iconst (pc := 37) dX3_turnsWithin_37 ?_
          refine xa_istoren (pc := 38) [some (xa_r k), some (xa_i ((m : Nat) : Int)), some (xa_i 0), none] dX3_turnsWithin_38 (by decide) (Nat.le_of_ble_eq_true rfl) rfl rfl ?_
          refine xa_iconst (pc := 39) dX3_turnsWithin_39 ?_
          refine xa_istoren (pc := 40) [some (xa_r k), some (xa_i ((m : Nat) : Int)), some (xa_i 0), some (xa_i 0)] dX3_turnsWithin_40 (by decide) (Nat.le_of_ble_eq_true rfl) rfl rfl ?_
          subst hnb
          refine xa_wmono ?_ (c_within_loop (m := m) (tk := tk) (en := en) (lk := lk) (nl := nl) hk hkn hm htk hE0 hE1 361 0 (by omega) (by omega))
          rintro r h1 ⟨rfl, hq⟩
          have hq := hq.symm
          subst hq
          exact ⟨⟨tk, op, ti, ⟨⟨hPL, ⟨hkb, hk, by omega⟩, ⟨by omega, by omega, by omega⟩, rfl, hna9, hnl9⟩, hna, hnl, pl, lw, br, am, po, sp, lk, en, tj, tb, fi, la, lo, Q, P, M, D, n, kk, hP, hTI, hstb, hP0, hI, hE0, hE1, hE2, hE3, hT0, hT1, hT2, hT3, hT4, hS0, hS1, hS2⟩, rfl, by omega⟩, by omega, fun i hi => (fr i hi).trans (fr0 i hi)⟩
        · skip
          refine xa_aload_n (pc := 27) dX3_turnsWithin_27 rfl ?_
          refine xa_callV (pc := 28) (as := []) (rest := []) dX3_turnsWithin_28 ⟨qX3_expandFirst.1, qX3_expandFirst.2.1, qX3_expandFirst.2.2, by decide, by decide⟩ lkRX3_45 imX3_expandFirst seX3_expandFirst rfl rfl (by omega) (by omega) hE0 rfl (Nat.le_of_ble_eq_true rfl) (Nat.zero_le _) (Nat.zero_le _) (c_expandFirst br am po sp lk tk en tj tb op fi la lo ti _ Q P M D n kk k kb kl kbr kam nl nb na pl lw sj 1 ld dg pa jo wa sr pu ri hB9 hsj hP hPL hkk hkb hk hna hnb hna9 hnl hnl9 (by omega) (by omega) (by omega) (by omega) hstb hTI hI hP0 (by omega) hE0 hE1 hE2 hE3 hT0 hT1 hT2 hT3 hT4 hS0 hS1 hS2 hB0 hB1 hB2) (fun r h' hq => ?_)
          obtain ⟨rfl, ⟨lk', tk', en', br', am', po', sp', op', fi', la', lo', ti', tj', tb', Q', P', M', D', n', hI', hP0', hTI', hstb', hE0, hE1, hE2, hE3, hT0, hT1, hT2, hT3, hT4, hS0, hS1, hS2, hB0, hB1, hB2⟩, hqn, hqf⟩ := hq
          have hn : h'.2 = h.2 := hqn.trans hn
          have fr : ∀ i, ((i < k ∨ k + 12 ≤ i) ∧ i ≠ kl ∧ i ≠ kbr ∧ i ≠ kam) → h'.1 i = h.1 i := fun i hi => (hqf i hi).trans (fr i hi)
          refine xa_iincw (pc := 31) (y := ((i + 1 : Nat) : Int)) [some (xa_r k), some (xa_i ((m : Nat) : Int)), some (xa_i ((i + 1 : Nat) : Int)), none] dX3_turnsWithin_31 (by decide) rfl rfl (by omega) rfl ?_
          refine xa_goto (pc := 34) (tgt := 6) dX3_turnsWithin_34 (by decide) ?_
          exact ih (i + 1) (kk + 1) n' Q' P' M' D' lk' tk' en' br' am' po' sp' op' fi' la' lo' ti' tj' tb' h' (by omega) (by omega) hI' hP0' hTI' hstb' (by omega) (by omega) (by omega) (by omega) (by omega) hE0 hE1 hE2 hE3 hT0 hT1 hT2 hT3 hT4 hS0 hS1 hS2 hB0 hB1 hB2 (fun i hi => (fr i hi).trans (fr0 i hi))
