/-! Table: branches -/
theorem kc_10 {pa jo : Nat} {wa sr sj n : Int} {m : Nat} {c' : xCf} (h : kmv pa jo wa sr sj n m = some c') : kc pa jo wa sr sj n m ≤ 10 ∧ kc pa jo wa sr sj n m < kc pa jo wa sr sj n 19 := by
  have k1 := kc_y h
  obtain ⟨e1, -, -⟩ := kmv_i h
  have k2 := (kc_le (pa := pa) (jo := jo) (wa := wa) (sr := sr) (sj := sj) n (m + 1) (19 - (m + 1))).1
  rw [show m + 1 + (19 - (m + 1)) = 19 by omega] at k2
  have k3 := kc_11 (pa := pa) (jo := jo) (wa := wa) (sr := sr) (sj := sj) n
  omega
theorem kc_full {pa jo : Nat} {wa sr sj n : Int} {m : Nat} (h : ¬ kc pa jo wa sr sj n m ≤ 10) : kmv pa jo wa sr sj n m = none := by
  cases e : kmv pa jo wa sr sj n m with
  | none => rfl
  | some c' => exact absurd (kc_10 e).1 h
theorem kc_at {pa jo : Nat} {wa sr sj n : Int} {i : Nat} : ∀ m : Nat, i < kc pa jo wa sr sj n m → ∃ m' c', m' < m ∧ kmv pa jo wa sr sj n m' = some c' ∧ kc pa jo wa sr sj n m' = i
  | 0, h => absurd h (Nat.not_lt_zero _)
  | m + 1, h => by
    cases e : kmv pa jo wa sr sj n m with
    | none =>
      rw [kc_n e] at h
      obtain ⟨m', c', h1, h2, h3⟩ := kc_at m h
      exact ⟨m', c', by omega, h2, h3⟩
    | some c' =>
      rw [kc_y e] at h
      by_cases q : i = kc pa jo wa sr sj n m
      · exact ⟨m, c', by omega, e, q.symm⟩
      · obtain ⟨m', c', h1, h2, h3⟩ := kc_at (pa := pa) (jo := jo) (wa := wa) (sr := sr) (sj := sj) (n := n) (i := i) m (by omega)
        exact ⟨m', c', by omega, h2, h3⟩
theorem kc_inj {pa jo : Nat} {wa sr sj n : Int} {m m' : Nat} {c c' : xCf} (h : kmv pa jo wa sr sj n m = some c) (h' : kmv pa jo wa sr sj n m' = some c') (e : kc pa jo wa sr sj n m = kc pa jo wa sr sj n m') : m = m' := by
  have k1 := kc_y h
  have k2 := kc_y h'
  by_cases q : m < m'
  · have k := (kc_le (pa := pa) (jo := jo) (wa := wa) (sr := sr) (sj := sj) n (m + 1) (m' - (m + 1))).1
    rw [show m + 1 + (m' - (m + 1)) = m' by omega] at k
    omega
  by_cases q2 : m' < m
  · have k := (kc_le (pa := pa) (jo := jo) (wa := wa) (sr := sr) (sj := sj) n (m' + 1) (m - (m' + 1))).1
    rw [show m' + 1 + (m - (m' + 1)) = m by omega] at k
    omega
  · omega
theorem kw_lt {ld dg : Nat → Int} {pa jo : Nat} {wa sr pu ri sj : Int} (hB : vB ld dg pa jo wa sr pu ri) {n : Int} (hn : 0 ≤ n ∧ n < kN pa jo wa sr sj) {m : Nat} {c' : xCf} (h : kmv pa jo wa sr sj n m = some c') : kw ld dg pa jo wa sr pu sj n m < 23658496 ∧ kw ld dg pa jo wa sr pu sj n m % 32 = m ∧ kw ld dg pa jo wa sr pu sj n m / 32 % 2048 = (kE pa jo wa sr sj c').toNat ∧ kw ld dg pa jo wa sr pu sj n m / 65536 = (cf_turn ld dg pa pu c' (m : Int) % 360).toNat := by
  have k1 := kE_b hB (kmv_ok hB hn h)
  have k2 := kN_b (sj := sj) hB
  obtain ⟨e1, -, -⟩ := kmv_i h
  rw [kw_y h]
  omega

theorem c_numberAtRest {G : xa_G} {h : xa_H} (k kb kbr kam nb na ns : Nat) (pl lw : Nat → Int) (sj fs lst : Int) (ld dg : Nat → Int) (pa jo : Nat) (wa sr pu ri : Int) (br am po sp : Nat → Int) (tj tb : Int) (hB9 : vB ld dg pa jo wa sr pu ri) (hsj : -1 ≤ sj ∧ sj ≤ 1) (hP : kP jo wa sr sj pl lw) (hkk : kb + 3 ≤ k) (hna : kN pa jo wa sr sj ≤ (na : Int)) (hnb : nb = na * 11) (hna9 : na ≤ 100000) (hpo : ∀ i, 0 ≤ po i ∧ po i ≤ 2) (hsp : ∀ i, -2 ≤ sp i ∧ sp i ≤ 12) (htj : tj = 0 ∨ tj = 1) (htb : -120 ≤ tb ∧ tb ≤ 120) (hT : xTb h k kb kbr kam sj pl lw br am nb na ns fs lst) (hS : xS h (k + 5) kb po sp tj tb) (hB : xB h kb ld dg pa jo wa sr pu ri)  : xa_M G mX6_numberAtRest [xa_r k] h 0 0 (fun r h' => r = some (xa_i (kE pa jo wa sr sj (cf_rest pa))) ∧ (∃ (po' sp' : Nat → Int) (tj' tb' : Int), xTb h' k kb kbr kam sj pl lw br am nb na ns fs lst ∧ xS h' (k + 5) kb po' sp' tj' tb' ∧ ((∀ i, 0 ≤ po' i ∧ po' i ≤ 2) ∧ (∀ i, -2 ≤ sp' i ∧ sp' i ≤ 12) ∧ (tj' = 0 ∨ tj' = 1) ∧ (-120 ≤ tb' ∧ tb' ≤ 120))) ∧ h'.2 = h.2 ∧ ∀ i, (i < k + 5 ∨ k + 8 ≤ i) → h'.1 i = h.1 i) := by
  refine xa_enter (by decide +kernel) (Nat.le_of_ble_eq_true rfl) ?_
  refine xa_locals (ls' := [some (xa_r k)]) rfl ?_
  have hn : h.2 = h.2 := rfl
  have fr : ∀ i, (i < k + 5 ∨ k + 8 ≤ i) → h.1 i = h.1 i := fun _ _ => rfl
  obtain ⟨hT0, hT1, hT2, hT3, hT4, ⟨hk, hkn⟩, ⟨hkbr, hkbr2⟩, ⟨hkam, hkam2⟩, hkq⟩ := hT
  obtain ⟨hS0, hS1, hS2, -, -⟩ := hS
  obtain ⟨hB0, hB1, hB2, hkb, hkbn⟩ := hB
  have h0 := hB9.1
  have hkN := kN_b (sj := sj) hB9
  refine xa_aload_n (pc := 0) dX6_numberAtRest_0 rfl ?_
  refine xa_getfield (pc := 1) dX6_numberAtRest_1 flRX6_37 (by omega) (by omega) hT0 rfl ?_
  refine xa_callV (pc := 4) (as := []) (rest := []) dX6_numberAtRest_4 ⟨qX4_rest.1, qX4_rest.2.1, qX4_rest.2.2, by decide, by decide⟩ lkRX6_71 imX4_rest seX4_rest rfl rfl (by omega) (by omega) hS0 rfl (Nat.le_of_ble_eq_true rfl) (Nat.zero_le _) (Nat.zero_le _) (c_rest _ _ _ _ _ _ _ _ _ _ _ _ _ _ ⟨hS0, hS1, hS2, by omega, by omega⟩ ⟨hB0, hB1, hB2, by omega, by omega⟩ (by omega) (by omega) (by omega)) (fun r h' hq => ?_)
  obtain ⟨rfl, ⟨hS0, hS1, hS2, -, -⟩, hqn, hqf⟩ := hq
  have hS0 : h'.1 (k + 5) = xa_o 4 [xa_r kb, xa_r (k + 5 + 1), xa_r (k + 5 + 2), xa_i tj, xa_i 0] := hS0
  have hS1 : h'.1 (k + 5 + 1) = xa_a 3 (xa_fl po 3 1) := hS1
  have hS2 : h'.1 (k + 5 + 2) = xa_a 2 (xa_fl sp 2 0) := hS2
  have hT0 : h'.1 k = xa_o 6 [xa_r kb, xa_r (k + 5), xa_i sj, xa_r (k + 1), xa_r (k + 2), xa_i ((ns : Nat) : Int), xa_i fs, xa_i lst, xa_r kbr, xa_r kam] := (hqf _ (by omega)).trans hT0
  have hT1 : h'.1 (k + 1) = xa_a 2 pl := (hqf _ (by omega)).trans hT1
  have hT2 : h'.1 (k + 2) = xa_a 2 lw := (hqf _ (by omega)).trans hT2
  have hT3 : h'.1 kbr = xa_a nb br := (hqf _ (by omega)).trans hT3
  have hT4 : h'.1 kam = xa_a na am := (hqf _ (by omega)).trans hT4
  have hB0 : h'.1 kb = xa_o 0 [xa_r (kb + 1), xa_r (kb + 2), xa_i ((pa : Nat) : Int), xa_i ((jo : Nat) : Int), xa_i wa, xa_i sr, xa_i pu, xa_i ri] := (hqf _ (by omega)).trans hB0
  have hB1 : h'.1 (kb + 1) = xa_a 9 ld := (hqf _ (by omega)).trans hB1
  have hB2 : h'.1 (kb + 2) = xa_a 2 dg := (hqf _ (by omega)).trans hB2
  have hn : h'.2 = h.2 := hqn.trans hn
  have fr : ∀ i, (i < k + 5 ∨ k + 8 ≤ i) → h'.1 i = h.1 i := fun i hi => (hqf i (by omega)).trans (fr i hi)
  refine xa_aload_n (pc := 7) dX6_numberAtRest_7 rfl ?_
  refine xa_callV (pc := 8) (as := []) (rest := []) dX6_numberAtRest_8 ⟨qX6_numberNow.1, qX6_numberNow.2.1, qX6_numberNow.2.2, by decide, by decide⟩ lkRX6_78 imX6_numberNow seX6_numberNow rfl rfl (by omega) (by omega) hT0 rfl (Nat.le_of_ble_eq_true rfl) (Nat.zero_le _) (Nat.zero_le _) (c_numberNow (pl := pl) (lw := lw) (c := (cf_rest pa)) hB9 hP (by omega) ⟨hT0, hT1, hT2, hT3, hT4, ⟨by omega, by omega⟩, ⟨by omega, by omega⟩, ⟨by omega, by omega⟩, by omega⟩ ⟨hS0, hS1, hS2, by omega, by omega⟩ ⟨hB0, hB1, hB2, by omega, by omega⟩ (fw_t0 hB9 po sp)) (fun r h' hq => ?_)
  obtain ⟨rfl, hq⟩ := hq
  have hq := hq.symm
  subst hq
  refine xa_ireturn (pc := 11) dX6_numberAtRest_11 rfl trivial ?_
  exact ⟨rfl, ⟨xa_fl po 3 1, xa_fl sp 2 0, tj, 0, ⟨hT0, hT1, hT2, hT3, hT4, ⟨by omega, by omega⟩, ⟨by omega, by omega⟩, ⟨by omega, by omega⟩, by omega⟩, ⟨hS0, hS1, hS2, by omega, by omega⟩, xa_fl_b hpo (by decide), xa_fl_b hsp (by decide), htj, by decide⟩, hn, fr⟩
theorem c_findB_loop {G : xa_G} {h0 : xa_H} {n : Nat} {br0 am : Nat → Int} {k kb kbr kam nb na ns : Nat} {pl lw : Nat → Int} {sj fs lst : Int} {ld dg : Nat → Int} {pa jo : Nat} {wa sr pu ri : Int} (hB9 : vB ld dg pa jo wa sr pu ri) (hsj : -1 ≤ sj ∧ sj ≤ 1) (hP : kP jo wa sr sj pl lw) (hkk : kb + 3 ≤ k) (hkb : 2 ≤ kb) (hna : kN pa jo wa sr sj ≤ (na : Int)) (hnb : nb = na * 11) (hna9 : na ≤ 100000) (hk : 2 ≤ k) (hkbr : k + 8 ≤ kbr ∨ kbr = k + 3) (hkam : k + 8 ≤ kam ∨ kam = k + 4) (hkq : kbr ≠ kam) (hn9 : ((n : Nat) : Int) < kN pa jo wa sr sj) : ∀ (d : Nat) (m : Nat) (br po sp : Nat → Int) (tj tb : Int) (g4 g5 : Option xa_V) (h : xa_H), 19 - m < d → (m ≤ 19) → (kR ld dg pa jo wa sr pu sj br n m) → (∀ i, (i < n * 11 ∨ n * 11 + 11 ≤ i) → br i = br0 i) → (cf_as pa (kD pa jo wa sr sj ((n : Nat) : Int)) po sp) → (∀ i, 0 ≤ po i ∧ po i ≤ 2) → (∀ i, -2 ≤ sp i ∧ sp i ≤ 12) → (tj = 0 ∨ tj = 1) → (-120 ≤ tb ∧ tb ≤ 120) → (h.2 = h0.2) → (k + 7 < h.2) → (kbr < h.2) → (kam < h.2) → (h.1 k = xa_o 6 [xa_r kb, xa_r (k + 5), xa_i sj, xa_r (k + 1), xa_r (k + 2), xa_i ((ns : Nat) : Int), xa_i fs, xa_i lst, xa_r kbr, xa_r kam]) → (h.1 (k + 1) = xa_a 2 pl) → (h.1 (k + 2) = xa_a 2 lw) → (h.1 kbr = xa_a nb br) → (h.1 kam = xa_a na am) → (h.1 (k + 5) = xa_o 4 [xa_r kb, xa_r (k + 5 + 1), xa_r (k + 5 + 2), xa_i tj, xa_i tb]) → (h.1 (k + 5 + 1) = xa_a 3 po) → (h.1 (k + 5 + 2) = xa_a 2 sp) → (h.1 kb = xa_o 0 [xa_r (kb + 1), xa_r (kb + 2), xa_i ((pa : Nat) : Int), xa_i ((jo : Nat) : Int), xa_i wa, xa_i sr, xa_i pu, xa_i ri]) → (h.1 (kb + 1) = xa_a 9 ld) → (h.1 (kb + 2) = xa_a 2 dg) → (∀ i, ((i < k + 5 ∨ k + 8 ≤ i) ∧ i ≠ kbr) → h.1 i = h0.1 i) → xa_W G mX6_findBranches (xa_Z G (fun r h' => r = some (xa_i ((kc pa jo wa sr sj ((n : Nat) : Int) 19 : Nat) : Int)) ∧ (∃ (br' po' sp' : Nat → Int) (tj' tb' : Int), kR ld dg pa jo wa sr pu sj br' n 19 ∧ (∀ i, (i < n * 11 ∨ n * 11 + 11 ≤ i) → br' i = br0 i) ∧ xTb h' k kb kbr kam sj pl lw br' am nb na ns fs lst ∧ xS h' (k + 5) kb po' sp' tj' tb' ∧ ((∀ i, 0 ≤ po' i ∧ po' i ≤ 2) ∧ (∀ i, -2 ≤ sp' i ∧ sp' i ≤ 12) ∧ (tj' = 0 ∨ tj' = 1) ∧ (-120 ≤ tb' ∧ tb' ≤ 120))) ∧ h'.2 = h0.2 ∧ ∀ i, ((i < k + 5 ∨ k + 8 ≤ i) ∧ i ≠ kbr) → h'.1 i = h0.1 i)) 9 [some (xa_r k), some (xa_i ((n : Nat) : Int)), some (xa_i ((kc pa jo wa sr sj ((n : Nat) : Int) m : Nat) : Int)), some (xa_i ((m : Nat) : Int)), g4, g5] [] h 0 0 := by
  intro d
  induction d with
  | zero => intros; exfalso; omega
  | succ d ih =>
    intro m br po sp tj tb g4 g5 h hd hm19 hR hbo ha hpo hsp htj htb hn0 hkn hkbr2 hkam2 hT0 hT1 hT2 hT3 hT4 hS0 hS1 hS2 hB0 hB1 hB2 fr0
    have hn : h.2 = h.2 := rfl
    have fr : ∀ i, ((i < k + 5 ∨ k + 8 ≤ i) ∧ i ≠ kbr) → h.1 i = h.1 i := fun _ _ => rfl
    have h0 := hB9.1
    have hkN := kN_b (sj := sj) hB9
    have hkd := kD_ok (sj := sj) hB9 (n := ((n : Nat) : Int)) (by omega)
    have hcl := kc_le (pa := pa) (jo := jo) (wa := wa) (sr := sr) (sj := sj) ((n : Nat) : Int) 0 m
    rw [Nat.zero_add] at hcl
    have hc0 : kc pa jo wa sr sj ((n : Nat) : Int) 0 = 0 := rfl
    have hw := hB9.wag
    have hld := hB9.2.1
    have hdg := hB9.2.2.2.1
    have hpu := hB9.2.2.2.2.2.2.1
    have hok : sp_ok (po, sp, tj, tb) := ⟨hpo, hsp, htj, htb⟩
    refine xa_iload_n (pc := 9) dX6_findBranches_9 rfl ?_
    refine xa_bipush (pc := 10) dX6_findBranches_10 rfl ?_
    refine xa_icmp_gt (pc := 12) (tgt := 126) dX6_findBranches_12 (by decide) ⟨by omega, by omega⟩ (by decide) (fun c_12 => ?_) (fun c_12 => ?_)
    · skip
      refine xa_iload_n (pc := 126) dX6_findBranches_126 rfl ?_
      refine xa_ireturn (pc := 127) dX6_findBranches_127 rfl trivial ?_
      have hm9 : m = 19 := by omega
      subst hm9
      exact ⟨rfl, ⟨br, po, sp, tj, tb, hR, hbo, ⟨hT0, hT1, hT2, hT3, hT4, ⟨by omega, by omega⟩, ⟨by omega, by omega⟩, ⟨by omega, by omega⟩, by omega⟩, ⟨hS0, hS1, hS2, by omega, by omega⟩, hpo, hsp, htj, htb⟩, by omega, fun i hi => (fr i hi).trans (fr0 i hi)⟩
    · skip
      refine xa_iload_n (pc := 15) dX6_findBranches_15 rfl ?_
      refine xa_bipush (pc := 16) dX6_findBranches_16 rfl ?_
      refine xa_imul (pc := 18) dX6_findBranches_18 ?_
      refine xa_iload_n (pc := 19) dX6_findBranches_19 rfl ?_
      refine xa_iadd (pc := 20) dX6_findBranches_20 ?_
      refine xa_istorew (pc := 21) [some (xa_r k), some (xa_i ((n : Nat) : Int)), some (xa_i ((kc pa jo wa sr sj ((n : Nat) : Int) m : Nat) : Int)), some (xa_i ((m : Nat) : Int)), some (xa_i ((((n : Nat) : Int) * 11) + ((kc pa jo wa sr sj ((n : Nat) : Int) m : Nat) : Int))), g5] dX6_findBranches_21 (by decide) (Nat.le_of_ble_eq_true rfl) rfl rfl ?_
      refine xa_aload_n (pc := 23) dX6_findBranches_23 rfl ?_
      refine xa_iload_n (pc := 24) dX6_findBranches_24 rfl ?_
      refine xa_callV (pc := 25) (as := [xa_i ((m : Nat) : Int)]) (rest := []) dX6_findBranches_25 ⟨qX6_isStiff.1, qX6_isStiff.2.1, qX6_isStiff.2.2, by decide, by decide⟩ lkRX6_107 imX6_isStiff seX6_isStiff rfl rfl (by omega) (by omega) hT0 rfl (Nat.le_of_ble_eq_true rfl) (Nat.zero_le _) (Nat.zero_le _) (c_isStiff _ _ _ _ _ _ _ _ _ _ _ _ _ _ hk (by omega) (by omega) (by omega) _ (by omega) (by omega) hT0 hT1 hT2 hT3 hT4) (fun r h' hq => ?_)
      obtain ⟨rfl, hq⟩ := hq
      have hq := hq.symm
      subst hq
      refine xa_if_ne (pc := 28) (tgt := 120) dX6_findBranches_28 (by decide) xa_okb (fun c_28 => ?_) (fun c_28 => ?_)
      · have c_28 := xa_b1.mp c_28
        refine xa_iincw (pc := 120) (y := ((m + 1 : Nat) : Int)) [some (xa_r k), some (xa_i ((n : Nat) : Int)), some (xa_i ((kc pa jo wa sr sj ((n : Nat) : Int) m : Nat) : Int)), some (xa_i ((m + 1 : Nat) : Int)), some (xa_i ((((n : Nat) : Int) * 11) + ((kc pa jo wa sr sj ((n : Nat) : Int) m : Nat) : Int))), g5] dX6_findBranches_120 (by decide) rfl rfl (by omega) rfl ?_
        refine xa_goto (pc := 123) (tgt := 9) dX6_findBranches_123 (by decide) ?_
        have hno : kmv pa jo wa sr sj ((n : Nat) : Int) m = none := by first | exact kmv_n (Or.inr c_28) | exact kc_full (by omega)
        rw [← kc_n hno]
        exact ih (m + 1) _ _ _ _ _ _ _ _ (by omega) (by omega) (kR_old hR hno) hbo ha hpo hsp htj htb (by omega) (by omega) (by omega) (by omega) hT0 hT1 hT2 hT3 hT4 hS0 hS1 hS2 hB0 hB1 hB2 (fun i hi => (fr i hi).trans (fr0 i hi))
      · have c_28 := xa_b0.mp c_28
        refine xa_iload (pc := 31) dX6_findBranches_31 rfl ?_
        refine xa_if_lt (pc := 33) (tgt := 120) dX6_findBranches_33 (by decide) ⟨by omega, by omega⟩ (fun c_33 => ?_) (fun c_33 => ?_)
        · skip
          exfalso; omega
        · skip
          refine xa_iload (pc := 36) dX6_findBranches_36 rfl ?_
          refine xa_aload_n (pc := 38) dX6_findBranches_38 rfl ?_
          refine xa_getfield (pc := 39) dX6_findBranches_39 flRX6_18 (by omega) (by omega) hT0 rfl ?_
          refine xa_alen (pc := 42) dX6_findBranches_42 (by omega) hT3 ?_
          refine xa_icmp_ge (pc := 43) (tgt := 120) dX6_findBranches_43 (by decide) ⟨by omega, by omega⟩ ⟨by omega, by omega⟩ (fun c_43 => ?_) (fun c_43 => ?_)
          · skip
            refine xa_iincw (pc := 120) (y := ((m + 1 : Nat) : Int)) [some (xa_r k), some (xa_i ((n : Nat) : Int)), some (xa_i ((kc pa jo wa sr sj ((n : Nat) : Int) m : Nat) : Int)), some (xa_i ((m + 1 : Nat) : Int)), some (xa_i ((((n : Nat) : Int) * 11) + ((kc pa jo wa sr sj ((n : Nat) : Int) m : Nat) : Int))), g5] dX6_findBranches_120 (by decide) rfl rfl (by omega) rfl ?_
            refine xa_goto (pc := 123) (tgt := 9) dX6_findBranches_123 (by decide) ?_
            have hno : kmv pa jo wa sr sj ((n : Nat) : Int) m = none := by first | exact kmv_n (Or.inr c_28) | exact kc_full (by omega)
            rw [← kc_n hno]
            exact ih (m + 1) _ _ _ _ _ _ _ _ (by omega) (by omega) (kR_old hR hno) hbo ha hpo hsp htj htb (by omega) (by omega) (by omega) (by omega) hT0 hT1 hT2 hT3 hT4 hS0 hS1 hS2 hB0 hB1 hB2 (fun i hi => (fr i hi).trans (fr0 i hi))
          · skip
            refine xa_aload_n (pc := 46) dX6_findBranches_46 rfl ?_
            refine xa_getfield (pc := 47) dX6_findBranches_47 flRX6_37 (by omega) (by omega) hT0 rfl ?_
            refine xa_iload_n (pc := 50) dX6_findBranches_50 rfl ?_
            refine xa_callV (pc := 51) (as := [xa_i ((m : Nat) : Int)]) (rest := []) dX6_findBranches_51 ⟨qX4_makes.1, qX4_makes.2.1, qX4_makes.2.2, by decide, by decide⟩ lkRX6_111 imX4_makes seX4_makes rfl rfl (by omega) (by omega) hS0 rfl (Nat.le_of_ble_eq_true rfl) (Nat.zero_le _) (Nat.zero_le _) (c_makes _ _ _ _ _ _ _ _ _ _ _ _ _ _ _ ⟨by omega, by omega⟩ ⟨hS0, hS1, hS2, by omega, by omega⟩ ⟨hB0, hB1, hB2, by omega, by omega⟩ (by omega) (by omega) (by omega) hsp hpo (by omega) (by omega)) (fun r h' hq => ?_)
            obtain ⟨hq, hqn, hqf⟩ := hq
            rcases hq with ⟨t1, ht, rfl, hS0, hS1, hS2, -, -⟩ | ⟨ht, rfl, hS0, hS1, hS2, -, -⟩
            · skip
              have hS0 : h'.1 (k + 5) = xa_o 4 [xa_r kb, xa_r (k + 5 + 1), xa_r (k + 5 + 2), xa_i t1.2.2.1, xa_i t1.2.2.2] := hS0
              have hS1 : h'.1 (k + 5 + 1) = xa_a 3 t1.1 := hS1
              have hS2 : h'.1 (k + 5 + 2) = xa_a 2 t1.2.1 := hS2
              have hT0 : h'.1 k = xa_o 6 [xa_r kb, xa_r (k + 5), xa_i sj, xa_r (k + 1), xa_r (k + 2), xa_i ((ns : Nat) : Int), xa_i fs, xa_i lst, xa_r kbr, xa_r kam] := (hqf _ (by omega)).trans hT0
              have hT1 : h'.1 (k + 1) = xa_a 2 pl := (hqf _ (by omega)).trans hT1
              have hT2 : h'.1 (k + 2) = xa_a 2 lw := (hqf _ (by omega)).trans hT2
              have hT3 : h'.1 kbr = xa_a nb br := (hqf _ (by omega)).trans hT3
              have hT4 : h'.1 kam = xa_a na am := (hqf _ (by omega)).trans hT4
              have hB0 : h'.1 kb = xa_o 0 [xa_r (kb + 1), xa_r (kb + 2), xa_i ((pa : Nat) : Int), xa_i ((jo : Nat) : Int), xa_i wa, xa_i sr, xa_i pu, xa_i ri] := (hqf _ (by omega)).trans hB0
              have hB1 : h'.1 (kb + 1) = xa_a 9 ld := (hqf _ (by omega)).trans hB1
              have hB2 : h'.1 (kb + 2) = xa_a 2 dg := (hqf _ (by omega)).trans hB2
              have hn : h'.2 = h.2 := hqn.trans hn
              have fr : ∀ i, ((i < k + 5 ∨ k + 8 ≤ i) ∧ i ≠ kbr) → h'.1 i = h.1 i := fun i hi => (hqf i (by omega)).trans (fr i hi)
              have hok1 : sp_ok t1 := sp_make_ok hdg (by omega) hok ht
              obtain ⟨c', hcm, has, hla⟩ := (cf_make hB9 hkd.1.1 (po := po) (sp := sp) (tj := tj) (tb := tb) ha (by omega)).1 t1 ht
              have hkm : kmv pa jo wa sr sj ((n : Nat) : Int) m = some c' := (kmv_y (by omega) c_28).trans hcm
              have hc1 := kmv_ok hB9 (n := ((n : Nat) : Int)) (by omega) hkm
              have hke := kE_b hB9 hc1
              have hall := cf_all_b hB9 hc1.1
              have hct := cf_turn_b hB9 hc1.1 (push := pu) hpu ((m : Nat) : Int)
              have hk10 := kc_10 hkm
              refine xa_if_eq (pc := 54) (tgt := 120) dX6_findBranches_54 (by decide) (by decide) (fun c_54 => ?_) (fun c_54 => ?_)
              · skip
                exfalso; omega
              · skip
                refine xa_aload_n (pc := 57) dX6_findBranches_57 rfl ?_
                refine xa_getfield (pc := 58) dX6_findBranches_58 flRX6_37 (by omega) (by omega) hT0 rfl ?_
                refine xa_callV (pc := 61) (as := []) (rest := []) dX6_findBranches_61 ⟨qX4_lastTurn.1, qX4_lastTurn.2.1, qX4_lastTurn.2.2, by decide, by decide⟩ lkRX6_114 imX4_lastTurn seX4_lastTurn rfl rfl (by omega) (by omega) hS0 rfl (Nat.le_of_ble_eq_true rfl) (Nat.zero_le _) (Nat.zero_le _) (c_lastTurn _ _ _ _ _ _ _ _ _ _ _ _ _ _ ⟨hS0, hS1, hS2, by omega, by omega⟩ ⟨hB0, hB1, hB2, by omega, by omega⟩ (by omega) (by omega) (by omega) hok1.1 hld hok1.2.2.1 hok1.2.2.2) (fun r h' hq => ?_)
                obtain ⟨rfl, hq⟩ := hq
                have hq := hq.symm
                subst hq
                refine xa_top (y := -cf_bend ld dg pa c' ((m : Nat) : Int)) (hla) ?_
                refine xa_aload_n (pc := 64) dX6_findBranches_64 rfl ?_
                refine xa_getfield (pc := 65) dX6_findBranches_65 flRX6_24 (by omega) (by omega) hT0 rfl ?_
                refine xa_getfield (pc := 68) dX6_findBranches_68 flRX6_117 (by omega) (by omega) hB0 rfl ?_
                refine xa_aload_n (pc := 71) dX6_findBranches_71 rfl ?_
                refine xa_getfield (pc := 72) dX6_findBranches_72 flRX6_37 (by omega) (by omega) hT0 rfl ?_
                refine xa_iconst (pc := 75) dX6_findBranches_75 ?_
                refine xa_callV (pc := 76) (as := [xa_i 0]) (rest := [xa_i pu, xa_i (-cf_bend ld dg pa c' ((m : Nat) : Int))]) dX6_findBranches_76 ⟨qX4_loadFrom.1, qX4_loadFrom.2.1, qX4_loadFrom.2.2, by decide, by decide⟩ lkRX6_120 imX4_loadFrom seX4_loadFrom rfl rfl (by omega) (by omega) hS0 rfl (Nat.le_of_ble_eq_true rfl) (Nat.zero_le _) (Nat.zero_le _) (c_loadFrom0 _ _ _ _ _ _ _ _ _ _ _ _ _ _ ⟨hS0, hS1, hS2, by omega, by omega⟩ ⟨hB0, hB1, hB2, by omega, by omega⟩ (by omega) (by omega) (by omega) hok1.1) (fun r h' hq => ?_)
                obtain ⟨rfl, hq⟩ := hq
                have hq := hq.symm
                subst hq
                refine xa_top (y := cf_all ld pa c') ((cf_from hB9 hc1.1 has).1) ?_
                refine xa_callS (pc := 79) (as := [xa_i pu, xa_i (cf_all ld pa c')]) (rest := [xa_i (-cf_bend ld dg pa c' ((m : Nat) : Int))]) dX6_findBranches_79 ⟨qX9_cut.1, qX9_cut.2.1, qX9_cut.2.2, by decide, by decide⟩ lkRX6_123 smX9_cut rfl rfl (Nat.le_of_ble_eq_true rfl) (Nat.zero_le _) (Nat.zero_le _) (c_cut _ _ ⟨by omega, by omega⟩ ⟨by omega, by omega⟩) (fun r h' hq => ?_)
                obtain ⟨rfl, hq⟩ := hq
                have hq := hq.symm
                subst hq
                refine xa_iadd (pc := 82) dX6_findBranches_82 ?_
                refine xa_top (y := cf_turn ld dg pa pu c' ((m : Nat) : Int)) (by unfold cf_turn; omega) ?_
                refine xa_istorew (pc := 83) [some (xa_r k), some (xa_i ((n : Nat) : Int)), some (xa_i ((kc pa jo wa sr sj ((n : Nat) : Int) m : Nat) : Int)), some (xa_i ((m : Nat) : Int)), some (xa_i ((((n : Nat) : Int) * 11) + ((kc pa jo wa sr sj ((n : Nat) : Int) m : Nat) : Int))), some (xa_i (cf_turn ld dg pa pu c' ((m : Nat) : Int)))] dX6_findBranches_83 (by decide) (Nat.le_of_ble_eq_true rfl) rfl rfl ?_
                refine xa_aload_n (pc := 85) dX6_findBranches_85 rfl ?_
                refine xa_getfield (pc := 86) dX6_findBranches_86 flRX6_18 (by omega) (by omega) hT0 rfl ?_
                refine xa_iload (pc := 89) dX6_findBranches_89 rfl ?_
                refine xa_iload_n (pc := 91) dX6_findBranches_91 rfl ?_
                refine xa_aload_n (pc := 92) dX6_findBranches_92 rfl ?_
                refine xa_callV (pc := 93) (as := []) (rest := [xa_i ((m : Nat) : Int), xa_i ((((n : Nat) : Int) * 11) + ((kc pa jo wa sr sj ((n : Nat) : Int) m : Nat) : Int)), xa_r kbr]) dX6_findBranches_93 ⟨qX6_numberNow.1, qX6_numberNow.2.1, qX6_numberNow.2.2, by decide, by decide⟩ lkRX6_78 imX6_numberNow seX6_numberNow rfl rfl (by omega) (by omega) hT0 rfl (Nat.le_of_ble_eq_true rfl) (Nat.zero_le _) (Nat.zero_le _) (c_numberNow (pl := pl) (lw := lw) (c := c') hB9 hP (by omega) ⟨hT0, hT1, hT2, hT3, hT4, ⟨by omega, by omega⟩, ⟨by omega, by omega⟩, ⟨by omega, by omega⟩, by omega⟩ ⟨hS0, hS1, hS2, by omega, by omega⟩ ⟨hB0, hB1, hB2, by omega, by omega⟩ has) (fun r h' hq => ?_)
                obtain ⟨rfl, hq⟩ := hq
                have hq := hq.symm
                subst hq
                refine xa_top (y := (((kE pa jo wa sr sj c').toNat : Nat) : Int)) (by omega) ?_
                refine xa_iconst (pc := 96) dX6_findBranches_96 ?_
                refine xa_ishl (pc := 97) dX6_findBranches_97 ?_
                refine xa_ior (pc := 98) dX6_findBranches_98 ?_
                refine xa_iload (pc := 99) dX6_findBranches_99 rfl ?_
                refine xa_sipush (pc := 101) dX6_findBranches_101 rfl ?_
                refine xa_callS (pc := 104) (as := [xa_i (cf_turn ld dg pa pu c' ((m : Nat) : Int)), xa_i 360]) (rest := [xa_i (xa_or ((m : Nat) : Int) (xa_shl (((kE pa jo wa sr sj c').toNat : Nat) : Int) 5)), xa_i ((((n : Nat) : Int) * 11) + ((kc pa jo wa sr sj ((n : Nat) : Int) m : Nat) : Int)), xa_r kbr]) dX6_findBranches_104 ⟨qJ9_floorMod_7cf53.1, qJ9_floorMod_7cf53.2.1, qJ9_floorMod_7cf53.2.2, by decide, by decide⟩ lkRX6_126 smJ9_floorMod_7cf53 rfl rfl (Nat.le_of_ble_eq_true rfl) (Nat.zero_le _) (Nat.zero_le _) (c_floorMod _ _ ⟨by omega, by omega⟩ (by decide) (by omega)) (fun r h' hq => ?_)
                obtain ⟨rfl, hq⟩ := hq
                have hq := hq.symm
                subst hq
                refine xa_top (y := (((cf_turn ld dg pa pu c' ((m : Nat) : Int) % 360).toNat : Nat) : Int)) (by omega) ?_
                refine xa_bipush (pc := 107) dX6_findBranches_107 rfl ?_
                refine xa_ishl (pc := 109) dX6_findBranches_109 ?_
                refine xa_ior (pc := 110) dX6_findBranches_110 ?_
                refine xa_top (y := ((kw ld dg pa jo wa sr pu sj ((n : Nat) : Int) m : Nat) : Int)) (by rw [tb_word (by omega) (by omega) (by omega), kw_y hkm]) ?_
                refine xa_iastw (pc := 111) (n * 11 + kc pa jo wa sr sj ((n : Nat) : Int) m) dX6_findBranches_111 (by omega) (by omega) hT3 (by omega) (by omega) (by omega) (fun h1 nh1 ch1 oh1 => ?_)
                have hT3 : h1.1 kbr = xa_a nb (xa_upf br (n * 11 + kc pa jo wa sr sj ((n : Nat) : Int) m) ((kw ld dg pa jo wa sr pu sj ((n : Nat) : Int) m : Nat) : Int)) := ch1
                have hT0 : h1.1 k = xa_o 6 [xa_r kb, xa_r (k + 5), xa_i sj, xa_r (k + 1), xa_r (k + 2), xa_i ((ns : Nat) : Int), xa_i fs, xa_i lst, xa_r kbr, xa_r kam] := (oh1 _ (by omega)).trans hT0
                have hT1 : h1.1 (k + 1) = xa_a 2 pl := (oh1 _ (by omega)).trans hT1
                have hT2 : h1.1 (k + 2) = xa_a 2 lw := (oh1 _ (by omega)).trans hT2
                have hT4 : h1.1 kam = xa_a na am := (oh1 _ (by omega)).trans hT4
                have hS0 : h1.1 (k + 5) = xa_o 4 [xa_r kb, xa_r (k + 5 + 1), xa_r (k + 5 + 2), xa_i t1.2.2.1, xa_i t1.2.2.2] := (oh1 _ (by omega)).trans hS0
                have hS1 : h1.1 (k + 5 + 1) = xa_a 3 t1.1 := (oh1 _ (by omega)).trans hS1
                have hS2 : h1.1 (k + 5 + 2) = xa_a 2 t1.2.1 := (oh1 _ (by omega)).trans hS2
                have hB0 : h1.1 kb = xa_o 0 [xa_r (kb + 1), xa_r (kb + 2), xa_i ((pa : Nat) : Int), xa_i ((jo : Nat) : Int), xa_i wa, xa_i sr, xa_i pu, xa_i ri] := (oh1 _ (by omega)).trans hB0
                have hB1 : h1.1 (kb + 1) = xa_a 9 ld := (oh1 _ (by omega)).trans hB1
                have hB2 : h1.1 (kb + 2) = xa_a 2 dg := (oh1 _ (by omega)).trans hB2
                have hn : h1.2 = h.2 := nh1.trans hn
                have fr : ∀ i, ((i < k + 5 ∨ k + 8 ≤ i) ∧ i ≠ kbr) → h1.1 i = h.1 i := fun i hi => (oh1 i (by omega)).trans (fr i hi)
                refine xa_iincw (pc := 112) (y := ((kc pa jo wa sr sj ((n : Nat) : Int) m + 1 : Nat) : Int)) [some (xa_r k), some (xa_i ((n : Nat) : Int)), some (xa_i ((kc pa jo wa sr sj ((n : Nat) : Int) m + 1 : Nat) : Int)), some (xa_i ((m : Nat) : Int)), some (xa_i ((((n : Nat) : Int) * 11) + ((kc pa jo wa sr sj ((n : Nat) : Int) m : Nat) : Int))), some (xa_i (cf_turn ld dg pa pu c' ((m : Nat) : Int)))] dX6_findBranches_112 (by decide) rfl rfl (by omega) rfl ?_
                refine xa_aload_n (pc := 115) dX6_findBranches_115 rfl ?_
                refine xa_iload_n (pc := 116) dX6_findBranches_116 rfl ?_
                refine xa_callV (pc := 117) (as := [xa_i ((n : Nat) : Int)]) (rest := []) dX6_findBranches_117 ⟨qX6_become.1, qX6_become.2.1, qX6_become.2.2, by decide, by decide⟩ lkRX6_103 imX6_become seX6_become rfl rfl (by omega) (by omega) hT0 rfl (Nat.le_of_ble_eq_true rfl) (Nat.zero_le _) (Nat.zero_le _) (c_become (pl := pl) (lw := lw) hB9 hP (by omega) ⟨hT0, hT1, hT2, hT3, hT4, ⟨by omega, by omega⟩, ⟨by omega, by omega⟩, ⟨by omega, by omega⟩, by omega⟩ ⟨hS0, hS1, hS2, by omega, by omega⟩ ⟨hB0, hB1, hB2, by omega, by omega⟩ hok1.1 hok1.2.1 (by omega)) (fun r h' hq => ?_)
                obtain ⟨rfl, ⟨po2, sp2, ha2, hpo2, hsp2, hS0, hS1, hS2, -, -⟩, hqn, hqf⟩ := hq
                have hS0 : h'.1 (k + 5) = xa_o 4 [xa_r kb, xa_r (k + 5 + 1), xa_r (k + 5 + 2), xa_i t1.2.2.1, xa_i t1.2.2.2] := hS0
                have hS1 : h'.1 (k + 5 + 1) = xa_a 3 po2 := hS1
                have hS2 : h'.1 (k + 5 + 2) = xa_a 2 sp2 := hS2
                have hT0 : h'.1 k = xa_o 6 [xa_r kb, xa_r (k + 5), xa_i sj, xa_r (k + 1), xa_r (k + 2), xa_i ((ns : Nat) : Int), xa_i fs, xa_i lst, xa_r kbr, xa_r kam] := (hqf _ (by omega)).trans hT0
                have hT1 : h'.1 (k + 1) = xa_a 2 pl := (hqf _ (by omega)).trans hT1
                have hT2 : h'.1 (k + 2) = xa_a 2 lw := (hqf _ (by omega)).trans hT2
                have hT3 : h'.1 kbr = xa_a nb (xa_upf br (n * 11 + kc pa jo wa sr sj ((n : Nat) : Int) m) ((kw ld dg pa jo wa sr pu sj ((n : Nat) : Int) m : Nat) : Int)) := (hqf _ (by omega)).trans hT3
                have hT4 : h'.1 kam = xa_a na am := (hqf _ (by omega)).trans hT4
                have hB0 : h'.1 kb = xa_o 0 [xa_r (kb + 1), xa_r (kb + 2), xa_i ((pa : Nat) : Int), xa_i ((jo : Nat) : Int), xa_i wa, xa_i sr, xa_i pu, xa_i ri] := (hqf _ (by omega)).trans hB0
                have hB1 : h'.1 (kb + 1) = xa_a 9 ld := (hqf _ (by omega)).trans hB1
                have hB2 : h'.1 (kb + 2) = xa_a 2 dg := (hqf _ (by omega)).trans hB2
                have hn : h'.2 = h.2 := hqn.trans hn
                have fr : ∀ i, ((i < k + 5 ∨ k + 8 ≤ i) ∧ i ≠ kbr) → h'.1 i = h.1 i := fun i hi => (hqf i (by omega)).trans (fr i hi)
                refine xa_iincw (pc := 120) (y := ((m + 1 : Nat) : Int)) [some (xa_r k), some (xa_i ((n : Nat) : Int)), some (xa_i ((kc pa jo wa sr sj ((n : Nat) : Int) m + 1 : Nat) : Int)), some (xa_i ((m + 1 : Nat) : Int)), some (xa_i ((((n : Nat) : Int) * 11) + ((kc pa jo wa sr sj ((n : Nat) : Int) m : Nat) : Int))), some (xa_i (cf_turn ld dg pa pu c' ((m : Nat) : Int)))] dX6_findBranches_120 (by decide) rfl rfl (by omega) rfl ?_
                refine xa_goto (pc := 123) (tgt := 9) dX6_findBranches_123 (by decide) ?_
                rw [← kc_y hkm]
                exact ih (m + 1) _ _ _ _ _ _ _ _ (by omega) (by omega) (kR_new hR hkm) (fun i hi => (xa_upf_ne _ _ (by omega)).trans (hbo i hi)) ha2 hpo2 hsp2 hok1.2.2.1 hok1.2.2.2 (by omega) (by omega) (by omega) (by omega) hT0 hT1 hT2 hT3 hT4 hS0 hS1 hS2 hB0 hB1 hB2 (fun i hi => (fr i hi).trans (fr0 i hi))
            · skip
              have hT0 : h'.1 k = xa_o 6 [xa_r kb, xa_r (k + 5), xa_i sj, xa_r (k + 1), xa_r (k + 2), xa_i ((ns : Nat) : Int), xa_i fs, xa_i lst, xa_r kbr, xa_r kam] := (hqf _ (by omega)).trans hT0
              have hT1 : h'.1 (k + 1) = xa_a 2 pl := (hqf _ (by omega)).trans hT1
              have hT2 : h'.1 (k + 2) = xa_a 2 lw := (hqf _ (by omega)).trans hT2
              have hT3 : h'.1 kbr = xa_a nb br := (hqf _ (by omega)).trans hT3
              have hT4 : h'.1 kam = xa_a na am := (hqf _ (by omega)).trans hT4
              have hB0 : h'.1 kb = xa_o 0 [xa_r (kb + 1), xa_r (kb + 2), xa_i ((pa : Nat) : Int), xa_i ((jo : Nat) : Int), xa_i wa, xa_i sr, xa_i pu, xa_i ri] := (hqf _ (by omega)).trans hB0
              have hB1 : h'.1 (kb + 1) = xa_a 9 ld := (hqf _ (by omega)).trans hB1
              have hB2 : h'.1 (kb + 2) = xa_a 2 dg := (hqf _ (by omega)).trans hB2
              have hn : h'.2 = h.2 := hqn.trans hn
              have fr : ∀ i, ((i < k + 5 ∨ k + 8 ≤ i) ∧ i ≠ kbr) → h'.1 i = h.1 i := fun i hi => (hqf i (by omega)).trans (fr i hi)
              refine xa_if_eq (pc := 54) (tgt := 120) dX6_findBranches_54 (by decide) (by decide) (fun c_54 => ?_) (fun c_54 => ?_)
              · skip
                refine xa_iincw (pc := 120) (y := ((m + 1 : Nat) : Int)) [some (xa_r k), some (xa_i ((n : Nat) : Int)), some (xa_i ((kc pa jo wa sr sj ((n : Nat) : Int) m : Nat) : Int)), some (xa_i ((m + 1 : Nat) : Int)), some (xa_i ((((n : Nat) : Int) * 11) + ((kc pa jo wa sr sj ((n : Nat) : Int) m : Nat) : Int))), g5] dX6_findBranches_120 (by decide) rfl rfl (by omega) rfl ?_
                refine xa_goto (pc := 123) (tgt := 9) dX6_findBranches_123 (by decide) ?_
                have hno : kmv pa jo wa sr sj ((n : Nat) : Int) m = none := kmv_same (by omega) ((cf_make hB9 hkd.1.1 (po := po) (sp := sp) (tj := tj) (tb := tb) ha (by omega)).2 ht)
                rw [← kc_n hno]
                exact ih (m + 1) _ _ _ _ _ _ _ _ (by omega) (by omega) (kR_old hR hno) hbo ha hpo hsp htj htb (by omega) (by omega) (by omega) (by omega) hT0 hT1 hT2 hT3 hT4 hS0 hS1 hS2 hB0 hB1 hB2 (fun i hi => (fr i hi).trans (fr0 i hi))
              · skip
                exfalso; omega
theorem c_findBranches {G : xa_G} {h : xa_H} (n : Nat) (br am po sp : Nat → Int) (tj tb : Int) (k kb kbr kam nb na ns : Nat) (pl lw : Nat → Int) (sj fs lst : Int) (ld dg : Nat → Int) (pa jo : Nat) (wa sr pu ri : Int) (hB9 : vB ld dg pa jo wa sr pu ri) (hsj : -1 ≤ sj ∧ sj ≤ 1) (hP : kP jo wa sr sj pl lw) (hkk : kb + 3 ≤ k) (hna : kN pa jo wa sr sj ≤ (na : Int)) (hnb : nb = na * 11) (hna9 : na ≤ 100000) (hn9 : ((n : Nat) : Int) < kN pa jo wa sr sj) (hpo : ∀ i, 0 ≤ po i ∧ po i ≤ 2) (hsp : ∀ i, -2 ≤ sp i ∧ sp i ≤ 12) (htj : tj = 0 ∨ tj = 1) (htb : -120 ≤ tb ∧ tb ≤ 120) (hT : xTb h k kb kbr kam sj pl lw br am nb na ns fs lst) (hS : xS h (k + 5) kb po sp tj tb) (hB : xB h kb ld dg pa jo wa sr pu ri)  : xa_M G mX6_findBranches [xa_r k, xa_i ((n : Nat) : Int)] h 0 0 (fun r h' => r = some (xa_i ((kc pa jo wa sr sj ((n : Nat) : Int) 19 : Nat) : Int)) ∧ (∃ (br' po' sp' : Nat → Int) (tj' tb' : Int), kR ld dg pa jo wa sr pu sj br' n 19 ∧ (∀ i, (i < n * 11 ∨ n * 11 + 11 ≤ i) → br' i = br i) ∧ xTb h' k kb kbr kam sj pl lw br' am nb na ns fs lst ∧ xS h' (k + 5) kb po' sp' tj' tb' ∧ ((∀ i, 0 ≤ po' i ∧ po' i ≤ 2) ∧ (∀ i, -2 ≤ sp' i ∧ sp' i ≤ 12) ∧ (tj' = 0 ∨ tj' = 1) ∧ (-120 ≤ tb' ∧ tb' ≤ 120))) ∧ h'.2 = h.2 ∧ ∀ i, ((i < k + 5 ∨ k + 8 ≤ i) ∧ i ≠ kbr) → h'.1 i = h.1 i) := by
  refine xa_enter (by decide +kernel) (Nat.le_of_ble_eq_true rfl) ?_
  refine xa_locals (ls' := [some (xa_r k), some (xa_i ((n : Nat) : Int)), none, none, none, none]) rfl ?_
  have hn : h.2 = h.2 := rfl
  have fr : ∀ i, ((i < k + 5 ∨ k + 8 ≤ i) ∧ i ≠ kbr) → h.1 i = h.1 i := fun _ _ => rfl
  obtain ⟨hT0, hT1, hT2, hT3, hT4, ⟨hk, hkn⟩, ⟨hkbr, hkbr2⟩, ⟨hkam, hkam2⟩, hkq⟩ := hT
  obtain ⟨hS0, hS1, hS2, -, -⟩ := hS
  obtain ⟨hB0, hB1, hB2, hkb, hkbn⟩ := hB
  have h0 := hB9.1
  have hkN := kN_b (sj := sj) hB9
  refine xa_iconst (pc := 0) dX6_findBranches_0 ?_
  refine xa_istoren (pc := 1) [some (xa_r k), some (xa_i ((n : Nat) : Int)), some (xa_i 0), none, none, none] dX6_findBranches_1 (by decide) (Nat.le_of_ble_eq_true rfl) rfl rfl ?_
  refine xa_aload_n (pc := 2) dX6_findBranches_2 rfl ?_
  refine xa_iload_n (pc := 3) dX6_findBranches_3 rfl ?_
  refine xa_callV (pc := 4) (as := [xa_i ((n : Nat) : Int)]) (rest := []) dX6_findBranches_4 ⟨qX6_become.1, qX6_become.2.1, qX6_become.2.2, by decide, by decide⟩ lkRX6_103 imX6_become seX6_become rfl rfl (by omega) (by omega) hT0 rfl (Nat.le_of_ble_eq_true rfl) (Nat.zero_le _) (Nat.zero_le _) (c_become (pl := pl) (lw := lw) hB9 hP (by omega) ⟨hT0, hT1, hT2, hT3, hT4, ⟨by omega, by omega⟩, ⟨by omega, by omega⟩, ⟨by omega, by omega⟩, by omega⟩ ⟨hS0, hS1, hS2, by omega, by omega⟩ ⟨hB0, hB1, hB2, by omega, by omega⟩ hpo hsp (by omega)) (fun r h' hq => ?_)
  obtain ⟨rfl, ⟨po1, sp1, ha1, hpo1, hsp1, hS0, hS1, hS2, -, -⟩, hqn, hqf⟩ := hq
  have hS0 : h'.1 (k + 5) = xa_o 4 [xa_r kb, xa_r (k + 5 + 1), xa_r (k + 5 + 2), xa_i tj, xa_i tb] := hS0
  have hS1 : h'.1 (k + 5 + 1) = xa_a 3 po1 := hS1
  have hS2 : h'.1 (k + 5 + 2) = xa_a 2 sp1 := hS2
  have hT0 : h'.1 k = xa_o 6 [xa_r kb, xa_r (k + 5), xa_i sj, xa_r (k + 1), xa_r (k + 2), xa_i ((ns : Nat) : Int), xa_i fs, xa_i lst, xa_r kbr, xa_r kam] := (hqf _ (by omega)).trans hT0
  have hT1 : h'.1 (k + 1) = xa_a 2 pl := (hqf _ (by omega)).trans hT1
  have hT2 : h'.1 (k + 2) = xa_a 2 lw := (hqf _ (by omega)).trans hT2
  have hT3 : h'.1 kbr = xa_a nb br := (hqf _ (by omega)).trans hT3
  have hT4 : h'.1 kam = xa_a na am := (hqf _ (by omega)).trans hT4
  have hB0 : h'.1 kb = xa_o 0 [xa_r (kb + 1), xa_r (kb + 2), xa_i ((pa : Nat) : Int), xa_i ((jo : Nat) : Int), xa_i wa, xa_i sr, xa_i pu, xa_i ri] := (hqf _ (by omega)).trans hB0
  have hB1 : h'.1 (kb + 1) = xa_a 9 ld := (hqf _ (by omega)).trans hB1
  have hB2 : h'.1 (kb + 2) = xa_a 2 dg := (hqf _ (by omega)).trans hB2
  have hn : h'.2 = h.2 := hqn.trans hn
  have fr : ∀ i, ((i < k + 5 ∨ k + 8 ≤ i) ∧ i ≠ kbr) → h'.1 i = h.1 i := fun i hi => (hqf i (by omega)).trans (fr i hi)
  refine xa_iconst (pc := 7) dX6_findBranches_7 ?_
  refine xa_istoren (pc := 8) [some (xa_r k), some (xa_i ((n : Nat) : Int)), some (xa_i 0), some (xa_i 0), none, none] dX6_findBranches_8 (by decide) (Nat.le_of_ble_eq_true rfl) rfl rfl ?_
  exact c_findB_loop hB9 hsj hP hkk hkb hna hnb hna9 hk hkbr hkam hkq hn9 20 0 _ _ _ _ _ _ _ _ (by omega) (by omega) (fun m1 c1 z => absurd z (Nat.not_lt_zero _)) (fun _ _ => rfl) ha1 hpo1 hsp1 htj htb hn (by omega) (by omega) (by omega) hT0 hT1 hT2 hT3 hT4 hS0 hS1 hS2 hB0 hB1 hB2 fr
theorem c_branchesOf {G : xa_G} {h : xa_H} (n : Nat) (br am po sp : Nat → Int) (tj tb : Int) (k kb kbr kam nb na ns : Nat) (pl lw : Nat → Int) (sj fs lst : Int) (ld dg : Nat → Int) (pa jo : Nat) (wa sr pu ri : Int) (hB9 : vB ld dg pa jo wa sr pu ri) (hsj : -1 ≤ sj ∧ sj ≤ 1) (hP : kP jo wa sr sj pl lw) (hkk : kb + 3 ≤ k) (hna : kN pa jo wa sr sj ≤ (na : Int)) (hnb : nb = na * 11) (hna9 : na ≤ 100000) (hn9 : ((n : Nat) : Int) < kN pa jo wa sr sj) (hTI : kTI ld dg pa jo wa sr pu sj br am) (hpo : ∀ i, 0 ≤ po i ∧ po i ≤ 2) (hsp : ∀ i, -2 ≤ sp i ∧ sp i ≤ 12) (htj : tj = 0 ∨ tj = 1) (htb : -120 ≤ tb ∧ tb ≤ 120) (hT : xTb h k kb kbr kam sj pl lw br am nb na ns fs lst) (hS : xS h (k + 5) kb po sp tj tb) (hB : xB h kb ld dg pa jo wa sr pu ri)  : xa_M G mX6_branchesOf [xa_r k, xa_i ((n : Nat) : Int)] h 0 0 (fun r h' => r = some (xa_i ((kc pa jo wa sr sj ((n : Nat) : Int) 19 : Nat) : Int)) ∧ (∃ (br' am' po' sp' : Nat → Int) (tj' tb' : Int), kTI ld dg pa jo wa sr pu sj br' am' ∧ kR ld dg pa jo wa sr pu sj br' n 19 ∧ xTb h' k kb kbr kam sj pl lw br' am' nb na ns fs lst ∧ xS h' (k + 5) kb po' sp' tj' tb' ∧ ((∀ i, 0 ≤ po' i ∧ po' i ≤ 2) ∧ (∀ i, -2 ≤ sp' i ∧ sp' i ≤ 12) ∧ (tj' = 0 ∨ tj' = 1) ∧ (-120 ≤ tb' ∧ tb' ≤ 120))) ∧ h'.2 = h.2 ∧ ∀ i, ((i < k + 5 ∨ k + 8 ≤ i) ∧ i ≠ kbr ∧ i ≠ kam) → h'.1 i = h.1 i) := by
  refine xa_enter (by decide +kernel) (Nat.le_of_ble_eq_true rfl) ?_
  refine xa_locals (ls' := [some (xa_r k), some (xa_i ((n : Nat) : Int))]) rfl ?_
  have hn : h.2 = h.2 := rfl
  have fr : ∀ i, ((i < k + 5 ∨ k + 8 ≤ i) ∧ i ≠ kbr ∧ i ≠ kam) → h.1 i = h.1 i := fun _ _ => rfl
  obtain ⟨hT0, hT1, hT2, hT3, hT4, ⟨hk, hkn⟩, ⟨hkbr, hkbr2⟩, ⟨hkam, hkam2⟩, hkq⟩ := hT
  obtain ⟨hS0, hS1, hS2, -, -⟩ := hS
  obtain ⟨hB0, hB1, hB2, hkb, hkbn⟩ := hB
  have h0 := hB9.1
  have hkN := kN_b (sj := sj) hB9
  refine xa_iload_n (pc := 0) dX6_branchesOf_0 rfl ?_
  refine xa_if_lt (pc := 1) (tgt := 13) dX6_branchesOf_1 (by decide) ⟨by omega, by omega⟩ (fun c_1 => ?_) (fun c_1 => ?_)
  · skip
    exfalso; omega
  · skip
    refine xa_iload_n (pc := 4) dX6_branchesOf_4 rfl ?_
    refine xa_aload_n (pc := 5) dX6_branchesOf_5 rfl ?_
    refine xa_getfield (pc := 6) dX6_branchesOf_6 flRX6_21 (by omega) (by omega) hT0 rfl ?_
    refine xa_alen (pc := 9) dX6_branchesOf_9 (by omega) hT4 ?_
    refine xa_icmp_lt (pc := 10) (tgt := 15) dX6_branchesOf_10 (by decide) ⟨by omega, by omega⟩ ⟨by omega, by omega⟩ (fun c_10 => ?_) (fun c_10 => ?_)
    · skip
      refine xa_aload_n (pc := 15) dX6_branchesOf_15 rfl ?_
      refine xa_getfield (pc := 16) dX6_branchesOf_16 flRX6_21 (by omega) (by omega) hT0 rfl ?_
      refine xa_iload_n (pc := 19) dX6_branchesOf_19 rfl ?_
      refine xa_ialdw (pc := 20) n dX6_branchesOf_20 (by omega) hT4 (by omega) (by omega) (Int.toNat_natCast _) ?_
      have hbm := hTI n hn9
      have hk11 := kc_11 (pa := pa) (jo := jo) (wa := wa) (sr := sr) (sj := sj) ((n : Nat) : Int)
      refine xa_if_ne (pc := 21) (tgt := 35) dX6_branchesOf_21 (by decide) ⟨by omega, by omega⟩ (fun c_21 => ?_) (fun c_21 => ?_)
      · skip
        refine xa_aload_n (pc := 35) dX6_branchesOf_35 rfl ?_
        refine xa_getfield (pc := 36) dX6_branchesOf_36 flRX6_21 (by omega) (by omega) hT0 rfl ?_
        refine xa_iload_n (pc := 39) dX6_branchesOf_39 rfl ?_
        refine xa_ialdw (pc := 40) n dX6_branchesOf_40 (by omega) hT4 (by omega) (by omega) (Int.toNat_natCast _) ?_
        have hbm := hTI n hn9
        have hk11 := kc_11 (pa := pa) (jo := jo) (wa := wa) (sr := sr) (sj := sj) ((n : Nat) : Int)
        refine xa_ireturn (pc := 41) dX6_branchesOf_41 rfl trivial ?_
        obtain ⟨hb1, hb2⟩ := hbm.resolve_left c_21
        exact ⟨congrArg (fun z => some (xa_i z)) hb1, ⟨br, am, po, sp, tj, tb, hTI, hb2, ⟨hT0, hT1, hT2, hT3, hT4, ⟨by omega, by omega⟩, ⟨by omega, by omega⟩, ⟨by omega, by omega⟩, by omega⟩, ⟨hS0, hS1, hS2, by omega, by omega⟩, hpo, hsp, htj, htb⟩, hn, fr⟩
      · skip
        refine xa_aload_n (pc := 24) dX6_branchesOf_24 rfl ?_
        refine xa_getfield (pc := 25) dX6_branchesOf_25 flRX6_21 (by omega) (by omega) hT0 rfl ?_
        refine xa_iload_n (pc := 28) dX6_branchesOf_28 rfl ?_
        refine xa_aload_n (pc := 29) dX6_branchesOf_29 rfl ?_
        refine xa_iload_n (pc := 30) dX6_branchesOf_30 rfl ?_
        refine xa_callV (pc := 31) (as := [xa_i ((n : Nat) : Int)]) (rest := [xa_i ((n : Nat) : Int), xa_r kam]) dX6_branchesOf_31 ⟨qX6_findBranches.1, qX6_findBranches.2.1, qX6_findBranches.2.2, by decide, by decide⟩ lkRX6_100 imX6_findBranches seX6_findBranches rfl rfl (by omega) (by omega) hT0 rfl (Nat.le_of_ble_eq_true rfl) (Nat.zero_le _) (Nat.zero_le _) (c_findBranches n br am po sp tj tb _ _ _ _ _ _ _ pl lw _ _ _ ld dg pa jo wa sr pu ri hB9 hsj hP hkk hna hnb hna9 hn9 hpo hsp htj htb ⟨hT0, hT1, hT2, hT3, hT4, ⟨by omega, by omega⟩, ⟨by omega, by omega⟩, ⟨by omega, by omega⟩, by omega⟩ ⟨hS0, hS1, hS2, by omega, by omega⟩ ⟨hB0, hB1, hB2, by omega, by omega⟩) (fun r h' hq => ?_)
        obtain ⟨rfl, ⟨br', po', sp', tj', tb', hR, hbo, ⟨-, -, -, hT3, -, -, -, -, -⟩, ⟨hS0, hS1, hS2, -, -⟩, hbd⟩, hqn, hqf⟩ := hq
        have hS0 : h'.1 (k + 5) = xa_o 4 [xa_r kb, xa_r (k + 5 + 1), xa_r (k + 5 + 2), xa_i tj', xa_i tb'] := hS0
        have hS1 : h'.1 (k + 5 + 1) = xa_a 3 po' := hS1
        have hS2 : h'.1 (k + 5 + 2) = xa_a 2 sp' := hS2
        have hT3 : h'.1 kbr = xa_a nb br' := hT3
        have hT0 : h'.1 k = xa_o 6 [xa_r kb, xa_r (k + 5), xa_i sj, xa_r (k + 1), xa_r (k + 2), xa_i ((ns : Nat) : Int), xa_i fs, xa_i lst, xa_r kbr, xa_r kam] := (hqf _ (by omega)).trans hT0
        have hT1 : h'.1 (k + 1) = xa_a 2 pl := (hqf _ (by omega)).trans hT1
        have hT2 : h'.1 (k + 2) = xa_a 2 lw := (hqf _ (by omega)).trans hT2
        have hT4 : h'.1 kam = xa_a na am := (hqf _ (by omega)).trans hT4
        have hB0 : h'.1 kb = xa_o 0 [xa_r (kb + 1), xa_r (kb + 2), xa_i ((pa : Nat) : Int), xa_i ((jo : Nat) : Int), xa_i wa, xa_i sr, xa_i pu, xa_i ri] := (hqf _ (by omega)).trans hB0
        have hB1 : h'.1 (kb + 1) = xa_a 9 ld := (hqf _ (by omega)).trans hB1
        have hB2 : h'.1 (kb + 2) = xa_a 2 dg := (hqf _ (by omega)).trans hB2
        have hn : h'.2 = h.2 := hqn.trans hn
        have fr : ∀ i, ((i < k + 5 ∨ k + 8 ≤ i) ∧ i ≠ kbr ∧ i ≠ kam) → h'.1 i = h.1 i := fun i hi => (hqf i (by omega)).trans (fr i hi)
        refine xa_iastw (pc := 34) n dX6_branchesOf_34 (by omega) (by omega) hT4 (by omega) (by omega) (Int.toNat_natCast _) (fun h1 nh1 ch1 oh1 => ?_)
        have hT4 : h1.1 kam = xa_a na (xa_upf am n ((kc pa jo wa sr sj ((n : Nat) : Int) 19 : Nat) : Int)) := ch1
        have hT0 : h1.1 k = xa_o 6 [xa_r kb, xa_r (k + 5), xa_i sj, xa_r (k + 1), xa_r (k + 2), xa_i ((ns : Nat) : Int), xa_i fs, xa_i lst, xa_r kbr, xa_r kam] := (oh1 _ (by omega)).trans hT0
        have hT1 : h1.1 (k + 1) = xa_a 2 pl := (oh1 _ (by omega)).trans hT1
        have hT2 : h1.1 (k + 2) = xa_a 2 lw := (oh1 _ (by omega)).trans hT2
        have hT3 : h1.1 kbr = xa_a nb br' := (oh1 _ (by omega)).trans hT3
        have hS0 : h1.1 (k + 5) = xa_o 4 [xa_r kb, xa_r (k + 5 + 1), xa_r (k + 5 + 2), xa_i tj', xa_i tb'] := (oh1 _ (by omega)).trans hS0
        have hS1 : h1.1 (k + 5 + 1) = xa_a 3 po' := (oh1 _ (by omega)).trans hS1
        have hS2 : h1.1 (k + 5 + 2) = xa_a 2 sp' := (oh1 _ (by omega)).trans hS2
        have hB0 : h1.1 kb = xa_o 0 [xa_r (kb + 1), xa_r (kb + 2), xa_i ((pa : Nat) : Int), xa_i ((jo : Nat) : Int), xa_i wa, xa_i sr, xa_i pu, xa_i ri] := (oh1 _ (by omega)).trans hB0
        have hB1 : h1.1 (kb + 1) = xa_a 9 ld := (oh1 _ (by omega)).trans hB1
        have hB2 : h1.1 (kb + 2) = xa_a 2 dg := (oh1 _ (by omega)).trans hB2
        have hn : h1.2 = h.2 := nh1.trans hn
        have fr : ∀ i, ((i < k + 5 ∨ k + 8 ≤ i) ∧ i ≠ kbr ∧ i ≠ kam) → h1.1 i = h.1 i := fun i hi => (oh1 i (by omega)).trans (fr i hi)
        refine xa_aload_n (pc := 35) dX6_branchesOf_35 rfl ?_
        refine xa_getfield (pc := 36) dX6_branchesOf_36 flRX6_21 (by omega) (by omega) hT0 rfl ?_
        refine xa_iload_n (pc := 39) dX6_branchesOf_39 rfl ?_
        refine xa_ialdw (pc := 40) n dX6_branchesOf_40 (by omega) hT4 (by omega) (by omega) (Int.toNat_natCast _) ?_
        refine xa_ireturn (pc := 41) dX6_branchesOf_41 rfl trivial ?_
        exact ⟨congrArg (fun z => some (xa_i z)) (xa_upf_at _ _ _), ⟨br', _, po', sp', tj', tb', kTI_new hTI hR hbo, hR, ⟨hT0, hT1, hT2, hT3, hT4, ⟨by omega, by omega⟩, ⟨by omega, by omega⟩, ⟨by omega, by omega⟩, by omega⟩, ⟨hS0, hS1, hS2, by omega, by omega⟩, hbd⟩, hn, fr⟩
    · skip
      exfalso; omega
theorem c_bBet_loop {G : xa_G} {h : xa_H} {n m : Nat} {br am po sp : Nat → Int} {tj tb to_ : Int} {c : xCf} {k kb kbr kam nb na ns : Nat} {pl lw : Nat → Int} {sj fs lst : Int} {ld dg : Nat → Int} {pa jo : Nat} {wa sr pu ri : Int} (hB9 : vB ld dg pa jo wa sr pu ri) (hsj : -1 ≤ sj ∧ sj ≤ 1) (hP : kP jo wa sr sj pl lw) (hkk : kb + 3 ≤ k) (hkb : 2 ≤ kb) (hna : kN pa jo wa sr sj ≤ (na : Int)) (hnb : nb = na * 11) (hna9 : na ≤ 100000) (hk : 2 ≤ k) (hkbr : k + 8 ≤ kbr ∨ kbr = k + 3) (hkam : k + 8 ≤ kam ∨ kam = k + 4) (hkq : kbr ≠ kam) (hkn : k + 7 < h.2) (hkbr2 : kbr < h.2) (hkam2 : kam < h.2) (hn9 : ((n : Nat) : Int) < kN pa jo wa sr sj) (hR : kR ld dg pa jo wa sr pu sj br n 19) (hmm : kmv pa jo wa sr sj ((n : Nat) : Int) m = some c) (hto : to_ = kE pa jo wa sr sj c) (hT0 : h.1 k = xa_o 6 [xa_r kb, xa_r (k + 5), xa_i sj, xa_r (k + 1), xa_r (k + 2), xa_i ((ns : Nat) : Int), xa_i fs, xa_i lst, xa_r kbr, xa_r kam]) (hT1 : h.1 (k + 1) = xa_a 2 pl) (hT2 : h.1 (k + 2) = xa_a 2 lw) (hT3 : h.1 kbr = xa_a nb br) (hT4 : h.1 kam = xa_a na am) (hS0 : h.1 (k + 5) = xa_o 4 [xa_r kb, xa_r (k + 5 + 1), xa_r (k + 5 + 2), xa_i tj, xa_i tb]) (hS1 : h.1 (k + 5 + 1) = xa_a 3 po) (hS2 : h.1 (k + 5 + 2) = xa_a 2 sp) (hB0 : h.1 kb = xa_o 0 [xa_r (kb + 1), xa_r (kb + 2), xa_i ((pa : Nat) : Int), xa_i ((jo : Nat) : Int), xa_i wa, xa_i sr, xa_i pu, xa_i ri]) (hB1 : h.1 (kb + 1) = xa_a 9 ld) (hB2 : h.1 (kb + 2) = xa_a 2 dg) : ∀ (d : Nat) (i : Nat), 20 - i < d → (i ≤ kc pa jo wa sr sj ((n : Nat) : Int) m) → xa_W G mX6_branchBetween (xa_Z G (fun r h' => r = some (xa_i ((kw ld dg pa jo wa sr pu sj ((n : Nat) : Int) m : Nat) : Int)) ∧ h' = h)) 9 [some (xa_r k), some (xa_i ((n : Nat) : Int)), some (xa_i to_), some (xa_i ((kc pa jo wa sr sj ((n : Nat) : Int) 19 : Nat) : Int)), some (xa_i ((i : Nat) : Int))] [] h 0 0 := by
  intro d
  induction d with
  | zero => intros; exfalso; omega
  | succ d ih =>
    intro i hd hi
    have h0 := hB9.1
    have hkN := kN_b (sj := sj) hB9
    have hmu := kc_10 hmm
    have hk11 := kc_11 (pa := pa) (jo := jo) (wa := wa) (sr := sr) (sj := sj) ((n : Nat) : Int)
    obtain ⟨m', c', hm1, hm2, hm3⟩ := kc_at (i := i) 19 (show i < kc pa jo wa sr sj ((n : Nat) : Int) 19 by omega)
    have hkw := kw_lt (ld := ld) (dg := dg) (pu := pu) hB9 (n := ((n : Nat) : Int)) (by omega) hm2
    have hke := kE_b hB9 (kmv_ok hB9 (n := ((n : Nat) : Int)) (by omega) hm2)
    have hke2 := kE_b hB9 (kmv_ok hB9 (n := ((n : Nat) : Int)) (by omega) hmm)
    refine xa_iload (pc := 9) dX6_branchBetween_9 rfl ?_
    refine xa_iload_n (pc := 11) dX6_branchBetween_11 rfl ?_
    refine xa_icmp_ge (pc := 12) (tgt := 43) dX6_branchBetween_12 (by decide) ⟨by omega, by omega⟩ ⟨by omega, by omega⟩ (fun c_12 => ?_) (fun c_12 => ?_)
    · skip
      exfalso; omega
    · skip
      refine xa_aload_n (pc := 15) dX6_branchBetween_15 rfl ?_
      refine xa_iload_n (pc := 16) dX6_branchBetween_16 rfl ?_
      refine xa_iload (pc := 17) dX6_branchBetween_17 rfl ?_
      refine xa_callV (pc := 19) (as := [xa_i ((n : Nat) : Int), xa_i ((i : Nat) : Int)]) (rest := []) dX6_branchBetween_19 ⟨qX6_branch.1, qX6_branch.2.1, qX6_branch.2.2, by decide, by decide⟩ lkRX6_132 imX6_branch seX6_branch rfl rfl (by omega) (by omega) hT0 rfl (Nat.le_of_ble_eq_true rfl) (Nat.zero_le _) (Nat.zero_le _) (c_branch _ _ _ _ _ _ _ _ _ _ _ _ _ _ hk (by omega) (by omega) (by omega) n i (by omega) (by omega) (by omega) hT0 hT1 hT2 hT3 hT4) (fun r h' hq => ?_)
      obtain ⟨hq1, hq⟩ := hq
      have hq := hq.symm
      subst hq
      rw [if_pos (by omega), ← hm3, hR _ _ (by omega) hm2] at hq1
      subst hq1
      refine xa_callS (pc := 22) (as := [xa_i ((kw ld dg pa jo wa sr pu sj ((n : Nat) : Int) m' : Nat) : Int)]) (rest := []) dX6_branchBetween_22 ⟨qX6_shapeOf.1, qX6_shapeOf.2.1, qX6_shapeOf.2.2, by decide, by decide⟩ lkRX6_135 smX6_shapeOf rfl rfl (Nat.le_of_ble_eq_true rfl) (Nat.zero_le _) (Nat.zero_le _) (c_shapeOf (kw ld dg pa jo wa sr pu sj ((n : Nat) : Int) m') (by omega)) (fun r h' hq => ?_)
      obtain ⟨rfl, hq⟩ := hq
      have hq := hq.symm
      subst hq
      refine xa_iload_n (pc := 25) dX6_branchBetween_25 rfl ?_
      refine xa_icmp_ne (pc := 26) (tgt := 37) dX6_branchBetween_26 (by decide) ⟨by omega, by omega⟩ ⟨by omega, by omega⟩ (fun c_26 => ?_) (fun c_26 => ?_)
      · skip
        refine xa_iincw (pc := 37) (y := ((i + 1 : Nat) : Int)) [some (xa_r k), some (xa_i ((n : Nat) : Int)), some (xa_i to_), some (xa_i ((kc pa jo wa sr sj ((n : Nat) : Int) 19 : Nat) : Int)), some (xa_i ((i + 1 : Nat) : Int))] dX6_branchBetween_37 (by decide) rfl rfl (by omega) rfl ?_
        refine xa_goto (pc := 40) (tgt := 9) dX6_branchBetween_40 (by decide) ?_
        exact ih (i + 1) (by omega) (by
          have hne : i ≠ kc pa jo wa sr sj ((n : Nat) : Int) m := fun z => by
            have hmq := kc_inj hm2 hmm (by omega)
            subst hmq
            have hcc : some c' = some c := hm2.symm.trans hmm
            cases hcc
            omega
          omega)
      · skip
        refine xa_aload_n (pc := 29) dX6_branchBetween_29 rfl ?_
        refine xa_iload_n (pc := 30) dX6_branchBetween_30 rfl ?_
        refine xa_iload (pc := 31) dX6_branchBetween_31 rfl ?_
        refine xa_callV (pc := 33) (as := [xa_i ((n : Nat) : Int), xa_i ((i : Nat) : Int)]) (rest := []) dX6_branchBetween_33 ⟨qX6_branch.1, qX6_branch.2.1, qX6_branch.2.2, by decide, by decide⟩ lkRX6_132 imX6_branch seX6_branch rfl rfl (by omega) (by omega) hT0 rfl (Nat.le_of_ble_eq_true rfl) (Nat.zero_le _) (Nat.zero_le _) (c_branch _ _ _ _ _ _ _ _ _ _ _ _ _ _ hk (by omega) (by omega) (by omega) n i (by omega) (by omega) (by omega) hT0 hT1 hT2 hT3 hT4) (fun r h' hq => ?_)
        obtain ⟨hq1, hq⟩ := hq
        have hq := hq.symm
        subst hq
        rw [if_pos (by omega), ← hm3, hR _ _ (by omega) hm2] at hq1
        subst hq1
        refine xa_ireturn (pc := 36) dX6_branchBetween_36 rfl trivial ?_
        have hmq := kmv_u hB9 (n := ((n : Nat) : Int)) (by omega) hm2 hmm (by omega)
        subst hmq
        exact ⟨rfl, rfl⟩
theorem c_branchBetween {G : xa_G} {h : xa_H} (n m : Nat) (to_ : Int) (c : xCf) (br am po sp : Nat → Int) (tj tb : Int) (k kb kbr kam nb na ns : Nat) (pl lw : Nat → Int) (sj fs lst : Int) (ld dg : Nat → Int) (pa jo : Nat) (wa sr pu ri : Int) (hB9 : vB ld dg pa jo wa sr pu ri) (hsj : -1 ≤ sj ∧ sj ≤ 1) (hP : kP jo wa sr sj pl lw) (hkk : kb + 3 ≤ k) (hna : kN pa jo wa sr sj ≤ (na : Int)) (hnb : nb = na * 11) (hna9 : na ≤ 100000) (hn9 : ((n : Nat) : Int) < kN pa jo wa sr sj) (hmm : kmv pa jo wa sr sj ((n : Nat) : Int) m = some c) (hto : to_ = kE pa jo wa sr sj c) (hTI : kTI ld dg pa jo wa sr pu sj br am) (hpo : ∀ i, 0 ≤ po i ∧ po i ≤ 2) (hsp : ∀ i, -2 ≤ sp i ∧ sp i ≤ 12) (htj : tj = 0 ∨ tj = 1) (htb : -120 ≤ tb ∧ tb ≤ 120) (hT : xTb h k kb kbr kam sj pl lw br am nb na ns fs lst) (hS : xS h (k + 5) kb po sp tj tb) (hB : xB h kb ld dg pa jo wa sr pu ri)  : xa_M G mX6_branchBetween [xa_r k, xa_i ((n : Nat) : Int), xa_i to_] h 0 0 (fun r h' => r = some (xa_i ((kw ld dg pa jo wa sr pu sj ((n : Nat) : Int) m : Nat) : Int)) ∧ (∃ (br' am' po' sp' : Nat → Int) (tj' tb' : Int), kTI ld dg pa jo wa sr pu sj br' am' ∧ kR ld dg pa jo wa sr pu sj br' n 19 ∧ xTb h' k kb kbr kam sj pl lw br' am' nb na ns fs lst ∧ xS h' (k + 5) kb po' sp' tj' tb' ∧ ((∀ i, 0 ≤ po' i ∧ po' i ≤ 2) ∧ (∀ i, -2 ≤ sp' i ∧ sp' i ≤ 12) ∧ (tj' = 0 ∨ tj' = 1) ∧ (-120 ≤ tb' ∧ tb' ≤ 120))) ∧ h'.2 = h.2 ∧ ∀ i, ((i < k + 5 ∨ k + 8 ≤ i) ∧ i ≠ kbr ∧ i ≠ kam) → h'.1 i = h.1 i) := by
  refine xa_enter (by decide +kernel) (Nat.le_of_ble_eq_true rfl) ?_
  refine xa_locals (ls' := [some (xa_r k), some (xa_i ((n : Nat) : Int)), some (xa_i to_), none, none]) rfl ?_
  have hn : h.2 = h.2 := rfl
  have fr : ∀ i, ((i < k + 5 ∨ k + 8 ≤ i) ∧ i ≠ kbr ∧ i ≠ kam) → h.1 i = h.1 i := fun _ _ => rfl
  obtain ⟨hT0, hT1, hT2, hT3, hT4, ⟨hk, hkn⟩, ⟨hkbr, hkbr2⟩, ⟨hkam, hkam2⟩, hkq⟩ := hT
  obtain ⟨hS0, hS1, hS2, -, -⟩ := hS
  obtain ⟨hB0, hB1, hB2, hkb, hkbn⟩ := hB
  have h0 := hB9.1
  have hkN := kN_b (sj := sj) hB9
  refine xa_aload_n (pc := 0) dX6_branchBetween_0 rfl ?_
  refine xa_iload_n (pc := 1) dX6_branchBetween_1 rfl ?_
  refine xa_callV (pc := 2) (as := [xa_i ((n : Nat) : Int)]) (rest := []) dX6_branchBetween_2 ⟨qX6_branchesOf.1, qX6_branchesOf.2.1, qX6_branchesOf.2.2, by decide, by decide⟩ lkRX6_129 imX6_branchesOf seX6_branchesOf rfl rfl (by omega) (by omega) hT0 rfl (Nat.le_of_ble_eq_true rfl) (Nat.zero_le _) (Nat.zero_le _) (c_branchesOf n br am po sp tj tb _ _ _ _ _ _ _ pl lw _ _ _ ld dg pa jo wa sr pu ri hB9 hsj hP hkk hna hnb hna9 hn9 hTI hpo hsp htj htb ⟨hT0, hT1, hT2, hT3, hT4, ⟨by omega, by omega⟩, ⟨by omega, by omega⟩, ⟨by omega, by omega⟩, by omega⟩ ⟨hS0, hS1, hS2, by omega, by omega⟩ ⟨hB0, hB1, hB2, by omega, by omega⟩) (fun r h' hq => ?_)
  obtain ⟨rfl, ⟨br', am', po', sp', tj', tb', hTI', hR, ⟨-, -, -, hT3, hT4, -, -, -, -⟩, ⟨hS0, hS1, hS2, -, -⟩, hbd⟩, hqn, hqf⟩ := hq
  have hS0 : h'.1 (k + 5) = xa_o 4 [xa_r kb, xa_r (k + 5 + 1), xa_r (k + 5 + 2), xa_i tj', xa_i tb'] := hS0
  have hS1 : h'.1 (k + 5 + 1) = xa_a 3 po' := hS1
  have hS2 : h'.1 (k + 5 + 2) = xa_a 2 sp' := hS2
  have hT3 : h'.1 kbr = xa_a nb br' := hT3
  have hT4 : h'.1 kam = xa_a na am' := hT4
  have hT0 : h'.1 k = xa_o 6 [xa_r kb, xa_r (k + 5), xa_i sj, xa_r (k + 1), xa_r (k + 2), xa_i ((ns : Nat) : Int), xa_i fs, xa_i lst, xa_r kbr, xa_r kam] := (hqf _ (by omega)).trans hT0
  have hT1 : h'.1 (k + 1) = xa_a 2 pl := (hqf _ (by omega)).trans hT1
  have hT2 : h'.1 (k + 2) = xa_a 2 lw := (hqf _ (by omega)).trans hT2
  have hB0 : h'.1 kb = xa_o 0 [xa_r (kb + 1), xa_r (kb + 2), xa_i ((pa : Nat) : Int), xa_i ((jo : Nat) : Int), xa_i wa, xa_i sr, xa_i pu, xa_i ri] := (hqf _ (by omega)).trans hB0
  have hB1 : h'.1 (kb + 1) = xa_a 9 ld := (hqf _ (by omega)).trans hB1
  have hB2 : h'.1 (kb + 2) = xa_a 2 dg := (hqf _ (by omega)).trans hB2
  have hn : h'.2 = h.2 := hqn.trans hn
  have fr : ∀ i, ((i < k + 5 ∨ k + 8 ≤ i) ∧ i ≠ kbr ∧ i ≠ kam) → h'.1 i = h.1 i := fun i hi => (hqf i (by omega)).trans (fr i hi)
  refine xa_istoren (pc := 5) [some (xa_r k), some (xa_i ((n : Nat) : Int)), some (xa_i to_), some (xa_i ((kc pa jo wa sr sj ((n : Nat) : Int) 19 : Nat) : Int)), none] dX6_branchBetween_5 (by decide) (Nat.le_of_ble_eq_true rfl) rfl rfl ?_
  refine xa_iconst (pc := 6) dX6_branchBetween_6 ?_
  refine xa_istorew (pc := 7) [some (xa_r k), some (xa_i ((n : Nat) : Int)), some (xa_i to_), some (xa_i ((kc pa jo wa sr sj ((n : Nat) : Int) 19 : Nat) : Int)), some (xa_i 0)] dX6_branchBetween_7 (by decide) (Nat.le_of_ble_eq_true rfl) rfl rfl ?_
  refine xa_wmono ?_ (c_bBet_loop hB9 hsj hP hkk hkb hna hnb hna9 hk hkbr hkam hkq (by omega) (by omega) (by omega) hn9 hR hmm hto hT0 hT1 hT2 hT3 hT4 hS0 hS1 hS2 hB0 hB1 hB2 21 0 (by omega) (by omega))
  rintro r h1 ⟨rfl, hq⟩
  have hq := hq.symm
  subst hq
  exact ⟨rfl, ⟨br', am', po', sp', tj', tb', hTI', hR, ⟨hT0, hT1, hT2, hT3, hT4, ⟨by omega, by omega⟩, ⟨by omega, by omega⟩, ⟨by omega, by omega⟩, by omega⟩, ⟨hS0, hS1, hS2, by omega, by omega⟩, hbd⟩, hn, fr⟩
