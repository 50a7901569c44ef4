/-! Search: the small ones -/
def kRm (st : Int) : Nat := if st ≤ 38880 then 38880 else if st ≤ 116640 then 116640 else 583200
def kL (nl : Nat) (st : Int) : Nat × Nat := if nl < kRm st then (1, kRm st) else (0, 0)
theorem kRm_b {st : Int} (h : st ≤ 583200) : st ≤ (kRm st : Int) ∧ kRm st ≤ 583200 := by
  unfold kRm
  split
  · omega
  · split <;> omega

theorem c_forget {G : xa_G} {h : xa_H} (k kb kl nl : Nat) (tk en lk : Nat → Int) (rdy op fi la lo ti an : Int) (hk : 2 ≤ k) (hkn : k + 11 < h.2) (hkl : k + 12 ≤ kl ∨ kl = k + 3) (hkl2 : kl < h.2) (hE0 : h.1 k = xa_o 3 [xa_r kb, xa_r (k + 4), xa_r (k + 1), xa_r (k + 2), xa_r kl, xa_i rdy, xa_i op, xa_i fi, xa_i la, xa_i lo, xa_i ti, xa_i an]) : xa_M G mX3_forget [xa_r k] h 0 0 (fun r h' => r = none ∧ h'.1 k = xa_o 3 [xa_r kb, xa_r (k + 4), xa_r (k + 1), xa_r (k + 2), xa_r kl, xa_i 0, xa_i op, xa_i fi, xa_i la, xa_i lo, xa_i ti, xa_i an] ∧ h'.2 = h.2 ∧ ∀ i, i ≠ k → h'.1 i = h.1 i) := by
  refine xa_enter (by decide +kernel) (Nat.le_of_ble_eq_true rfl) ?_
  refine xa_locals (ls' := [some (xa_r k)]) rfl ?_
  have hn : h.2 = h.2 := rfl
  have fr : ∀ i, i ≠ k → h.1 i = h.1 i := fun _ _ => rfl
  refine xa_aload_n (pc := 0) dX3_forget_0 rfl ?_
  refine xa_iconst (pc := 1) dX3_forget_1 ?_
  refine xa_putw (pc := 2) [xa_r kb, xa_r (k + 4), xa_r (k + 1), xa_r (k + 2), xa_r kl, xa_i 0, xa_i op, xa_i fi, xa_i la, xa_i lo, xa_i ti, xa_i an] dX3_forget_2 flRX3_34 plX3_5 (by omega) (by omega) hE0 (Or.inl rfl) rfl (fun h1 nh1 ch1 oh1 => ?_)
  have hE0 : h1.1 k = xa_o 3 [xa_r kb, xa_r (k + 4), xa_r (k + 1), xa_r (k + 2), xa_r kl, xa_i 0, xa_i op, xa_i fi, xa_i la, xa_i lo, xa_i ti, xa_i an] := ch1
  have hn : h1.2 = h.2 := nh1.trans hn
  have fr : ∀ i, i ≠ k → h1.1 i = h.1 i := fun i hi => (oh1 i (by omega)).trans (fr i hi)
  refine xa_return (pc := 5) dX3_forget_5 rfl ?_
  exact ⟨rfl, hE0, hn, fr⟩
theorem c_makeRoomn {G : xa_G} {h : xa_H} (k kb kl nl : Nat) (tk en lk : Nat → Int) (rdy op fi la lo ti an : Int) (hk : 2 ≤ k) (hkn : k + 11 < h.2) (hkl : k + 12 ≤ kl ∨ kl = k + 3) (hkl2 : kl < h.2) (st : Int) (hst : 0 ≤ st ∧ st ≤ 583200) (hnl : nl ≤ 583200) (hge : kRm st ≤ nl) (hE0 : h.1 k = xa_o 3 [xa_r kb, xa_r (k + 4), xa_r (k + 1), xa_r (k + 2), xa_r kl, xa_i rdy, xa_i op, xa_i fi, xa_i la, xa_i lo, xa_i ti, xa_i an]) (hE3 : h.1 kl = xa_a nl lk) : xa_M G mX3_makeRoom [xa_r k, xa_i st] h 0 0 (fun r h' => r = none ∧ h' = h) := by
  refine xa_enter (by decide +kernel) (Nat.le_of_ble_eq_true rfl) ?_
  refine xa_locals (ls' := [some (xa_r k), some (xa_i st), none]) rfl ?_
  have hR1 : st ≤ 38880 → kRm st = 38880 := fun z => if_pos z
  have hR2 : ¬ st ≤ 38880 → st ≤ 116640 → kRm st = 116640 := fun z z2 => (if_neg z).trans (if_pos z2)
  have hR3 : ¬ st ≤ 38880 → ¬ st ≤ 116640 → kRm st = 583200 := fun z z2 => (if_neg z).trans (if_neg z2)
  refine xa_iload_n (pc := 0) dX3_makeRoom_0 rfl ?_
  refine xa_ldc (pc := 1) (n := 38880) dX3_makeRoom_1 ctRX3_109 rfl ?_
  refine xa_icmp_gt (pc := 3) (tgt := 11) dX3_makeRoom_3 (by decide) ⟨by omega, by omega⟩ (by decide) (fun c_3 => ?_) (fun c_3 => ?_)
  · skip
    refine xa_iload_n (pc := 11) dX3_makeRoom_11 rfl ?_
    refine xa_ldc (pc := 12) (n := 116640) dX3_makeRoom_12 ctRX3_110 rfl ?_
    refine xa_icmp_gt (pc := 14) (tgt := 22) dX3_makeRoom_14 (by decide) ⟨by omega, by omega⟩ (by decide) (fun c_14 => ?_) (fun c_14 => ?_)
    · skip
      refine xa_ldc (pc := 22) (n := 583200) dX3_makeRoom_22 ctRX3_41 rfl ?_
      refine xa_istoren (pc := 24) [some (xa_r k), some (xa_i st), some (xa_i 583200)] dX3_makeRoom_24 (by decide) (Nat.le_of_ble_eq_true rfl) rfl rfl ?_
      refine xa_aload_n (pc := 25) dX3_makeRoom_25 rfl ?_
      refine xa_getfield (pc := 26) dX3_makeRoom_26 flRX3_18 (by omega) (by omega) hE0 rfl ?_
      refine xa_alen (pc := 29) dX3_makeRoom_29 (by omega) hE3 ?_
      refine xa_iload_n (pc := 30) dX3_makeRoom_30 rfl ?_
      refine xa_icmp_ge (pc := 31) (tgt := 41) dX3_makeRoom_31 (by decide) ⟨by omega, by omega⟩ (by decide) (fun c_31 => ?_) (fun c_31 => ?_)
      · skip
        refine xa_return (pc := 41) dX3_makeRoom_41 rfl ?_
        exact ⟨rfl, rfl⟩
      · skip
        exfalso; omega
    · skip
      refine xa_ldc (pc := 17) (n := 116640) dX3_makeRoom_17 ctRX3_110 rfl ?_
      refine xa_goto (pc := 19) (tgt := 24) dX3_makeRoom_19 (by decide) ?_
      refine xa_istoren (pc := 24) [some (xa_r k), some (xa_i st), some (xa_i 116640)] dX3_makeRoom_24 (by decide) (Nat.le_of_ble_eq_true rfl) rfl rfl ?_
      refine xa_aload_n (pc := 25) dX3_makeRoom_25 rfl ?_
      refine xa_getfield (pc := 26) dX3_makeRoom_26 flRX3_18 (by omega) (by omega) hE0 rfl ?_
      refine xa_alen (pc := 29) dX3_makeRoom_29 (by omega) hE3 ?_
      refine xa_iload_n (pc := 30) dX3_makeRoom_30 rfl ?_
      refine xa_icmp_ge (pc := 31) (tgt := 41) dX3_makeRoom_31 (by decide) ⟨by omega, by omega⟩ (by decide) (fun c_31 => ?_) (fun c_31 => ?_)
      · skip
        refine xa_return (pc := 41) dX3_makeRoom_41 rfl ?_
        exact ⟨rfl, rfl⟩
      · skip
        exfalso; omega
  · skip
    refine xa_ldc (pc := 6) (n := 38880) dX3_makeRoom_6 ctRX3_109 rfl ?_
    refine xa_goto (pc := 8) (tgt := 24) dX3_makeRoom_8 (by decide) ?_
    refine xa_istoren (pc := 24) [some (xa_r k), some (xa_i st), some (xa_i 38880)] dX3_makeRoom_24 (by decide) (Nat.le_of_ble_eq_true rfl) rfl rfl ?_
    refine xa_aload_n (pc := 25) dX3_makeRoom_25 rfl ?_
    refine xa_getfield (pc := 26) dX3_makeRoom_26 flRX3_18 (by omega) (by omega) hE0 rfl ?_
    refine xa_alen (pc := 29) dX3_makeRoom_29 (by omega) hE3 ?_
    refine xa_iload_n (pc := 30) dX3_makeRoom_30 rfl ?_
    refine xa_icmp_ge (pc := 31) (tgt := 41) dX3_makeRoom_31 (by decide) ⟨by omega, by omega⟩ (by decide) (fun c_31 => ?_) (fun c_31 => ?_)
    · skip
      refine xa_return (pc := 41) dX3_makeRoom_41 rfl ?_
      exact ⟨rfl, rfl⟩
    · skip
      exfalso; omega
theorem c_makeRooma {G : xa_G} {h : xa_H} (k kb kl nl : Nat) (tk en lk : Nat → Int) (rdy op fi la lo ti an : Int) (hk : 2 ≤ k) (hkn : k + 11 < h.2) (hkl : k + 12 ≤ kl ∨ kl = k + 3) (hkl2 : kl < h.2) (st : Int) (hst : 0 ≤ st ∧ st ≤ 583200) (hnl : nl ≤ 583200) (hlt : nl < kRm st) (p : Nat) (hp : h.2 = p) (hE0 : h.1 k = xa_o 3 [xa_r kb, xa_r (k + 4), xa_r (k + 1), xa_r (k + 2), xa_r kl, xa_i rdy, xa_i op, xa_i fi, xa_i la, xa_i lo, xa_i ti, xa_i an]) (hE3 : h.1 kl = xa_a nl lk) : xa_M G mX3_makeRoom [xa_r k, xa_i st] h 1 (kRm st) (fun r h' => r = none ∧ h'.1 k = xa_o 3 [xa_r kb, xa_r (k + 4), xa_r (k + 1), xa_r (k + 2), xa_r p, xa_i rdy, xa_i op, xa_i fi, xa_i la, xa_i lo, xa_i ti, xa_i an] ∧ h'.1 p = xa_a (kRm st) (fun _ => 0) ∧ h'.2 = h.2 + 1 ∧ ∀ i, (i ≠ k ∧ i < p) → h'.1 i = h.1 i) := by
  refine xa_enter (by decide +kernel) (Nat.le_of_ble_eq_true rfl) ?_
  refine xa_locals (ls' := [some (xa_r k), some (xa_i st), none]) rfl ?_
  have hn : h.2 = h.2 := rfl
  have fr : ∀ i, (i ≠ k ∧ i < p) → h.1 i = h.1 i := fun _ _ => rfl
  have hR1 : st ≤ 38880 → kRm st = 38880 := fun z => if_pos z
  have hR2 : ¬ st ≤ 38880 → st ≤ 116640 → kRm st = 116640 := fun z z2 => (if_neg z).trans (if_pos z2)
  have hR3 : ¬ st ≤ 38880 → ¬ st ≤ 116640 → kRm st = 583200 := fun z z2 => (if_neg z).trans (if_neg z2)
  refine xa_iload_n (pc := 0) dX3_makeRoom_0 rfl ?_
  refine xa_ldc (pc := 1) (n := 38880) dX3_makeRoom_1 ctRX3_109 rfl ?_
  refine xa_icmp_gt (pc := 3) (tgt := 11) dX3_makeRoom_3 (by decide) ⟨by omega, by omega⟩ (by decide) (fun c_3 => ?_) (fun c_3 => ?_)
  · skip
    refine xa_iload_n (pc := 11) dX3_makeRoom_11 rfl ?_
    refine xa_ldc (pc := 12) (n := 116640) dX3_makeRoom_12 ctRX3_110 rfl ?_
    refine xa_icmp_gt (pc := 14) (tgt := 22) dX3_makeRoom_14 (by decide) ⟨by omega, by omega⟩ (by decide) (fun c_14 => ?_) (fun c_14 => ?_)
    · skip
      refine xa_ldc (pc := 22) (n := 583200) dX3_makeRoom_22 ctRX3_41 rfl ?_
      refine xa_istoren (pc := 24) [some (xa_r k), some (xa_i st), some (xa_i 583200)] dX3_makeRoom_24 (by decide) (Nat.le_of_ble_eq_true rfl) rfl rfl ?_
      refine xa_aload_n (pc := 25) dX3_makeRoom_25 rfl ?_
      refine xa_getfield (pc := 26) dX3_makeRoom_26 flRX3_18 (by omega) (by omega) hE0 rfl ?_
      refine xa_alen (pc := 29) dX3_makeRoom_29 (by omega) hE3 ?_
      refine xa_iload_n (pc := 30) dX3_makeRoom_30 rfl ?_
      refine xa_icmp_ge (pc := 31) (tgt := 41) dX3_makeRoom_31 (by decide) ⟨by omega, by omega⟩ (by decide) (fun c_31 => ?_) (fun c_31 => ?_)
      · skip
        exfalso; omega
      · skip
        refine xa_aload_n (pc := 34) dX3_makeRoom_34 rfl ?_
        refine xa_iload_n (pc := 35) dX3_makeRoom_35 rfl ?_
        refine xa_newap (pc := 36) (mc0 := 0) (ms0 := 0) 583200 p (by omega) dX3_makeRoom_36 (by omega) (by omega) (by omega) (by omega) (fun h1 nh1 ch1 oh1 => ?_)
        have hE0 : h1.1 k = xa_o 3 [xa_r kb, xa_r (k + 4), xa_r (k + 1), xa_r (k + 2), xa_r kl, xa_i rdy, xa_i op, xa_i fi, xa_i la, xa_i lo, xa_i ti, xa_i an] := (oh1 _ (by omega)).trans hE0
        have hE3 : h1.1 kl = xa_a nl lk := (oh1 _ (by omega)).trans hE3
        have hL : h1.1 p = xa_a 583200 (fun _ => 0) := ch1
        have hn : h1.2 = h.2 + 1 := by omega
        have fr : ∀ i, (i ≠ k ∧ i < p) → h1.1 i = h.1 i := fun i hi => (oh1 i (by omega)).trans (fr i hi)
        refine xa_putw (pc := 38) [xa_r kb, xa_r (k + 4), xa_r (k + 1), xa_r (k + 2), xa_r p, xa_i rdy, xa_i op, xa_i fi, xa_i la, xa_i lo, xa_i ti, xa_i an] dX3_makeRoom_38 flRX3_18 plX3_4 (by omega) (by omega) hE0 trivial rfl (fun h2 nh2 ch2 oh2 => ?_)
        have hE0 : h2.1 k = xa_o 3 [xa_r kb, xa_r (k + 4), xa_r (k + 1), xa_r (k + 2), xa_r p, xa_i rdy, xa_i op, xa_i fi, xa_i la, xa_i lo, xa_i ti, xa_i an] := ch2
        have hE3 : h2.1 kl = xa_a nl lk := (oh2 _ (by omega)).trans hE3
        have hL : h2.1 p = xa_a 583200 (fun _ => 0) := (oh2 _ (by omega)).trans hL
        have hn : h2.2 = h.2 + 1 := nh2.trans hn
        have fr : ∀ i, (i ≠ k ∧ i < p) → h2.1 i = h.1 i := fun i hi => (oh2 i (by omega)).trans (fr i hi)
        refine xa_return (pc := 41) dX3_makeRoom_41 rfl ?_
        have hRe : kRm st = 583200 := by omega
        exact ⟨rfl, hE0, by rw [hRe]; exact hL, by omega, fr⟩
    · skip
      refine xa_ldc (pc := 17) (n := 116640) dX3_makeRoom_17 ctRX3_110 rfl ?_
      refine xa_goto (pc := 19) (tgt := 24) dX3_makeRoom_19 (by decide) ?_
      refine xa_istoren (pc := 24) [some (xa_r k), some (xa_i st), some (xa_i 116640)] dX3_makeRoom_24 (by decide) (Nat.le_of_ble_eq_true rfl) rfl rfl ?_
      refine xa_aload_n (pc := 25) dX3_makeRoom_25 rfl ?_
      refine xa_getfield (pc := 26) dX3_makeRoom_26 flRX3_18 (by omega) (by omega) hE0 rfl ?_
      refine xa_alen (pc := 29) dX3_makeRoom_29 (by omega) hE3 ?_
      refine xa_iload_n (pc := 30) dX3_makeRoom_30 rfl ?_
      refine xa_icmp_ge (pc := 31) (tgt := 41) dX3_makeRoom_31 (by decide) ⟨by omega, by omega⟩ (by decide) (fun c_31 => ?_) (fun c_31 => ?_)
      · skip
        exfalso; omega
      · skip
        refine xa_aload_n (pc := 34) dX3_makeRoom_34 rfl ?_
        refine xa_iload_n (pc := 35) dX3_makeRoom_35 rfl ?_
        refine xa_newap (pc := 36) (mc0 := 0) (ms0 := 0) 116640 p (by omega) dX3_makeRoom_36 (by omega) (by omega) (by omega) (by omega) (fun h3 nh3 ch3 oh3 => ?_)
        have hE0 : h3.1 k = xa_o 3 [xa_r kb, xa_r (k + 4), xa_r (k + 1), xa_r (k + 2), xa_r kl, xa_i rdy, xa_i op, xa_i fi, xa_i la, xa_i lo, xa_i ti, xa_i an] := (oh3 _ (by omega)).trans hE0
        have hE3 : h3.1 kl = xa_a nl lk := (oh3 _ (by omega)).trans hE3
        have hL : h3.1 p = xa_a 116640 (fun _ => 0) := ch3
        have hn : h3.2 = h.2 + 1 := by omega
        have fr : ∀ i, (i ≠ k ∧ i < p) → h3.1 i = h.1 i := fun i hi => (oh3 i (by omega)).trans (fr i hi)
        refine xa_putw (pc := 38) [xa_r kb, xa_r (k + 4), xa_r (k + 1), xa_r (k + 2), xa_r p, xa_i rdy, xa_i op, xa_i fi, xa_i la, xa_i lo, xa_i ti, xa_i an] dX3_makeRoom_38 flRX3_18 plX3_4 (by omega) (by omega) hE0 trivial rfl (fun h4 nh4 ch4 oh4 => ?_)
        have hE0 : h4.1 k = xa_o 3 [xa_r kb, xa_r (k + 4), xa_r (k + 1), xa_r (k + 2), xa_r p, xa_i rdy, xa_i op, xa_i fi, xa_i la, xa_i lo, xa_i ti, xa_i an] := ch4
        have hE3 : h4.1 kl = xa_a nl lk := (oh4 _ (by omega)).trans hE3
        have hL : h4.1 p = xa_a 116640 (fun _ => 0) := (oh4 _ (by omega)).trans hL
        have hn : h4.2 = h.2 + 1 := nh4.trans hn
        have fr : ∀ i, (i ≠ k ∧ i < p) → h4.1 i = h.1 i := fun i hi => (oh4 i (by omega)).trans (fr i hi)
        refine xa_return (pc := 41) dX3_makeRoom_41 rfl ?_
        have hRe : kRm st = 116640 := by omega
        exact ⟨rfl, hE0, by rw [hRe]; exact hL, by omega, fr⟩
  · skip
    refine xa_ldc (pc := 6) (n := 38880) dX3_makeRoom_6 ctRX3_109 rfl ?_
    refine xa_goto (pc := 8) (tgt := 24) dX3_makeRoom_8 (by decide) ?_
    refine xa_istoren (pc := 24) [some (xa_r k), some (xa_i st), some (xa_i 38880)] dX3_makeRoom_24 (by decide) (Nat.le_of_ble_eq_true rfl) rfl rfl ?_
    refine xa_aload_n (pc := 25) dX3_makeRoom_25 rfl ?_
    refine xa_getfield (pc := 26) dX3_makeRoom_26 flRX3_18 (by omega) (by omega) hE0 rfl ?_
    refine xa_alen (pc := 29) dX3_makeRoom_29 (by omega) hE3 ?_
    refine xa_iload_n (pc := 30) dX3_makeRoom_30 rfl ?_
    refine xa_icmp_ge (pc := 31) (tgt := 41) dX3_makeRoom_31 (by decide) ⟨by omega, by omega⟩ (by decide) (fun c_31 => ?_) (fun c_31 => ?_)
    · skip
      exfalso; omega
    · skip
      refine xa_aload_n (pc := 34) dX3_makeRoom_34 rfl ?_
      refine xa_iload_n (pc := 35) dX3_makeRoom_35 rfl ?_
      refine xa_newap (pc := 36) (mc0 := 0) (ms0 := 0) 38880 p (by omega) dX3_makeRoom_36 (by omega) (by omega) (by omega) (by omega) (fun h5 nh5 ch5 oh5 => ?_)
      have hE0 : h5.1 k = xa_o 3 [xa_r kb, xa_r (k + 4), xa_r (k + 1), xa_r (k + 2), xa_r kl, xa_i rdy, xa_i op, xa_i fi, xa_i la, xa_i lo, xa_i ti, xa_i an] := (oh5 _ (by omega)).trans hE0
      have hE3 : h5.1 kl = xa_a nl lk := (oh5 _ (by omega)).trans hE3
      have hL : h5.1 p = xa_a 38880 (fun _ => 0) := ch5
      have hn : h5.2 = h.2 + 1 := by omega
      have fr : ∀ i, (i ≠ k ∧ i < p) → h5.1 i = h.1 i := fun i hi => (oh5 i (by omega)).trans (fr i hi)
      refine xa_putw (pc := 38) [xa_r kb, xa_r (k + 4), xa_r (k + 1), xa_r (k + 2), xa_r p, xa_i rdy, xa_i op, xa_i fi, xa_i la, xa_i lo, xa_i ti, xa_i an] dX3_makeRoom_38 flRX3_18 plX3_4 (by omega) (by omega) hE0 trivial rfl (fun h6 nh6 ch6 oh6 => ?_)
      have hE0 : h6.1 k = xa_o 3 [xa_r kb, xa_r (k + 4), xa_r (k + 1), xa_r (k + 2), xa_r p, xa_i rdy, xa_i op, xa_i fi, xa_i la, xa_i lo, xa_i ti, xa_i an] := ch6
      have hE3 : h6.1 kl = xa_a nl lk := (oh6 _ (by omega)).trans hE3
      have hL : h6.1 p = xa_a 38880 (fun _ => 0) := (oh6 _ (by omega)).trans hL
      have hn : h6.2 = h.2 + 1 := nh6.trans hn
      have fr : ∀ i, (i ≠ k ∧ i < p) → h6.1 i = h.1 i := fun i hi => (oh6 i (by omega)).trans (fr i hi)
      refine xa_return (pc := 41) dX3_makeRoom_41 rfl ?_
      have hRe : kRm st = 38880 := by omega
      exact ⟨rfl, hE0, by rw [hRe]; exact hL, by omega, fr⟩
theorem c_answer_loop {G : xa_G} {h0 : xa_H} {k kb kl nl : Nat} {tk en lk : Nat → Int} {rdy op fi la lo ti tu st bh pa jo wa sr pu ri : Int} (hk : 2 ≤ k) (hkl : k + 12 ≤ kl ∨ kl = k + 3) (hkb : 2 ≤ kb) (hkk : kb + 3 ≤ k) (hri : 0 ≤ ri ∧ ri ≤ 90) (htu : 0 ≤ tu ∧ tu < 360) (hbh : 0 ≤ bh ∧ bh ≤ 1000) (htk : ∀ t, t < 360 → -1 ≤ tk t ∧ tk t ≤ 1000) : ∀ (d : Nat) (o : Int) (tk1 en1 : Nat → Int) (g5 : Option xa_V) (h : xa_H), (ri + 1 - o).toNat < d → (-ri ≤ o ∧ o ≤ ri + 1) → (aR ri tu bh st tk en tk1 en1 o) → (∀ t, t < 360 → -1 ≤ tk1 t ∧ tk1 t ≤ 1000) → (h.2 = h0.2) → (k + 11 < h.2) → (kl < h.2) → (h.1 k = xa_o 3 [xa_r kb, xa_r (k + 4), xa_r (k + 1), xa_r (k + 2), xa_r kl, xa_i rdy, xa_i op, xa_i fi, xa_i la, xa_i lo, xa_i ti, xa_i ((sC tk1 : Nat) : Int)]) → (h.1 (k + 1) = xa_a 360 tk1) → (h.1 (k + 2) = xa_a 360 en1) → (h.1 kl = xa_a nl lk) → (h.1 kb = xa_o 0 [xa_r (kb + 1), xa_r (kb + 2), xa_i pa, xa_i jo, xa_i wa, xa_i sr, xa_i pu, xa_i ri]) → (∀ i, (i < k ∨ k + 3 ≤ i) → h.1 i = h0.1 i) → xa_W G mX3_answer (xa_Z G (fun r h' => r = none ∧ (∃ tk' en' : Nat → Int, aR ri tu bh st tk en tk' en' (ri + 1) ∧ (∀ t, t < 360 → -1 ≤ tk' t ∧ tk' t ≤ 1000) ∧ h'.1 k = xa_o 3 [xa_r kb, xa_r (k + 4), xa_r (k + 1), xa_r (k + 2), xa_r kl, xa_i rdy, xa_i op, xa_i fi, xa_i la, xa_i lo, xa_i ti, xa_i ((sC tk' : Nat) : Int)] ∧ h'.1 (k + 1) = xa_a 360 tk' ∧ h'.1 (k + 2) = xa_a 360 en') ∧ h'.2 = h0.2 ∧ ∀ i, (i < k ∨ k + 3 ≤ i) → h'.1 i = h0.1 i)) 10 [some (xa_r k), some (xa_i tu), some (xa_i st), some (xa_i bh), some (xa_i o), g5] [] h 0 0 := by
  intro d
  induction d with
  | zero => intros; exfalso; omega
  | succ d ih =>
    intro o tk1 en1 g5 h hd ho hR htk1 hn0 hkn hkl2 hE0 hE1 hE2 hE3 hB0 fr0
    have hn : h.2 = h.2 := rfl
    have fr : ∀ i, (i < k ∨ k + 3 ≤ i) → h.1 i = h.1 i := fun _ _ => rfl
    refine xa_iload (pc := 10) dX3_answer_10 rfl ?_
    refine xa_aload_n (pc := 12) dX3_answer_12 rfl ?_
    refine xa_getfield (pc := 13) dX3_answer_13 flRX3_21 (by omega) (by omega) hE0 rfl ?_
    refine xa_getfield (pc := 16) dX3_answer_16 flRX3_131 (by omega) (by omega) hB0 rfl ?_
    refine xa_icmp_gt (pc := 19) (tgt := 97) dX3_answer_19 (by decide) ⟨by omega, by omega⟩ ⟨by omega, by omega⟩ (fun c_19 => ?_) (fun c_19 => ?_)
    · skip
      refine xa_return (pc := 97) dX3_answer_97 rfl ?_
      have ho9 : o = ri + 1 := by omega
      subst ho9
      exact ⟨rfl, ⟨tk1, en1, hR, htk1, hE0, hE1, hE2⟩, by omega, fun i hi => (fr i hi).trans (fr0 i hi)⟩
    · skip
      refine xa_iload (pc := 22) dX3_answer_22 rfl ?_
      refine xa_iload_n (pc := 24) dX3_answer_24 rfl ?_
      refine xa_isub (pc := 25) dX3_answer_25 ?_
      refine xa_sipush (pc := 26) dX3_answer_26 rfl ?_
      refine xa_callS (pc := 29) (as := [xa_i (o - tu), xa_i 360]) (rest := []) dX3_answer_29 ⟨qJ9_floorMod_7cf53.1, qJ9_floorMod_7cf53.2.1, qJ9_floorMod_7cf53.2.2, by decide, by decide⟩ lkRX3_67 smJ9_floorMod_7cf53 rfl rfl (Nat.le_of_ble_eq_true rfl) (Nat.zero_le _) (Nat.zero_le _) (c_floorMod _ _ ⟨by omega, by omega⟩ (by decide) (by omega)) (fun r h' hq => ?_)
      obtain ⟨rfl, hq⟩ := hq
      have hq := hq.symm
      subst hq
      refine xa_istorew (pc := 32) [some (xa_r k), some (xa_i tu), some (xa_i st), some (xa_i bh), some (xa_i o), some (xa_i ((o - tu) % 360))] dX3_answer_32 (by decide) (Nat.le_of_ble_eq_true rfl) rfl rfl ?_
      refine xa_iload (pc := 34) dX3_answer_34 rfl ?_
      refine xa_aload_n (pc := 36) dX3_answer_36 rfl ?_
      refine xa_getfield (pc := 37) dX3_answer_37 flRX3_11 (by omega) (by omega) hE0 rfl ?_
      refine xa_alen (pc := 40) dX3_answer_40 (by omega) hE1 ?_
      refine xa_top (y := 360) rfl ?_
      refine xa_icmp_ge (pc := 41) (tgt := 91) dX3_answer_41 (by decide) ⟨by omega, by omega⟩ (by decide) (fun c_41 => ?_) (fun c_41 => ?_)
      · skip
        exfalso; omega
      · skip
        refine xa_iload (pc := 44) dX3_answer_44 rfl ?_
        refine xa_aload_n (pc := 46) dX3_answer_46 rfl ?_
        refine xa_getfield (pc := 47) dX3_answer_47 flRX3_15 (by omega) (by omega) hE0 rfl ?_
        refine xa_alen (pc := 50) dX3_answer_50 (by omega) hE2 ?_
        refine xa_top (y := 360) rfl ?_
        refine xa_icmp_ge (pc := 51) (tgt := 91) dX3_answer_51 (by decide) ⟨by omega, by omega⟩ (by decide) (fun c_51 => ?_) (fun c_51 => ?_)
        · skip
          exfalso; omega
        · skip
          refine xa_aload_n (pc := 54) dX3_answer_54 rfl ?_
          refine xa_getfield (pc := 55) dX3_answer_55 flRX3_11 (by omega) (by omega) hE0 rfl ?_
          refine xa_iload (pc := 58) dX3_answer_58 rfl ?_
          refine xa_ialdw (pc := 60) (((o - tu) % 360).toNat) dX3_answer_60 (by omega) hE1 (by omega) (by omega) rfl ?_
          have htb := htk1 (((o - tu) % 360).toNat) (by omega)
          refine xa_iconst (pc := 61) dX3_answer_61 ?_
          refine xa_icmp_ne (pc := 62) (tgt := 91) dX3_answer_62 (by decide) ⟨by omega, by omega⟩ (by decide) (fun c_62 => ?_) (fun c_62 => ?_)
          · skip
            refine xa_iincw (pc := 91) (y := o + 1) [some (xa_r k), some (xa_i tu), some (xa_i st), some (xa_i bh), some (xa_i (o + 1)), some (xa_i ((o - tu) % 360))] dX3_answer_91 (by decide) rfl rfl rfl rfl ?_
            refine xa_goto (pc := 94) (tgt := 10) dX3_answer_94 (by decide) ?_
            have hR1 := aR_miss hR ho.1 (t0 := ((o - tu) % 360).toNat) (by omega) (by omega) (by first | exact c_62 | (intro z; omega))
            exact ih (o + 1) _ _ _ _ (by omega) (by omega) hR1 htk1 (by omega) (by omega) (by omega) hE0 hE1 hE2 hE3 hB0 (fun i hi => (fr i hi).trans (fr0 i hi))
          · skip
            refine xa_aload_n (pc := 65) dX3_answer_65 rfl ?_
            refine xa_getfield (pc := 66) dX3_answer_66 flRX3_11 (by omega) (by omega) hE0 rfl ?_
            refine xa_iload (pc := 69) dX3_answer_69 rfl ?_
            refine xa_iload_n (pc := 71) dX3_answer_71 rfl ?_
            refine xa_iastw (pc := 72) (((o - tu) % 360).toNat) dX3_answer_72 (by omega) (by omega) hE1 (by omega) (by omega) rfl (fun h1 nh1 ch1 oh1 => ?_)
            have hE1 : h1.1 (k + 1) = xa_a 360 (xa_upf tk1 (((o - tu) % 360).toNat) bh) := ch1
            have hE0 : h1.1 k = xa_o 3 [xa_r kb, xa_r (k + 4), xa_r (k + 1), xa_r (k + 2), xa_r kl, xa_i rdy, xa_i op, xa_i fi, xa_i la, xa_i lo, xa_i ti, xa_i ((sC tk1 : Nat) : Int)] := (oh1 _ (by omega)).trans hE0
            have hE2 : h1.1 (k + 2) = xa_a 360 en1 := (oh1 _ (by omega)).trans hE2
            have hE3 : h1.1 kl = xa_a nl lk := (oh1 _ (by omega)).trans hE3
            have hB0 : h1.1 kb = xa_o 0 [xa_r (kb + 1), xa_r (kb + 2), xa_i pa, xa_i jo, xa_i wa, xa_i sr, xa_i pu, xa_i ri] := (oh1 _ (by omega)).trans hB0
            have hn : h1.2 = h.2 := nh1.trans hn
            have fr : ∀ i, (i < k ∨ k + 3 ≤ i) → h1.1 i = h.1 i := fun i hi => (oh1 i (by omega)).trans (fr i hi)
            refine xa_aload_n (pc := 73) dX3_answer_73 rfl ?_
            refine xa_getfield (pc := 74) dX3_answer_74 flRX3_15 (by omega) (by omega) hE0 rfl ?_
            refine xa_iload (pc := 77) dX3_answer_77 rfl ?_
            refine xa_iload_n (pc := 79) dX3_answer_79 rfl ?_
            refine xa_iastw (pc := 80) (((o - tu) % 360).toNat) dX3_answer_80 (by omega) (by omega) hE2 (by omega) (by omega) rfl (fun h2 nh2 ch2 oh2 => ?_)
            have hE2 : h2.1 (k + 2) = xa_a 360 (xa_upf en1 (((o - tu) % 360).toNat) st) := ch2
            have hE0 : h2.1 k = xa_o 3 [xa_r kb, xa_r (k + 4), xa_r (k + 1), xa_r (k + 2), xa_r kl, xa_i rdy, xa_i op, xa_i fi, xa_i la, xa_i lo, xa_i ti, xa_i ((sC tk1 : Nat) : Int)] := (oh2 _ (by omega)).trans hE0
            have hE1 : h2.1 (k + 1) = xa_a 360 (xa_upf tk1 (((o - tu) % 360).toNat) bh) := (oh2 _ (by omega)).trans hE1
            have hE3 : h2.1 kl = xa_a nl lk := (oh2 _ (by omega)).trans hE3
            have hB0 : h2.1 kb = xa_o 0 [xa_r (kb + 1), xa_r (kb + 2), xa_i pa, xa_i jo, xa_i wa, xa_i sr, xa_i pu, xa_i ri] := (oh2 _ (by omega)).trans hB0
            have hn : h2.2 = h.2 := nh2.trans hn
            have fr : ∀ i, (i < k ∨ k + 3 ≤ i) → h2.1 i = h.1 i := fun i hi => (oh2 i (by omega)).trans (fr i hi)
            refine xa_aload_n (pc := 81) dX3_answer_81 rfl ?_
            refine xa_dup (pc := 82) dX3_answer_82 rfl ?_
            refine xa_getfield (pc := 83) dX3_answer_83 flRX3_88 (by omega) (by omega) hE0 rfl ?_
            refine xa_iconst (pc := 86) dX3_answer_86 ?_
            refine xa_iadd (pc := 87) dX3_answer_87 ?_
            refine xa_putw (pc := 88) [xa_r kb, xa_r (k + 4), xa_r (k + 1), xa_r (k + 2), xa_r kl, xa_i rdy, xa_i op, xa_i fi, xa_i la, xa_i lo, xa_i ti, xa_i (((sC tk1 : Nat) : Int) + 1)] dX3_answer_88 flRX3_88 plX3_11 (by omega) (by omega) hE0 trivial rfl (fun h3 nh3 ch3 oh3 => ?_)
            have hE0 : h3.1 k = xa_o 3 [xa_r kb, xa_r (k + 4), xa_r (k + 1), xa_r (k + 2), xa_r kl, xa_i rdy, xa_i op, xa_i fi, xa_i la, xa_i lo, xa_i ti, xa_i (((sC tk1 : Nat) : Int) + 1)] := ch3
            have hE1 : h3.1 (k + 1) = xa_a 360 (xa_upf tk1 (((o - tu) % 360).toNat) bh) := (oh3 _ (by omega)).trans hE1
            have hE2 : h3.1 (k + 2) = xa_a 360 (xa_upf en1 (((o - tu) % 360).toNat) st) := (oh3 _ (by omega)).trans hE2
            have hE3 : h3.1 kl = xa_a nl lk := (oh3 _ (by omega)).trans hE3
            have hB0 : h3.1 kb = xa_o 0 [xa_r (kb + 1), xa_r (kb + 2), xa_i pa, xa_i jo, xa_i wa, xa_i sr, xa_i pu, xa_i ri] := (oh3 _ (by omega)).trans hB0
            have hn : h3.2 = h.2 := nh3.trans hn
            have fr : ∀ i, (i < k ∨ k + 3 ≤ i) → h3.1 i = h.1 i := fun i hi => (oh3 i (by omega)).trans (fr i hi)
            refine xa_iincw (pc := 91) (y := o + 1) [some (xa_r k), some (xa_i tu), some (xa_i st), some (xa_i bh), some (xa_i (o + 1)), some (xa_i ((o - tu) % 360))] dX3_answer_91 (by decide) rfl rfl rfl rfl ?_
            refine xa_goto (pc := 94) (tgt := 10) dX3_answer_94 (by decide) ?_
            obtain ⟨hR1, hk1⟩ := aR_hit hR ho.1 (by omega) (t0 := ((o - tu) % 360).toNat) (by omega) (by omega) c_62
            have eC := sC_upd (tk := tk1) (t0 := ((o - tu) % 360).toNat) (by omega) c_62 (v := bh) (by omega)
            exact ih (o + 1) _ _ _ _ (by omega) (by omega) hR1 (fun t ht => by
              by_cases e : t = ((o - tu) % 360).toNat
              · rw [e, xa_upf_at]; omega
              · rw [xa_upf_ne _ _ e]; exact htk1 t ht) (by omega) (by omega) (by omega) (by rw [hE0, eC]; rfl) hE1 hE2 hE3 hB0 (fun i hi => (fr i hi).trans (fr0 i hi))
theorem c_answer {G : xa_G} {h : xa_H} (k kb kl nl : Nat) (tk en lk : Nat → Int) (rdy op fi la lo ti : Int) (tu st bh pa jo wa sr pu ri : Int) (hk : 2 ≤ k) (hkn : k + 11 < h.2) (hkl : k + 12 ≤ kl ∨ kl = k + 3) (hkl2 : kl < h.2) (hkb : 2 ≤ kb) (hkk : kb + 3 ≤ k) (hri : 0 ≤ ri ∧ ri ≤ 90) (htu : 0 ≤ tu ∧ tu < 360) (hbh : 0 ≤ bh ∧ bh ≤ 1000) (htk : ∀ t, t < 360 → -1 ≤ tk t ∧ tk t ≤ 1000) (hE0 : h.1 k = xa_o 3 [xa_r kb, xa_r (k + 4), xa_r (k + 1), xa_r (k + 2), xa_r kl, xa_i rdy, xa_i op, xa_i fi, xa_i la, xa_i lo, xa_i ti, xa_i ((sC tk : Nat) : Int)]) (hE1 : h.1 (k + 1) = xa_a 360 tk) (hE2 : h.1 (k + 2) = xa_a 360 en) (hE3 : h.1 kl = xa_a nl lk) (hB0 : h.1 kb = xa_o 0 [xa_r (kb + 1), xa_r (kb + 2), xa_i pa, xa_i jo, xa_i wa, xa_i sr, xa_i pu, xa_i ri]) : xa_M G mX3_answer [xa_r k, xa_i tu, xa_i st, xa_i bh] h 0 0 (fun r h' => r = none ∧ (∃ tk' en' : Nat → Int, aR ri tu bh st tk en tk' en' (ri + 1) ∧ (∀ t, t < 360 → -1 ≤ tk' t ∧ tk' t ≤ 1000) ∧ h'.1 k = xa_o 3 [xa_r kb, xa_r (k + 4), xa_r (k + 1), xa_r (k + 2), xa_r kl, xa_i rdy, xa_i op, xa_i fi, xa_i la, xa_i lo, xa_i ti, xa_i ((sC tk' : Nat) : Int)] ∧ h'.1 (k + 1) = xa_a 360 tk' ∧ h'.1 (k + 2) = xa_a 360 en') ∧ h'.2 = h.2 ∧ ∀ i, (i < k ∨ k + 3 ≤ i) → h'.1 i = h.1 i) := by
  refine xa_enter (by decide +kernel) (Nat.le_of_ble_eq_true rfl) ?_
  refine xa_locals (ls' := [some (xa_r k), some (xa_i tu), some (xa_i st), some (xa_i bh), none, none]) rfl ?_
  have hn : h.2 = h.2 := rfl
  have fr : ∀ i, (i < k ∨ k + 3 ≤ i) → h.1 i = h.1 i := fun _ _ => rfl
  refine xa_aload_n (pc := 0) dX3_answer_0 rfl ?_
  refine xa_getfield (pc := 1) dX3_answer_1 flRX3_21 (by omega) (by omega) hE0 rfl ?_
  refine xa_getfield (pc := 4) dX3_answer_4 flRX3_131 (by omega) (by omega) hB0 rfl ?_
  refine xa_ineg (pc := 7) dX3_answer_7 ?_
  refine xa_istorew (pc := 8) [some (xa_r k), some (xa_i tu), some (xa_i st), some (xa_i bh), some (xa_i (-ri)), none] dX3_answer_8 (by decide) (Nat.le_of_ble_eq_true rfl) rfl rfl ?_
  exact c_answer_loop hk hkl hkb hkk hri htu hbh htk ((ri + 1 - -ri).toNat + 1) (-ri) tk en _ h (by omega) (by omega) (aR_0 ri tu bh st tk en) htk rfl hkn hkl2 hE0 hE1 hE2 hE3 hB0 (fun _ _ => rfl)
