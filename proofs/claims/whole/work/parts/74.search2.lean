/-! Search: a state is linked, the next is taken -/
theorem c_enqueue {G : xa_G} {h : xa_H} (k kb kl kbr kam nl nb na ns : Nat) (tk en lk pl lw br am : Nat → Int) (rdy op fi lo ti sj fs lst : Int) (y z : Nat) (pa jo wa sr pu ri : Int) (hk : 2 ≤ k) (hkn : k + 11 < h.2) (hkl : k + 12 ≤ kl ∨ kl = k + 3) (hkl2 : kl < h.2) (hkbr : k + 12 ≤ kbr ∨ kbr = k + 7) (hkbr2 : kbr < h.2) (hkam : k + 12 ≤ kam ∨ kam = k + 8) (hkam2 : kam < h.2) (hkq : kbr ≠ kam ∧ kl ≠ kbr ∧ kl ≠ kam) (hkb : 2 ≤ kb) (hkk : kb + 3 ≤ k) (hri : 0 ≤ ri ∧ ri ≤ 90) (hti : 0 ≤ ti ∧ ti < 200) (hfs : xa_ok fs) (hls : xa_ok lst) (hy : y < 583200) (hz : z < nl) (hnl : nl ≤ 583200) (htk : ∀ t, t < 360 → -1 ≤ tk t ∧ tk t ≤ 1000) (hE0 : h.1 k = xa_o 3 [xa_r kb, xa_r (k + 4), xa_r (k + 1), xa_r (k + 2), xa_r kl, xa_i rdy, xa_i op, xa_i fi, xa_i ((z : Nat) : Int), xa_i lo, xa_i ti, xa_i ((sC tk : Nat) : Int)]) (hE1 : h.1 (k + 1) = xa_a 360 tk) (hE2 : h.1 (k + 2) = xa_a 360 en) (hE3 : h.1 kl = xa_a nl lk) (hT0 : h.1 (k + 4) = xa_o 6 [xa_r kb, xa_r (k + 4 + 5), xa_i sj, xa_r (k + 4 + 1), xa_r (k + 4 + 2), xa_i ((ns : Nat) : Int), xa_i fs, xa_i lst, xa_r kbr, xa_r kam]) (hT1 : h.1 (k + 4 + 1) = xa_a 2 pl) (hT2 : h.1 (k + 4 + 2) = xa_a 2 lw) (hT3 : h.1 kbr = xa_a nb br) (hT4 : h.1 kam = xa_a na am) (hB0 : h.1 kb = xa_o 0 [xa_r (kb + 1), xa_r (kb + 2), xa_i pa, xa_i jo, xa_i wa, xa_i sr, xa_i pu, xa_i ri]) : xa_M G mX3_enqueue [xa_r k, xa_i ((y : Nat) : Int)] h 0 0 (fun r h' => r = none ∧ (∃ tk' en' : Nat → Int, h'.1 k = xa_o 3 [xa_r kb, xa_r (k + 4), xa_r (k + 1), xa_r (k + 2), xa_r kl, xa_i rdy, xa_i op, xa_i fi, xa_i ((y : Nat) : Int), xa_i lo, xa_i ti, xa_i ((sC tk' : Nat) : Int)] ∧ h'.1 (k + 1) = xa_a 360 tk' ∧ h'.1 (k + 2) = xa_a 360 en' ∧ h'.1 kl = xa_a nl (xa_upf lk z (xa_or (xa_and (lk z) (-1048576)) ((y : Nat) : Int))) ∧ (∀ t, t < 360 → -1 ≤ tk' t ∧ tk' t ≤ 1000) ∧ ((fs ≤ ((y : Nat) : Int) / 360 ∧ ((y : Nat) : Int) / 360 ≤ lst) → aR ri (((y : Nat) : Int) % 360) (ti + 1) ((y : Nat) : Int) tk en tk' en' (ri + 1)) ∧ (¬ (fs ≤ ((y : Nat) : Int) / 360 ∧ ((y : Nat) : Int) / 360 ≤ lst) → tk' = tk ∧ en' = en)) ∧ h'.2 = h.2 ∧ ∀ i, ((i < k ∨ k + 3 ≤ i) ∧ i ≠ kl) → h'.1 i = h.1 i) := by
  refine xa_enter (by decide +kernel) (Nat.le_of_ble_eq_true rfl) ?_
  refine xa_locals (ls' := [some (xa_r k), some (xa_i ((y : Nat) : Int))]) rfl ?_
  have hn : h.2 = h.2 := rfl
  have fr : ∀ i, ((i < k ∨ k + 3 ≤ i) ∧ i ≠ kl) → h.1 i = h.1 i := fun _ _ => rfl
  refine xa_aload_n (pc := 0) dX3_enqueue_0 rfl ?_
  refine xa_getfield (pc := 1) dX3_enqueue_1 flRX3_98 (by omega) (by omega) hE0 rfl ?_
  refine xa_if_lt (pc := 4) (tgt := 42) dX3_enqueue_4 (by decide) ⟨by omega, by omega⟩ (fun c_4 => ?_) (fun c_4 => ?_)
  · skip
    exfalso; omega
  · skip
    refine xa_aload_n (pc := 7) dX3_enqueue_7 rfl ?_
    refine xa_getfield (pc := 8) dX3_enqueue_8 flRX3_98 (by omega) (by omega) hE0 rfl ?_
    refine xa_aload_n (pc := 11) dX3_enqueue_11 rfl ?_
    refine xa_getfield (pc := 12) dX3_enqueue_12 flRX3_18 (by omega) (by omega) hE0 rfl ?_
    refine xa_alen (pc := 15) dX3_enqueue_15 (by omega) hE3 ?_
    refine xa_icmp_ge (pc := 16) (tgt := 42) dX3_enqueue_16 (by decide) ⟨by omega, by omega⟩ ⟨by omega, by omega⟩ (fun c_16 => ?_) (fun c_16 => ?_)
    · skip
      exfalso; omega
    · skip
      refine xa_aload_n (pc := 19) dX3_enqueue_19 rfl ?_
      refine xa_getfield (pc := 20) dX3_enqueue_20 flRX3_18 (by omega) (by omega) hE0 rfl ?_
      refine xa_aload_n (pc := 23) dX3_enqueue_23 rfl ?_
      refine xa_getfield (pc := 24) dX3_enqueue_24 flRX3_98 (by omega) (by omega) hE0 rfl ?_
      refine xa_aload_n (pc := 27) dX3_enqueue_27 rfl ?_
      refine xa_getfield (pc := 28) dX3_enqueue_28 flRX3_18 (by omega) (by omega) hE0 rfl ?_
      refine xa_aload_n (pc := 31) dX3_enqueue_31 rfl ?_
      refine xa_getfield (pc := 32) dX3_enqueue_32 flRX3_98 (by omega) (by omega) hE0 rfl ?_
      refine xa_ialdw (pc := 35) z dX3_enqueue_35 (by omega) hE3 (by omega) (by omega) (Int.toNat_natCast _) ?_
      refine xa_ldc (pc := 36) (n := -1048576) dX3_enqueue_36 ctRX3_126 rfl ?_
      refine xa_iand (pc := 38) dX3_enqueue_38 ?_
      refine xa_iload_n (pc := 39) dX3_enqueue_39 rfl ?_
      refine xa_ior (pc := 40) dX3_enqueue_40 ?_
      refine xa_iastw (pc := 41) z dX3_enqueue_41 (by omega) (by omega) hE3 (by omega) (by omega) (Int.toNat_natCast _) (fun h1 nh1 ch1 oh1 => ?_)
      have hE3 : h1.1 kl = xa_a nl (xa_upf lk z (xa_or (xa_and (lk z) (-1048576)) ((y : Nat) : Int))) := ch1
      have hE0 : h1.1 k = xa_o 3 [xa_r kb, xa_r (k + 4), xa_r (k + 1), xa_r (k + 2), xa_r kl, xa_i rdy, xa_i op, xa_i fi, xa_i ((z : Nat) : Int), xa_i lo, xa_i ti, xa_i ((sC tk : Nat) : Int)] := (oh1 _ (by omega)).trans hE0
      have hE1 : h1.1 (k + 1) = xa_a 360 tk := (oh1 _ (by omega)).trans hE1
      have hE2 : h1.1 (k + 2) = xa_a 360 en := (oh1 _ (by omega)).trans hE2
      have hT0 : h1.1 (k + 4) = xa_o 6 [xa_r kb, xa_r (k + 4 + 5), xa_i sj, xa_r (k + 4 + 1), xa_r (k + 4 + 2), xa_i ((ns : Nat) : Int), xa_i fs, xa_i lst, xa_r kbr, xa_r kam] := (oh1 _ (by omega)).trans hT0
      have hT1 : h1.1 (k + 4 + 1) = xa_a 2 pl := (oh1 _ (by omega)).trans hT1
      have hT2 : h1.1 (k + 4 + 2) = xa_a 2 lw := (oh1 _ (by omega)).trans hT2
      have hT3 : h1.1 kbr = xa_a nb br := (oh1 _ (by omega)).trans hT3
      have hT4 : h1.1 kam = xa_a na am := (oh1 _ (by omega)).trans hT4
      have hB0 : h1.1 kb = xa_o 0 [xa_r (kb + 1), xa_r (kb + 2), xa_i pa, xa_i jo, xa_i wa, xa_i sr, xa_i pu, xa_i ri] := (oh1 _ (by omega)).trans hB0
      have hn : h1.2 = h.2 := nh1.trans hn
      have fr : ∀ i, ((i < k ∨ k + 3 ≤ i) ∧ i ≠ kl) → h1.1 i = h.1 i := fun i hi => (oh1 i (by omega)).trans (fr i hi)
      refine xa_aload_n (pc := 42) dX3_enqueue_42 rfl ?_
      refine xa_iload_n (pc := 43) dX3_enqueue_43 rfl ?_
      refine xa_putw (pc := 44) [xa_r kb, xa_r (k + 4), xa_r (k + 1), xa_r (k + 2), xa_r kl, xa_i rdy, xa_i op, xa_i fi, xa_i ((y : Nat) : Int), xa_i lo, xa_i ti, xa_i ((sC tk : Nat) : Int)] dX3_enqueue_44 flRX3_98 plX3_8 (by omega) (by omega) hE0 trivial rfl (fun h2 nh2 ch2 oh2 => ?_)
      have hE0 : h2.1 k = xa_o 3 [xa_r kb, xa_r (k + 4), xa_r (k + 1), xa_r (k + 2), xa_r kl, xa_i rdy, xa_i op, xa_i fi, xa_i ((y : Nat) : Int), xa_i lo, xa_i ti, xa_i ((sC tk : Nat) : Int)] := ch2
      have hE1 : h2.1 (k + 1) = xa_a 360 tk := (oh2 _ (by omega)).trans hE1
      have hE2 : h2.1 (k + 2) = xa_a 360 en := (oh2 _ (by omega)).trans hE2
      have hE3 : h2.1 kl = xa_a nl (xa_upf lk z (xa_or (xa_and (lk z) (-1048576)) ((y : Nat) : Int))) := (oh2 _ (by omega)).trans hE3
      have hT0 : h2.1 (k + 4) = xa_o 6 [xa_r kb, xa_r (k + 4 + 5), xa_i sj, xa_r (k + 4 + 1), xa_r (k + 4 + 2), xa_i ((ns : Nat) : Int), xa_i fs, xa_i lst, xa_r kbr, xa_r kam] := (oh2 _ (by omega)).trans hT0
      have hT1 : h2.1 (k + 4 + 1) = xa_a 2 pl := (oh2 _ (by omega)).trans hT1
      have hT2 : h2.1 (k + 4 + 2) = xa_a 2 lw := (oh2 _ (by omega)).trans hT2
      have hT3 : h2.1 kbr = xa_a nb br := (oh2 _ (by omega)).trans hT3
      have hT4 : h2.1 kam = xa_a na am := (oh2 _ (by omega)).trans hT4
      have hB0 : h2.1 kb = xa_o 0 [xa_r (kb + 1), xa_r (kb + 2), xa_i pa, xa_i jo, xa_i wa, xa_i sr, xa_i pu, xa_i ri] := (oh2 _ (by omega)).trans hB0
      have hn : h2.2 = h.2 := nh2.trans hn
      have fr : ∀ i, ((i < k ∨ k + 3 ≤ i) ∧ i ≠ kl) → h2.1 i = h.1 i := fun i hi => (oh2 i (by omega)).trans (fr i hi)
      refine xa_aload_n (pc := 47) dX3_enqueue_47 rfl ?_
      refine xa_getfield (pc := 48) dX3_enqueue_48 flRX3_30 (by omega) (by omega) hE0 rfl ?_
      refine xa_iload_n (pc := 51) dX3_enqueue_51 rfl ?_
      refine xa_sipush (pc := 52) dX3_enqueue_52 rfl ?_
      refine xa_idivn (pc := 55) dX3_enqueue_55 ⟨by omega, by omega⟩ (by decide) (by omega) (by omega) ?_
      refine xa_callV (pc := 56) (as := [xa_i (((y : Nat) : Int) / 360)]) (rest := []) dX3_enqueue_56 ⟨qX6_isStraightAt.1, qX6_isStraightAt.2.1, qX6_isStraightAt.2.2, by decide, by decide⟩ lkRX3_127 imX6_isStraightAt seX6_isStraightAt rfl rfl (by omega) (by omega) hT0 rfl (Nat.le_of_ble_eq_true rfl) (Nat.zero_le _) (Nat.zero_le _) (c_isStraightAt _ _ _ _ _ _ _ _ _ _ _ _ _ _ (by omega) (by omega) (by omega) (by omega) _ (by omega) hfs hls hT0 hT1 hT2 hT3 hT4) (fun r h' hq => ?_)
      obtain ⟨rfl, hq⟩ := hq
      have hq := hq.symm
      subst hq
      refine xa_if_eq (pc := 59) (tgt := 78) dX3_enqueue_59 (by decide) xa_okb (fun c_59 => ?_) (fun c_59 => ?_)
      · have c_59 := xa_b0.mp c_59
        refine xa_return (pc := 78) dX3_enqueue_78 rfl ?_
        exact ⟨rfl, ⟨tk, en, hE0, hE1, hE2, hE3, htk, fun q => absurd q c_59, fun _ => ⟨rfl, rfl⟩⟩, hn, fr⟩
      · have c_59 := xa_b1.mp c_59
        refine xa_aload_n (pc := 62) dX3_enqueue_62 rfl ?_
        refine xa_iload_n (pc := 63) dX3_enqueue_63 rfl ?_
        refine xa_sipush (pc := 64) dX3_enqueue_64 rfl ?_
        refine xa_iremn (pc := 67) dX3_enqueue_67 ⟨by omega, by omega⟩ (by decide) (by omega) (by omega) ?_
        refine xa_iload_n (pc := 68) dX3_enqueue_68 rfl ?_
        refine xa_aload_n (pc := 69) dX3_enqueue_69 rfl ?_
        refine xa_getfield (pc := 70) dX3_enqueue_70 flRX3_48 (by omega) (by omega) hE0 rfl ?_
        refine xa_iconst (pc := 73) dX3_enqueue_73 ?_
        refine xa_iadd (pc := 74) dX3_enqueue_74 ?_
        refine xa_callV (pc := 75) (as := [xa_i (((y : Nat) : Int) % 360), xa_i ((y : Nat) : Int), xa_i (ti + 1)]) (rest := []) dX3_enqueue_75 ⟨qX3_answer.1, qX3_answer.2.1, qX3_answer.2.2, by decide, by decide⟩ lkRX3_105 imX3_answer seX3_answer rfl rfl (by omega) (by omega) hE0 rfl (Nat.le_of_ble_eq_true rfl) (Nat.zero_le _) (Nat.zero_le _) (c_answer _ _ _ _ _ _ _ _ _ _ _ _ _ _ _ _ _ _ _ _ _ _ (by omega) (by omega) (by omega) (by omega) (by omega) (by omega) hri (by omega) (by omega) htk hE0 hE1 hE2 hE3 hB0) (fun r h' hq => ?_)
        obtain ⟨rfl, ⟨tk', en', hR, htk', hE0, hE1, hE2⟩, hqn, hqf⟩ := hq
        have hE0 : h'.1 k = xa_o 3 [xa_r kb, xa_r (k + 4), xa_r (k + 1), xa_r (k + 2), xa_r kl, xa_i rdy, xa_i op, xa_i fi, xa_i ((y : Nat) : Int), xa_i lo, xa_i ti, xa_i ((sC tk' : Nat) : Int)] := hE0
        have hE1 : h'.1 (k + 1) = xa_a 360 tk' := hE1
        have hE2 : h'.1 (k + 2) = xa_a 360 en' := hE2
        have hE3 : h'.1 kl = xa_a nl (xa_upf lk z (xa_or (xa_and (lk z) (-1048576)) ((y : Nat) : Int))) := (hqf _ (by omega)).trans hE3
        have hT0 : h'.1 (k + 4) = xa_o 6 [xa_r kb, xa_r (k + 4 + 5), xa_i sj, xa_r (k + 4 + 1), xa_r (k + 4 + 2), xa_i ((ns : Nat) : Int), xa_i fs, xa_i lst, xa_r kbr, xa_r kam] := (hqf _ (by omega)).trans hT0
        have hT1 : h'.1 (k + 4 + 1) = xa_a 2 pl := (hqf _ (by omega)).trans hT1
        have hT2 : h'.1 (k + 4 + 2) = xa_a 2 lw := (hqf _ (by omega)).trans hT2
        have hT3 : h'.1 kbr = xa_a nb br := (hqf _ (by omega)).trans hT3
        have hT4 : h'.1 kam = xa_a na am := (hqf _ (by omega)).trans hT4
        have hB0 : h'.1 kb = xa_o 0 [xa_r (kb + 1), xa_r (kb + 2), xa_i pa, xa_i jo, xa_i wa, xa_i sr, xa_i pu, xa_i ri] := (hqf _ (by omega)).trans hB0
        have hn : h'.2 = h.2 := hqn.trans hn
        have fr : ∀ i, ((i < k ∨ k + 3 ≤ i) ∧ i ≠ kl) → h'.1 i = h.1 i := fun i hi => (hqf i (by omega)).trans (fr i hi)
        refine xa_return (pc := 78) dX3_enqueue_78 rfl ?_
        exact ⟨rfl, ⟨tk', en', hE0, hE1, hE2, hE3, htk', fun _ => hR, fun q => absurd c_59 q⟩, hn, fr⟩
theorem c_goOn {G : xa_G} {h : xa_H} (k kb kl nl x y z a ac : Nat) (lk : Nat → Int) (rdy lo ti : Int) (hk : 2 ≤ k) (hkn : k + 11 < h.2) (hkl : k + 12 ≤ kl ∨ kl = k + 3) (hkl2 : kl < h.2) (hx : x < nl) (hnl : nl ≤ 583200) (hz : z < 583200) (hlo : xa_ok lo) (hti : 0 ≤ ti ∧ ti < 200) (hac : ac ≤ 360) (ha : a < 2048) (hy : y < 1048576) (hlk : x ≠ z → lk x = ((a : Nat) : Int) * 1048576 + ((y : Nat) : Int)) (hE0 : h.1 k = xa_o 3 [xa_r kb, xa_r (k + 4), xa_r (k + 1), xa_r (k + 2), xa_r kl, xa_i rdy, xa_i 1, xa_i ((x : Nat) : Int), xa_i ((z : Nat) : Int), xa_i lo, xa_i ti, xa_i ((ac : Nat) : Int)]) (hE3 : h.1 kl = xa_a nl lk) : xa_M G mX3_goOn [xa_r k] h 0 0 (fun r h' => r = none ∧ (∃ op' fi' lo' ti' : Int, h'.1 k = xa_o 3 [xa_r kb, xa_r (k + 4), xa_r (k + 1), xa_r (k + 2), xa_r kl, xa_i rdy, xa_i op', xa_i fi', xa_i ((z : Nat) : Int), xa_i lo', xa_i ti', xa_i ((ac : Nat) : Int)] ∧ ((((x : Nat) : Int) = lo ∧ ti' = ti + 1 ∧ lo' = ((z : Nat) : Int)) ∨ (¬ ((x : Nat) : Int) = lo ∧ ti' = ti ∧ lo' = lo)) ∧ (((((x : Nat) : Int) = ((z : Nat) : Int) ∨ 200 ≤ ti' ∨ 360 ≤ ((ac : Nat) : Int)) ∧ op' = 0) ∨ (¬ (((x : Nat) : Int) = ((z : Nat) : Int) ∨ 200 ≤ ti' ∨ 360 ≤ ((ac : Nat) : Int)) ∧ op' = 1 ∧ fi' = ((y : Nat) : Int)))) ∧ h'.2 = h.2 ∧ ∀ i, i ≠ k → h'.1 i = h.1 i) := by
  refine xa_enter (by decide +kernel) (Nat.le_of_ble_eq_true rfl) ?_
  refine xa_locals (ls' := [some (xa_r k)]) rfl ?_
  have hn : h.2 = h.2 := rfl
  have fr : ∀ i, i ≠ k → h.1 i = h.1 i := fun _ _ => rfl
  refine xa_aload_n (pc := 0) dX3_goOn_0 rfl ?_
  refine xa_getfield (pc := 1) dX3_goOn_1 flRX3_95 (by omega) (by omega) hE0 rfl ?_
  refine xa_aload_n (pc := 4) dX3_goOn_4 rfl ?_
  refine xa_getfield (pc := 5) dX3_goOn_5 flRX3_101 (by omega) (by omega) hE0 rfl ?_
  refine xa_icmp_ne (pc := 8) (tgt := 29) dX3_goOn_8 (by decide) ⟨by omega, by omega⟩ ⟨by omega, by omega⟩ (fun c_8 => ?_) (fun c_8 => ?_)
  · skip
    refine xa_aload_n (pc := 29) dX3_goOn_29 rfl ?_
    refine xa_getfield (pc := 30) dX3_goOn_30 flRX3_95 (by omega) (by omega) hE0 rfl ?_
    refine xa_aload_n (pc := 33) dX3_goOn_33 rfl ?_
    refine xa_getfield (pc := 34) dX3_goOn_34 flRX3_98 (by omega) (by omega) hE0 rfl ?_
    refine xa_icmp_eq (pc := 37) (tgt := 79) dX3_goOn_37 (by decide) ⟨by omega, by omega⟩ ⟨by omega, by omega⟩ (fun c_37 => ?_) (fun c_37 => ?_)
    · skip
      refine xa_aload_n (pc := 79) dX3_goOn_79 rfl ?_
      refine xa_iconst (pc := 80) dX3_goOn_80 ?_
      refine xa_putw (pc := 81) [xa_r kb, xa_r (k + 4), xa_r (k + 1), xa_r (k + 2), xa_r kl, xa_i rdy, xa_i 0, xa_i ((x : Nat) : Int), xa_i ((z : Nat) : Int), xa_i lo, xa_i ti, xa_i ((ac : Nat) : Int)] dX3_goOn_81 flRX3_42 plX3_6 (by omega) (by omega) hE0 (Or.inl rfl) rfl (fun h1 nh1 ch1 oh1 => ?_)
      have hE0 : h1.1 k = xa_o 3 [xa_r kb, xa_r (k + 4), xa_r (k + 1), xa_r (k + 2), xa_r kl, xa_i rdy, xa_i 0, xa_i ((x : Nat) : Int), xa_i ((z : Nat) : Int), xa_i lo, xa_i ti, xa_i ((ac : Nat) : Int)] := ch1
      have hE3 : h1.1 kl = xa_a nl lk := (oh1 _ (by omega)).trans hE3
      have hn : h1.2 = h.2 := nh1.trans hn
      have fr : ∀ i, i ≠ k → h1.1 i = h.1 i := fun i hi => (oh1 i (by omega)).trans (fr i hi)
      refine xa_goto (pc := 84) (tgt := 103) dX3_goOn_84 (by decide) ?_
      refine xa_return (pc := 103) dX3_goOn_103 rfl ?_
      exact ⟨rfl, ⟨_, _, _, _, hE0, by omega, by omega⟩, hn, fr⟩
    · skip
      refine xa_aload_n (pc := 40) dX3_goOn_40 rfl ?_
      refine xa_getfield (pc := 41) dX3_goOn_41 flRX3_48 (by omega) (by omega) hE0 rfl ?_
      refine xa_sipush (pc := 44) dX3_goOn_44 rfl ?_
      refine xa_icmp_ge (pc := 47) (tgt := 79) dX3_goOn_47 (by decide) ⟨by omega, by omega⟩ (by decide) (fun c_47 => ?_) (fun c_47 => ?_)
      · skip
        refine xa_aload_n (pc := 79) dX3_goOn_79 rfl ?_
        refine xa_iconst (pc := 80) dX3_goOn_80 ?_
        refine xa_putw (pc := 81) [xa_r kb, xa_r (k + 4), xa_r (k + 1), xa_r (k + 2), xa_r kl, xa_i rdy, xa_i 0, xa_i ((x : Nat) : Int), xa_i ((z : Nat) : Int), xa_i lo, xa_i ti, xa_i ((ac : Nat) : Int)] dX3_goOn_81 flRX3_42 plX3_6 (by omega) (by omega) hE0 (Or.inl rfl) rfl (fun h2 nh2 ch2 oh2 => ?_)
        have hE0 : h2.1 k = xa_o 3 [xa_r kb, xa_r (k + 4), xa_r (k + 1), xa_r (k + 2), xa_r kl, xa_i rdy, xa_i 0, xa_i ((x : Nat) : Int), xa_i ((z : Nat) : Int), xa_i lo, xa_i ti, xa_i ((ac : Nat) : Int)] := ch2
        have hE3 : h2.1 kl = xa_a nl lk := (oh2 _ (by omega)).trans hE3
        have hn : h2.2 = h.2 := nh2.trans hn
        have fr : ∀ i, i ≠ k → h2.1 i = h.1 i := fun i hi => (oh2 i (by omega)).trans (fr i hi)
        refine xa_goto (pc := 84) (tgt := 103) dX3_goOn_84 (by decide) ?_
        refine xa_return (pc := 103) dX3_goOn_103 rfl ?_
        exact ⟨rfl, ⟨_, _, _, _, hE0, by omega, by omega⟩, hn, fr⟩
      · skip
        refine xa_aload_n (pc := 50) dX3_goOn_50 rfl ?_
        refine xa_getfield (pc := 51) dX3_goOn_51 flRX3_88 (by omega) (by omega) hE0 rfl ?_
        refine xa_sipush (pc := 54) dX3_goOn_54 rfl ?_
        refine xa_icmp_ge (pc := 57) (tgt := 79) dX3_goOn_57 (by decide) ⟨by omega, by omega⟩ (by decide) (fun c_57 => ?_) (fun c_57 => ?_)
        · skip
          refine xa_aload_n (pc := 79) dX3_goOn_79 rfl ?_
          refine xa_iconst (pc := 80) dX3_goOn_80 ?_
          refine xa_putw (pc := 81) [xa_r kb, xa_r (k + 4), xa_r (k + 1), xa_r (k + 2), xa_r kl, xa_i rdy, xa_i 0, xa_i ((x : Nat) : Int), xa_i ((z : Nat) : Int), xa_i lo, xa_i ti, xa_i ((ac : Nat) : Int)] dX3_goOn_81 flRX3_42 plX3_6 (by omega) (by omega) hE0 (Or.inl rfl) rfl (fun h3 nh3 ch3 oh3 => ?_)
          have hE0 : h3.1 k = xa_o 3 [xa_r kb, xa_r (k + 4), xa_r (k + 1), xa_r (k + 2), xa_r kl, xa_i rdy, xa_i 0, xa_i ((x : Nat) : Int), xa_i ((z : Nat) : Int), xa_i lo, xa_i ti, xa_i ((ac : Nat) : Int)] := ch3
          have hE3 : h3.1 kl = xa_a nl lk := (oh3 _ (by omega)).trans hE3
          have hn : h3.2 = h.2 := nh3.trans hn
          have fr : ∀ i, i ≠ k → h3.1 i = h.1 i := fun i hi => (oh3 i (by omega)).trans (fr i hi)
          refine xa_goto (pc := 84) (tgt := 103) dX3_goOn_84 (by decide) ?_
          refine xa_return (pc := 103) dX3_goOn_103 rfl ?_
          exact ⟨rfl, ⟨_, _, _, _, hE0, by omega, by omega⟩, hn, fr⟩
        · skip
          refine xa_aload_n (pc := 60) dX3_goOn_60 rfl ?_
          refine xa_getfield (pc := 61) dX3_goOn_61 flRX3_95 (by omega) (by omega) hE0 rfl ?_
          refine xa_if_lt (pc := 64) (tgt := 79) dX3_goOn_64 (by decide) ⟨by omega, by omega⟩ (fun c_64 => ?_) (fun c_64 => ?_)
          · skip
            exfalso; omega
          · skip
            refine xa_aload_n (pc := 67) dX3_goOn_67 rfl ?_
            refine xa_getfield (pc := 68) dX3_goOn_68 flRX3_95 (by omega) (by omega) hE0 rfl ?_
            refine xa_aload_n (pc := 71) dX3_goOn_71 rfl ?_
            refine xa_getfield (pc := 72) dX3_goOn_72 flRX3_18 (by omega) (by omega) hE0 rfl ?_
            refine xa_alen (pc := 75) dX3_goOn_75 (by omega) hE3 ?_
            refine xa_icmp_lt (pc := 76) (tgt := 87) dX3_goOn_76 (by decide) ⟨by omega, by omega⟩ ⟨by omega, by omega⟩ (fun c_76 => ?_) (fun c_76 => ?_)
            · skip
              refine xa_aload_n (pc := 87) dX3_goOn_87 rfl ?_
              refine xa_aload_n (pc := 88) dX3_goOn_88 rfl ?_
              refine xa_getfield (pc := 89) dX3_goOn_89 flRX3_18 (by omega) (by omega) hE0 rfl ?_
              refine xa_aload_n (pc := 92) dX3_goOn_92 rfl ?_
              refine xa_getfield (pc := 93) dX3_goOn_93 flRX3_95 (by omega) (by omega) hE0 rfl ?_
              refine xa_ialdw (pc := 96) x dX3_goOn_96 (by omega) hE3 (by omega) (by omega) (Int.toNat_natCast _) ?_
              refine xa_ldc (pc := 97) (n := 1048575) dX3_goOn_97 ctRX3_104 rfl ?_
              refine xa_iand (pc := 99) dX3_goOn_99 ?_
              refine xa_top (y := ((y : Nat) : Int)) (by rw [hlk (by omega)]; exact lk_low ha hy) ?_
              refine xa_putw (pc := 100) [xa_r kb, xa_r (k + 4), xa_r (k + 1), xa_r (k + 2), xa_r kl, xa_i rdy, xa_i 1, xa_i ((y : Nat) : Int), xa_i ((z : Nat) : Int), xa_i lo, xa_i ti, xa_i ((ac : Nat) : Int)] dX3_goOn_100 flRX3_95 plX3_7 (by omega) (by omega) hE0 trivial rfl (fun h4 nh4 ch4 oh4 => ?_)
              have hE0 : h4.1 k = xa_o 3 [xa_r kb, xa_r (k + 4), xa_r (k + 1), xa_r (k + 2), xa_r kl, xa_i rdy, xa_i 1, xa_i ((y : Nat) : Int), xa_i ((z : Nat) : Int), xa_i lo, xa_i ti, xa_i ((ac : Nat) : Int)] := ch4
              have hE3 : h4.1 kl = xa_a nl lk := (oh4 _ (by omega)).trans hE3
              have hn : h4.2 = h.2 := nh4.trans hn
              have fr : ∀ i, i ≠ k → h4.1 i = h.1 i := fun i hi => (oh4 i (by omega)).trans (fr i hi)
              refine xa_return (pc := 103) dX3_goOn_103 rfl ?_
              exact ⟨rfl, ⟨_, _, _, _, hE0, by omega, by omega⟩, hn, fr⟩
            · skip
              exfalso; omega
  · skip
    refine xa_aload_n (pc := 11) dX3_goOn_11 rfl ?_
    refine xa_dup (pc := 12) dX3_goOn_12 rfl ?_
    refine xa_getfield (pc := 13) dX3_goOn_13 flRX3_48 (by omega) (by omega) hE0 rfl ?_
    refine xa_iconst (pc := 16) dX3_goOn_16 ?_
    refine xa_iadd (pc := 17) dX3_goOn_17 ?_
    refine xa_putw (pc := 18) [xa_r kb, xa_r (k + 4), xa_r (k + 1), xa_r (k + 2), xa_r kl, xa_i rdy, xa_i 1, xa_i ((x : Nat) : Int), xa_i ((z : Nat) : Int), xa_i lo, xa_i (ti + 1), xa_i ((ac : Nat) : Int)] dX3_goOn_18 flRX3_48 plX3_10 (by omega) (by omega) hE0 trivial rfl (fun h5 nh5 ch5 oh5 => ?_)
    have hE0 : h5.1 k = xa_o 3 [xa_r kb, xa_r (k + 4), xa_r (k + 1), xa_r (k + 2), xa_r kl, xa_i rdy, xa_i 1, xa_i ((x : Nat) : Int), xa_i ((z : Nat) : Int), xa_i lo, xa_i (ti + 1), xa_i ((ac : Nat) : Int)] := ch5
    have hE3 : h5.1 kl = xa_a nl lk := (oh5 _ (by omega)).trans hE3
    have hn : h5.2 = h.2 := nh5.trans hn
    have fr : ∀ i, i ≠ k → h5.1 i = h.1 i := fun i hi => (oh5 i (by omega)).trans (fr i hi)
    refine xa_aload_n (pc := 21) dX3_goOn_21 rfl ?_
    refine xa_aload_n (pc := 22) dX3_goOn_22 rfl ?_
    refine xa_getfield (pc := 23) dX3_goOn_23 flRX3_98 (by omega) (by omega) hE0 rfl ?_
    refine xa_putw (pc := 26) [xa_r kb, xa_r (k + 4), xa_r (k + 1), xa_r (k + 2), xa_r kl, xa_i rdy, xa_i 1, xa_i ((x : Nat) : Int), xa_i ((z : Nat) : Int), xa_i ((z : Nat) : Int), xa_i (ti + 1), xa_i ((ac : Nat) : Int)] dX3_goOn_26 flRX3_101 plX3_9 (by omega) (by omega) hE0 trivial rfl (fun h6 nh6 ch6 oh6 => ?_)
    have hE0 : h6.1 k = xa_o 3 [xa_r kb, xa_r (k + 4), xa_r (k + 1), xa_r (k + 2), xa_r kl, xa_i rdy, xa_i 1, xa_i ((x : Nat) : Int), xa_i ((z : Nat) : Int), xa_i ((z : Nat) : Int), xa_i (ti + 1), xa_i ((ac : Nat) : Int)] := ch6
    have hE3 : h6.1 kl = xa_a nl lk := (oh6 _ (by omega)).trans hE3
    have hn : h6.2 = h.2 := nh6.trans hn
    have fr : ∀ i, i ≠ k → h6.1 i = h.1 i := fun i hi => (oh6 i (by omega)).trans (fr i hi)
    refine xa_aload_n (pc := 29) dX3_goOn_29 rfl ?_
    refine xa_getfield (pc := 30) dX3_goOn_30 flRX3_95 (by omega) (by omega) hE0 rfl ?_
    refine xa_aload_n (pc := 33) dX3_goOn_33 rfl ?_
    refine xa_getfield (pc := 34) dX3_goOn_34 flRX3_98 (by omega) (by omega) hE0 rfl ?_
    refine xa_icmp_eq (pc := 37) (tgt := 79) dX3_goOn_37 (by decide) ⟨by omega, by omega⟩ ⟨by omega, by omega⟩ (fun c_37 => ?_) (fun c_37 => ?_)
    · skip
      refine xa_aload_n (pc := 79) dX3_goOn_79 rfl ?_
      refine xa_iconst (pc := 80) dX3_goOn_80 ?_
      refine xa_putw (pc := 81) [xa_r kb, xa_r (k + 4), xa_r (k + 1), xa_r (k + 2), xa_r kl, xa_i rdy, xa_i 0, xa_i ((x : Nat) : Int), xa_i ((z : Nat) : Int), xa_i ((z : Nat) : Int), xa_i (ti + 1), xa_i ((ac : Nat) : Int)] dX3_goOn_81 flRX3_42 plX3_6 (by omega) (by omega) hE0 (Or.inl rfl) rfl (fun h7 nh7 ch7 oh7 => ?_)
      have hE0 : h7.1 k = xa_o 3 [xa_r kb, xa_r (k + 4), xa_r (k + 1), xa_r (k + 2), xa_r kl, xa_i rdy, xa_i 0, xa_i ((x : Nat) : Int), xa_i ((z : Nat) : Int), xa_i ((z : Nat) : Int), xa_i (ti + 1), xa_i ((ac : Nat) : Int)] := ch7
      have hE3 : h7.1 kl = xa_a nl lk := (oh7 _ (by omega)).trans hE3
      have hn : h7.2 = h.2 := nh7.trans hn
      have fr : ∀ i, i ≠ k → h7.1 i = h.1 i := fun i hi => (oh7 i (by omega)).trans (fr i hi)
      refine xa_goto (pc := 84) (tgt := 103) dX3_goOn_84 (by decide) ?_
      refine xa_return (pc := 103) dX3_goOn_103 rfl ?_
      exact ⟨rfl, ⟨_, _, _, _, hE0, by omega, by omega⟩, hn, fr⟩
    · skip
      refine xa_aload_n (pc := 40) dX3_goOn_40 rfl ?_
      refine xa_getfield (pc := 41) dX3_goOn_41 flRX3_48 (by omega) (by omega) hE0 rfl ?_
      refine xa_sipush (pc := 44) dX3_goOn_44 rfl ?_
      refine xa_icmp_ge (pc := 47) (tgt := 79) dX3_goOn_47 (by decide) ⟨by omega, by omega⟩ (by decide) (fun c_47 => ?_) (fun c_47 => ?_)
      · skip
        refine xa_aload_n (pc := 79) dX3_goOn_79 rfl ?_
        refine xa_iconst (pc := 80) dX3_goOn_80 ?_
        refine xa_putw (pc := 81) [xa_r kb, xa_r (k + 4), xa_r (k + 1), xa_r (k + 2), xa_r kl, xa_i rdy, xa_i 0, xa_i ((x : Nat) : Int), xa_i ((z : Nat) : Int), xa_i ((z : Nat) : Int), xa_i (ti + 1), xa_i ((ac : Nat) : Int)] dX3_goOn_81 flRX3_42 plX3_6 (by omega) (by omega) hE0 (Or.inl rfl) rfl (fun h8 nh8 ch8 oh8 => ?_)
        have hE0 : h8.1 k = xa_o 3 [xa_r kb, xa_r (k + 4), xa_r (k + 1), xa_r (k + 2), xa_r kl, xa_i rdy, xa_i 0, xa_i ((x : Nat) : Int), xa_i ((z : Nat) : Int), xa_i ((z : Nat) : Int), xa_i (ti + 1), xa_i ((ac : Nat) : Int)] := ch8
        have hE3 : h8.1 kl = xa_a nl lk := (oh8 _ (by omega)).trans hE3
        have hn : h8.2 = h.2 := nh8.trans hn
        have fr : ∀ i, i ≠ k → h8.1 i = h.1 i := fun i hi => (oh8 i (by omega)).trans (fr i hi)
        refine xa_goto (pc := 84) (tgt := 103) dX3_goOn_84 (by decide) ?_
        refine xa_return (pc := 103) dX3_goOn_103 rfl ?_
        exact ⟨rfl, ⟨_, _, _, _, hE0, by omega, by omega⟩, hn, fr⟩
      · skip
        refine xa_aload_n (pc := 50) dX3_goOn_50 rfl ?_
        refine xa_getfield (pc := 51) dX3_goOn_51 flRX3_88 (by omega) (by omega) hE0 rfl ?_
        refine xa_sipush (pc := 54) dX3_goOn_54 rfl ?_
        refine xa_icmp_ge (pc := 57) (tgt := 79) dX3_goOn_57 (by decide) ⟨by omega, by omega⟩ (by decide) (fun c_57 => ?_) (fun c_57 => ?_)
        · skip
          refine xa_aload_n (pc := 79) dX3_goOn_79 rfl ?_
          refine xa_iconst (pc := 80) dX3_goOn_80 ?_
          refine xa_putw (pc := 81) [xa_r kb, xa_r (k + 4), xa_r (k + 1), xa_r (k + 2), xa_r kl, xa_i rdy, xa_i 0, xa_i ((x : Nat) : Int), xa_i ((z : Nat) : Int), xa_i ((z : Nat) : Int), xa_i (ti + 1), xa_i ((ac : Nat) : Int)] dX3_goOn_81 flRX3_42 plX3_6 (by omega) (by omega) hE0 (Or.inl rfl) rfl (fun h9 nh9 ch9 oh9 => ?_)
          have hE0 : h9.1 k = xa_o 3 [xa_r kb, xa_r (k + 4), xa_r (k + 1), xa_r (k + 2), xa_r kl, xa_i rdy, xa_i 0, xa_i ((x : Nat) : Int), xa_i ((z : Nat) : Int), xa_i ((z : Nat) : Int), xa_i (ti + 1), xa_i ((ac : Nat) : Int)] := ch9
          have hE3 : h9.1 kl = xa_a nl lk := (oh9 _ (by omega)).trans hE3
          have hn : h9.2 = h.2 := nh9.trans hn
          have fr : ∀ i, i ≠ k → h9.1 i = h.1 i := fun i hi => (oh9 i (by omega)).trans (fr i hi)
          refine xa_goto (pc := 84) (tgt := 103) dX3_goOn_84 (by decide) ?_
          refine xa_return (pc := 103) dX3_goOn_103 rfl ?_
          exact ⟨rfl, ⟨_, _, _, _, hE0, by omega, by omega⟩, hn, fr⟩
        · skip
          refine xa_aload_n (pc := 60) dX3_goOn_60 rfl ?_
          refine xa_getfield (pc := 61) dX3_goOn_61 flRX3_95 (by omega) (by omega) hE0 rfl ?_
          refine xa_if_lt (pc := 64) (tgt := 79) dX3_goOn_64 (by decide) ⟨by omega, by omega⟩ (fun c_64 => ?_) (fun c_64 => ?_)
          · skip
            exfalso; omega
          · skip
            refine xa_aload_n (pc := 67) dX3_goOn_67 rfl ?_
            refine xa_getfield (pc := 68) dX3_goOn_68 flRX3_95 (by omega) (by omega) hE0 rfl ?_
            refine xa_aload_n (pc := 71) dX3_goOn_71 rfl ?_
            refine xa_getfield (pc := 72) dX3_goOn_72 flRX3_18 (by omega) (by omega) hE0 rfl ?_
            refine xa_alen (pc := 75) dX3_goOn_75 (by omega) hE3 ?_
            refine xa_icmp_lt (pc := 76) (tgt := 87) dX3_goOn_76 (by decide) ⟨by omega, by omega⟩ ⟨by omega, by omega⟩ (fun c_76 => ?_) (fun c_76 => ?_)
            · skip
              refine xa_aload_n (pc := 87) dX3_goOn_87 rfl ?_
              refine xa_aload_n (pc := 88) dX3_goOn_88 rfl ?_
              refine xa_getfield (pc := 89) dX3_goOn_89 flRX3_18 (by omega) (by omega) hE0 rfl ?_
              refine xa_aload_n (pc := 92) dX3_goOn_92 rfl ?_
              refine xa_getfield (pc := 93) dX3_goOn_93 flRX3_95 (by omega) (by omega) hE0 rfl ?_
              refine xa_ialdw (pc := 96) x dX3_goOn_96 (by omega) hE3 (by omega) (by omega) (Int.toNat_natCast _) ?_
              refine xa_ldc (pc := 97) (n := 1048575) dX3_goOn_97 ctRX3_104 rfl ?_
              refine xa_iand (pc := 99) dX3_goOn_99 ?_
              refine xa_top (y := ((y : Nat) : Int)) (by rw [hlk (by omega)]; exact lk_low ha hy) ?_
              refine xa_putw (pc := 100) [xa_r kb, xa_r (k + 4), xa_r (k + 1), xa_r (k + 2), xa_r kl, xa_i rdy, xa_i 1, xa_i ((y : Nat) : Int), xa_i ((z : Nat) : Int), xa_i ((z : Nat) : Int), xa_i (ti + 1), xa_i ((ac : Nat) : Int)] dX3_goOn_100 flRX3_95 plX3_7 (by omega) (by omega) hE0 trivial rfl (fun h10 nh10 ch10 oh10 => ?_)
              have hE0 : h10.1 k = xa_o 3 [xa_r kb, xa_r (k + 4), xa_r (k + 1), xa_r (k + 2), xa_r kl, xa_i rdy, xa_i 1, xa_i ((y : Nat) : Int), xa_i ((z : Nat) : Int), xa_i ((z : Nat) : Int), xa_i (ti + 1), xa_i ((ac : Nat) : Int)] := ch10
              have hE3 : h10.1 kl = xa_a nl lk := (oh10 _ (by omega)).trans hE3
              have hn : h10.2 = h.2 := nh10.trans hn
              have fr : ∀ i, i ≠ k → h10.1 i = h.1 i := fun i hi => (oh10 i (by omega)).trans (fr i hi)
              refine xa_return (pc := 103) dX3_goOn_103 rfl ?_
              exact ⟨rfl, ⟨_, _, _, _, hE0, by omega, by omega⟩, hn, fr⟩
            · skip
              exfalso; omega
