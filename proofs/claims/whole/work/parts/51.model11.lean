/-! The model: turn, run, spun, times -/
/-- what the calls leave as it was -/
def msF (s s' : Nat → Int) : Prop := s' 0 = s 0 ∧ s' 13 = s 13 ∧ s' 20 = s 20
theorem c_kAt0 {G : xa_G} {h : xa_H} {k : Nat} {F : Nat → Nat → Int} {s : Nat → Int} {ld dg : Nat → Int} {pa jo : Nat} {wa sr pu ri : Int} (ho : mOk F ld dg pa jo wa sr pu ri) (hM : xM h k F s) {c : xCf} (hc : cf_ok pa jo wa sr c) : xa_M G mX10_stepAt [xa_r k, xa_i (mE jo wa sr c), xa_i 0] h 0 0 (fun r h' => r = some (xa_i (c.2.2.2.1 + cf_z jo wa 0)) ∧ h' = h) := c_kAt ho hM hc 0 (by decide)
theorem c_kAt1 {G : xa_G} {h : xa_H} {k : Nat} {F : Nat → Nat → Int} {s : Nat → Int} {ld dg : Nat → Int} {pa jo : Nat} {wa sr pu ri : Int} (ho : mOk F ld dg pa jo wa sr pu ri) (hM : xM h k F s) {c : xCf} (hc : cf_ok pa jo wa sr c) : xa_M G mX10_stepAt [xa_r k, xa_i (mE jo wa sr c), xa_i 1] h 0 0 (fun r h' => r = some (xa_i (c.2.2.2.2 + cf_z jo wa 1)) ∧ h' = h) := c_kAt ho hM hc 1 (by decide)
theorem c_mTurnOf {G : xa_G} {h : xa_H} {c : xCf} (k : Nat) (p : Int) (F : Nat → Nat → Int) (s : Nat → Int) (ld dg : Nat → Int) (pa jo : Nat) (wa sr pu ri : Int) (h17 : s 17 = mE jo wa sr c) (hc : cf_ok pa jo wa sr c) (hT : 0 ≤ s 18 ∧ s 18 ≤ 359) (ho : mOk F ld dg pa jo wa sr pu ri) (hp : 0 ≤ p ∧ p ≤ (pa : Int) - 1) (hM : xM h k F s)  : xa_M G mX10_turnOf [xa_r k, xa_i p] h 0 0 (fun r h' => r = some (xa_i ((s 18 + cf_bto dg c p) % 360)) ∧ h' = h) := by
  refine xa_enter (by decide +kernel) (Nat.le_of_ble_eq_true rfl) ?_
  refine xa_locals (ls' := [some (xa_r k), some (xa_i p), none, none]) rfl ?_
  obtain ⟨hM0, hM1, hM2, hM3, hM4, hM5, hM6, hM7, hM8, hM9, hM10, hM11, hM12, hM13, hM14, hM15, hM16, hMk, hMn⟩ := hM
  rw [h17] at hM0
  have hb0 := cf_in_b ho.1 hc.2.2.2.1
  have hb1 := cf_in_b ho.1 hc.2.2.2.2
  have hpa := ho.1.1
  refine xa_aload_n (pc := 0) dX10_turnOf_0 rfl ?_
  refine xa_getfield (pc := 1) dX10_turnOf_1 flRX10_167 (by omega) (by omega) hM0 rfl ?_
  refine xa_istoren (pc := 4) [some (xa_r k), some (xa_i p), some (xa_i (s 18)), none] dX10_turnOf_4 (by decide) (Nat.le_of_ble_eq_true rfl) rfl rfl ?_
  refine xa_iconst (pc := 5) dX10_turnOf_5 ?_
  refine xa_istoren (pc := 6) [some (xa_r k), some (xa_i p), some (xa_i (s 18)), some (xa_i 0)] dX10_turnOf_6 (by decide) (Nat.le_of_ble_eq_true rfl) rfl rfl ?_
  refine xa_iload_n (pc := 7) dX10_turnOf_7 rfl ?_
  refine xa_iload_n (pc := 8) dX10_turnOf_8 rfl ?_
  refine xa_icmp_ge (pc := 9) (tgt := 43) dX10_turnOf_9 (by decide) (by decide) ⟨by omega, by omega⟩ (fun c_9 => ?_) (fun c_9 => ?_)
  · skip
    refine xa_iload_n (pc := 43) dX10_turnOf_43 rfl ?_
    refine xa_callS (pc := 44) (as := [xa_i (s 18)]) (rest := []) dX10_turnOf_44 ⟨qX10_round.1, qX10_round.2.1, qX10_round.2.2, by decide, by decide⟩ lkRX10_179 smX10_round rfl rfl (Nat.le_of_ble_eq_true rfl) (Nat.zero_le _) (Nat.zero_le _) (c_round _ (by omega)) (fun r h' hq => ?_)
    obtain ⟨rfl, hq⟩ := hq
    have hq := hq.symm
    subst hq
    refine xa_ireturn (pc := 47) dX10_turnOf_47 rfl trivial ?_
    exact ⟨congrArg (fun z => some (xa_i z)) (show (s 18) % 360 = (s 18 + cf_bto dg c p) % 360 by unfold cf_bto; (repeat' split) <;> omega), rfl⟩
  · skip
    refine xa_iload_n (pc := 12) dX10_turnOf_12 rfl ?_
    refine xa_aload_n (pc := 13) dX10_turnOf_13 rfl ?_
    refine xa_getfield (pc := 14) dX10_turnOf_14 flRX10_22 (by omega) (by omega) hM0 rfl ?_
    refine xa_iload_n (pc := 17) dX10_turnOf_17 rfl ?_
    refine xa_ialdw (pc := 18) 0 dX10_turnOf_18 (by omega) hM5 (by omega) (by omega) rfl ?_
    have e5_0 : F 5 0 = dg 0 := ho.2.1.2.2.2.1 0 (by have := ho.1.1; omega)
    refine xa_top (y := dg 0) e5_0 ?_
    refine xa_aload_n (pc := 19) dX10_turnOf_19 rfl ?_
    refine xa_aload_n (pc := 20) dX10_turnOf_20 rfl ?_
    refine xa_getfield (pc := 21) dX10_turnOf_21 flRX10_164 (by omega) (by omega) hM0 rfl ?_
    refine xa_iload_n (pc := 24) dX10_turnOf_24 rfl ?_
    refine xa_callV (pc := 25) (as := [xa_i (mE jo wa sr c), xa_i 0]) (rest := [xa_i (dg 0), xa_i (s 18)]) dX10_turnOf_25 ⟨qX10_stepAt.1, qX10_stepAt.2.1, qX10_stepAt.2.2, by decide, by decide⟩ lkRX10_132 imX10_stepAt seX10_stepAt rfl rfl (by omega) (by omega) hM0 rfl (Nat.le_of_ble_eq_true rfl) (Nat.zero_le _) (Nat.zero_le _) (c_kAt0 (F := F) (s := xa_upf s 17 (mE jo wa sr c)) ho ⟨hM0, hM1, hM2, hM3, hM4, hM5, hM6, hM7, hM8, hM9, hM10, hM11, hM12, hM13, hM14, hM15, hM16, by omega, by omega⟩ hc) (fun r h' hq => ?_)
    obtain ⟨rfl, hq⟩ := hq
    have hq := hq.symm
    subst hq
    refine xa_aload_n (pc := 28) dX10_turnOf_28 rfl ?_
    refine xa_iload_n (pc := 29) dX10_turnOf_29 rfl ?_
    refine xa_callV (pc := 30) (as := [xa_i 0]) (rest := [xa_i (c.2.2.2.1 + cf_z jo wa 0), xa_i (dg 0), xa_i (s 18)]) dX10_turnOf_30 ⟨qX10_straightAt.1, qX10_straightAt.2.1, qX10_straightAt.2.2, by decide, by decide⟩ lkRX10_129 imX10_straightAt seX10_straightAt rfl rfl (by omega) (by omega) hM0 rfl (Nat.le_of_ble_eq_true rfl) (Nat.zero_le _) (Nat.zero_le _) (c_kZero (F := F) (s := xa_upf s 17 (mE jo wa sr c)) ho ⟨hM0, hM1, hM2, hM3, hM4, hM5, hM6, hM7, hM8, hM9, hM10, hM11, hM12, hM13, hM14, hM15, hM16, by omega, by omega⟩ 0 (by decide)) (fun r h' hq => ?_)
    obtain ⟨rfl, hq⟩ := hq
    have hq := hq.symm
    subst hq
    refine xa_isub (pc := 33) dX10_turnOf_33 ?_
    refine xa_top (y := c.2.2.2.1) (by omega) ?_
    have pb0 := ds_b (ho.1.2.2.2.1 0) (s := c.2.2.2.1) (by omega)
    refine xa_imul (pc := 34) dX10_turnOf_34 ?_
    refine xa_iadd (pc := 35) dX10_turnOf_35 ?_
    refine xa_istoren (pc := 36) [some (xa_r k), some (xa_i p), some (xa_i ((s 18) + ((dg 0) * c.2.2.2.1))), some (xa_i 0)] dX10_turnOf_36 (by decide) (Nat.le_of_ble_eq_true rfl) rfl rfl ?_
    refine xa_iincw (pc := 37) (y := 1) [some (xa_r k), some (xa_i p), some (xa_i ((s 18) + ((dg 0) * c.2.2.2.1))), some (xa_i 1)] dX10_turnOf_37 (by decide) rfl rfl rfl rfl ?_
    refine xa_goto (pc := 40) (tgt := 7) dX10_turnOf_40 (by decide) ?_
    refine xa_iload_n (pc := 7) dX10_turnOf_7 rfl ?_
    refine xa_iload_n (pc := 8) dX10_turnOf_8 rfl ?_
    refine xa_icmp_ge (pc := 9) (tgt := 43) dX10_turnOf_9 (by decide) (by decide) ⟨by omega, by omega⟩ (fun c_9 => ?_) (fun c_9 => ?_)
    · skip
      refine xa_iload_n (pc := 43) dX10_turnOf_43 rfl ?_
      refine xa_callS (pc := 44) (as := [xa_i ((s 18) + ((dg 0) * c.2.2.2.1))]) (rest := []) dX10_turnOf_44 ⟨qX10_round.1, qX10_round.2.1, qX10_round.2.2, by decide, by decide⟩ lkRX10_179 smX10_round rfl rfl (Nat.le_of_ble_eq_true rfl) (Nat.zero_le _) (Nat.zero_le _) (c_round _ (by omega)) (fun r h' hq => ?_)
      obtain ⟨rfl, hq⟩ := hq
      have hq := hq.symm
      subst hq
      refine xa_ireturn (pc := 47) dX10_turnOf_47 rfl trivial ?_
      exact ⟨congrArg (fun z => some (xa_i z)) (show ((s 18) + ((dg 0) * c.2.2.2.1)) % 360 = (s 18 + cf_bto dg c p) % 360 by unfold cf_bto; (repeat' split) <;> omega), rfl⟩
    · skip
      refine xa_iload_n (pc := 12) dX10_turnOf_12 rfl ?_
      refine xa_aload_n (pc := 13) dX10_turnOf_13 rfl ?_
      refine xa_getfield (pc := 14) dX10_turnOf_14 flRX10_22 (by omega) (by omega) hM0 rfl ?_
      refine xa_iload_n (pc := 17) dX10_turnOf_17 rfl ?_
      refine xa_ialdw (pc := 18) 1 dX10_turnOf_18 (by omega) hM5 (by omega) (by omega) rfl ?_
      have e5_1 : F 5 1 = dg 1 := ho.2.1.2.2.2.1 1 (by have := ho.1.1; omega)
      refine xa_top (y := dg 1) e5_1 ?_
      refine xa_aload_n (pc := 19) dX10_turnOf_19 rfl ?_
      refine xa_aload_n (pc := 20) dX10_turnOf_20 rfl ?_
      refine xa_getfield (pc := 21) dX10_turnOf_21 flRX10_164 (by omega) (by omega) hM0 rfl ?_
      refine xa_iload_n (pc := 24) dX10_turnOf_24 rfl ?_
      refine xa_callV (pc := 25) (as := [xa_i (mE jo wa sr c), xa_i 1]) (rest := [xa_i (dg 1), xa_i ((s 18) + ((dg 0) * c.2.2.2.1))]) dX10_turnOf_25 ⟨qX10_stepAt.1, qX10_stepAt.2.1, qX10_stepAt.2.2, by decide, by decide⟩ lkRX10_132 imX10_stepAt seX10_stepAt rfl rfl (by omega) (by omega) hM0 rfl (Nat.le_of_ble_eq_true rfl) (Nat.zero_le _) (Nat.zero_le _) (c_kAt1 (F := F) (s := xa_upf s 17 (mE jo wa sr c)) ho ⟨hM0, hM1, hM2, hM3, hM4, hM5, hM6, hM7, hM8, hM9, hM10, hM11, hM12, hM13, hM14, hM15, hM16, by omega, by omega⟩ hc) (fun r h' hq => ?_)
      obtain ⟨rfl, hq⟩ := hq
      have hq := hq.symm
      subst hq
      refine xa_aload_n (pc := 28) dX10_turnOf_28 rfl ?_
      refine xa_iload_n (pc := 29) dX10_turnOf_29 rfl ?_
      refine xa_callV (pc := 30) (as := [xa_i 1]) (rest := [xa_i (c.2.2.2.2 + cf_z jo wa 1), xa_i (dg 1), xa_i ((s 18) + ((dg 0) * c.2.2.2.1))]) dX10_turnOf_30 ⟨qX10_straightAt.1, qX10_straightAt.2.1, qX10_straightAt.2.2, by decide, by decide⟩ lkRX10_129 imX10_straightAt seX10_straightAt rfl rfl (by omega) (by omega) hM0 rfl (Nat.le_of_ble_eq_true rfl) (Nat.zero_le _) (Nat.zero_le _) (c_kZero (F := F) (s := xa_upf s 17 (mE jo wa sr c)) ho ⟨hM0, hM1, hM2, hM3, hM4, hM5, hM6, hM7, hM8, hM9, hM10, hM11, hM12, hM13, hM14, hM15, hM16, by omega, by omega⟩ 1 (by decide)) (fun r h' hq => ?_)
      obtain ⟨rfl, hq⟩ := hq
      have hq := hq.symm
      subst hq
      refine xa_isub (pc := 33) dX10_turnOf_33 ?_
      refine xa_top (y := c.2.2.2.2) (by omega) ?_
      have pb1 := ds_b (ho.1.2.2.2.1 1) (s := c.2.2.2.2) (by omega)
      refine xa_imul (pc := 34) dX10_turnOf_34 ?_
      refine xa_iadd (pc := 35) dX10_turnOf_35 ?_
      refine xa_istoren (pc := 36) [some (xa_r k), some (xa_i p), some (xa_i (((s 18) + ((dg 0) * c.2.2.2.1)) + ((dg 1) * c.2.2.2.2))), some (xa_i 1)] dX10_turnOf_36 (by decide) (Nat.le_of_ble_eq_true rfl) rfl rfl ?_
      refine xa_iincw (pc := 37) (y := 2) [some (xa_r k), some (xa_i p), some (xa_i (((s 18) + ((dg 0) * c.2.2.2.1)) + ((dg 1) * c.2.2.2.2))), some (xa_i 2)] dX10_turnOf_37 (by decide) rfl rfl rfl rfl ?_
      refine xa_goto (pc := 40) (tgt := 7) dX10_turnOf_40 (by decide) ?_
      refine xa_iload_n (pc := 7) dX10_turnOf_7 rfl ?_
      refine xa_iload_n (pc := 8) dX10_turnOf_8 rfl ?_
      refine xa_icmp_ge (pc := 9) (tgt := 43) dX10_turnOf_9 (by decide) (by decide) ⟨by omega, by omega⟩ (fun c_9 => ?_) (fun c_9 => ?_)
      · skip
        refine xa_iload_n (pc := 43) dX10_turnOf_43 rfl ?_
        refine xa_callS (pc := 44) (as := [xa_i (((s 18) + ((dg 0) * c.2.2.2.1)) + ((dg 1) * c.2.2.2.2))]) (rest := []) dX10_turnOf_44 ⟨qX10_round.1, qX10_round.2.1, qX10_round.2.2, by decide, by decide⟩ lkRX10_179 smX10_round rfl rfl (Nat.le_of_ble_eq_true rfl) (Nat.zero_le _) (Nat.zero_le _) (c_round _ (by omega)) (fun r h' hq => ?_)
        obtain ⟨rfl, hq⟩ := hq
        have hq := hq.symm
        subst hq
        refine xa_ireturn (pc := 47) dX10_turnOf_47 rfl trivial ?_
        exact ⟨congrArg (fun z => some (xa_i z)) (show (((s 18) + ((dg 0) * c.2.2.2.1)) + ((dg 1) * c.2.2.2.2)) % 360 = (s 18 + cf_bto dg c p) % 360 by unfold cf_bto; (repeat' split) <;> omega), rfl⟩
      · skip
        exfalso; omega
theorem c_mCloses {G : xa_G} {h : xa_H} {c : xCf} {m : Nat} (k w : Nat) (F : Nat → Nat → Int) (s : Nat → Int) (ld dg : Nat → Int) (pa jo : Nat) (wa sr pu ri : Int) (h17 : s 17 = mE jo wa sr c) (h19 : s 19 = ((m : Nat) : Int)) (hc : cf_ok pa jo wa sr c) (hm : m ≤ 100) (hw : w ≤ 3) (ho : mOk F ld dg pa jo wa sr pu ri) (hM : xM h k F s)  : xa_M G mX10_closes [xa_r k, xa_i ((w : Nat) : Int)] h 0 0 (fun r h' => r = some (xa_i (xa_b ((m : Int) = F 9 w ∧ c = cf_rest pa))) ∧ h' = h) := by
  refine xa_enter (by decide +kernel) (Nat.le_of_ble_eq_true rfl) ?_
  refine xa_locals (ls' := [some (xa_r k), some (xa_i ((w : Nat) : Int))]) rfl ?_
  obtain ⟨hM0, hM1, hM2, hM3, hM4, hM5, hM6, hM7, hM8, hM9, hM10, hM11, hM12, hM13, hM14, hM15, hM16, hMk, hMn⟩ := hM
  rw [h17, h19] at hM0
  have hmb := mE_9 ho.1 ho.2.1 hc
  have h9 := ho.2.2.2.2.2.1 w
  have hmb2 := mE_9 ho.1 ho.2.1 (cf_rest_ok ho.1)
  refine xa_aload_n (pc := 0) dX10_closes_0 rfl ?_
  refine xa_getfield (pc := 1) dX10_closes_1 flRX10_170 (by omega) (by omega) hM0 rfl ?_
  refine xa_aload_n (pc := 4) dX10_closes_4 rfl ?_
  refine xa_getfield (pc := 5) dX10_closes_5 flRX10_34 (by omega) (by omega) hM0 rfl ?_
  refine xa_iload_n (pc := 8) dX10_closes_8 rfl ?_
  refine xa_ialdw (pc := 9) w dX10_closes_9 (by omega) hM9 (by omega) (by omega) (Int.toNat_natCast _) ?_
  refine xa_icmp_ne (pc := 10) (tgt := 28) dX10_closes_10 (by decide) ⟨by omega, by omega⟩ ⟨by omega, by omega⟩ (fun c_10 => ?_) (fun c_10 => ?_)
  · skip
    refine xa_iconst (pc := 28) dX10_closes_28 ?_
    refine xa_ireturn (pc := 29) dX10_closes_29 rfl (Or.inl rfl) ?_
    exact ⟨congrArg (fun z => some (xa_i z)) (xa_bf (fun z => by first | (exfalso; have := z.1; omega) | (have z2 := z.2; subst z2; omega))), rfl⟩
  · skip
    refine xa_aload_n (pc := 13) dX10_closes_13 rfl ?_
    refine xa_getfield (pc := 14) dX10_closes_14 flRX10_164 (by omega) (by omega) hM0 rfl ?_
    refine xa_aload_n (pc := 17) dX10_closes_17 rfl ?_
    refine xa_callV (pc := 18) (as := []) (rest := [xa_i (mE jo wa sr c)]) dX10_closes_18 ⟨qX10_rest.1, qX10_rest.2.1, qX10_rest.2.2, by decide, by decide⟩ lkRX10_161 imX10_rest seX10_rest rfl rfl (by omega) (by omega) hM0 rfl (Nat.le_of_ble_eq_true rfl) (Nat.zero_le _) (Nat.zero_le _) (c_kRest (F := F) (s := xa_upf (xa_upf s 17 (mE jo wa sr c)) 19 ((m : Nat) : Int)) ho ⟨hM0, hM1, hM2, hM3, hM4, hM5, hM6, hM7, hM8, hM9, hM10, hM11, hM12, hM13, hM14, hM15, hM16, by omega, by omega⟩) (fun r h' hq => ?_)
    obtain ⟨rfl, hq⟩ := hq
    have hq := hq.symm
    subst hq
    refine xa_icmp_ne (pc := 21) (tgt := 28) dX10_closes_21 (by decide) ⟨by omega, by omega⟩ ⟨by omega, by omega⟩ (fun c_21 => ?_) (fun c_21 => ?_)
    · skip
      refine xa_iconst (pc := 28) dX10_closes_28 ?_
      refine xa_ireturn (pc := 29) dX10_closes_29 rfl (Or.inl rfl) ?_
      exact ⟨congrArg (fun z => some (xa_i z)) (xa_bf (fun z => by first | (exfalso; have := z.1; omega) | (have z2 := z.2; subst z2; omega))), rfl⟩
    · skip
      refine xa_iconst (pc := 24) dX10_closes_24 ?_
      refine xa_goto (pc := 25) (tgt := 29) dX10_closes_25 (by decide) ?_
      refine xa_ireturn (pc := 29) dX10_closes_29 rfl (Or.inr rfl) ?_
      exact ⟨congrArg (fun z => some (xa_i z)) (xa_bt ⟨by omega, mE_inj ho.1 ho.2.1 hc (cf_rest_ok ho.1) (by omega)⟩), rfl⟩
theorem c_mTurnA {G : xa_G} {h : xa_H} (k : Nat) (w turn t p : Int) (F : Nat → Nat → Int) (s : Nat → Int) (ld dg : Nat → Int) (pa jo : Nat) (wa sr pu ri : Int) (h1 : xa_ok w) (h2 : xa_ok turn) (h3 : xa_ok t) (h4 : xa_ok p) (ho : mOk F ld dg pa jo wa sr pu ri) (hM : xM h k F s)  : xa_M G mX10_turn [xa_r k, xa_i w, xa_i turn, xa_i t, xa_i p] h 0 0 (fun r h' => (∃ (r0 : Int) (s' : Nat → Int), r = some (xa_i r0) ∧ sq_turn ld dg pa jo wa sr pu (F 10) (F 9) w turn t p r0 ∧ msF s s' ∧ xM h' k F s') ∧ h'.2 = h.2 ∧ ∀ i, (i < k ∨ k + 17 ≤ i) → h'.1 i = h.1 i) := by
  refine xa_enter (by decide +kernel) (Nat.le_of_ble_eq_true rfl) ?_
  refine xa_locals (ls' := [some (xa_r k), some (xa_i w), some (xa_i turn), some (xa_i t), some (xa_i p)]) rfl ?_
  have hn : h.2 = h.2 := rfl
  have fr : ∀ i, (i < k ∨ k + 17 ≤ i) → h.1 i = h.1 i := fun _ _ => rfl
  obtain ⟨hM0, hM1, hM2, hM3, hM4, hM5, hM6, hM7, hM8, hM9, hM10, hM11, hM12, hM13, hM14, hM15, hM16, hMk, hMn⟩ := hM
  have hpa := ho.1.1
  have hR := ho.2.1.1
  refine xa_iload_n (pc := 0) dX10_turn_0 rfl ?_
  refine xa_callS (pc := 1) (as := [xa_i w]) (rest := []) dX10_turn_1 ⟨qX10_isWay.1, qX10_isWay.2.1, qX10_isWay.2.2, by decide, by decide⟩ lkRX10_156 smX10_isWay rfl rfl (Nat.le_of_ble_eq_true rfl) (Nat.zero_le _) (Nat.zero_le _) (c_mWay _ ⟨by omega, by omega⟩) (fun r h' hq => ?_)
  obtain ⟨rfl, hq⟩ := hq
  have hq := hq.symm
  subst hq
  refine xa_if_eq (pc := 4) (tgt := 35) dX10_turn_4 (by decide) xa_okb (fun c_4 => ?_) (fun c_4 => ?_)
  · have c_4 := xa_b0.mp c_4
    refine xa_iconst (pc := 35) dX10_turn_35 ?_
    refine xa_ireturn (pc := 36) dX10_turn_36 rfl trivial ?_
    exact ⟨⟨_, s, rfl, Or.inl ⟨by omega, rfl⟩, ⟨rfl, rfl, rfl⟩, ⟨hM0, hM1, hM2, hM3, hM4, hM5, hM6, hM7, hM8, hM9, hM10, hM11, hM12, hM13, hM14, hM15, hM16, by omega, by omega⟩⟩, hn, fr⟩
  · have c_4 := xa_b1.mp c_4
    refine xa_iload_n (pc := 7) dX10_turn_7 rfl ?_
    refine xa_callS (pc := 8) (as := [xa_i turn]) (rest := []) dX10_turn_8 ⟨qX10_isTurn.1, qX10_isTurn.2.1, qX10_isTurn.2.2, by decide, by decide⟩ lkRX10_182 smX10_isTurn rfl rfl (Nat.le_of_ble_eq_true rfl) (Nat.zero_le _) (Nat.zero_le _) (c_mTurn _ ⟨by omega, by omega⟩) (fun r h' hq => ?_)
    obtain ⟨rfl, hq⟩ := hq
    have hq := hq.symm
    subst hq
    refine xa_if_eq (pc := 11) (tgt := 35) dX10_turn_11 (by decide) xa_okb (fun c_11 => ?_) (fun c_11 => ?_)
    · have c_11 := xa_b0.mp c_11
      refine xa_iconst (pc := 35) dX10_turn_35 ?_
      refine xa_ireturn (pc := 36) dX10_turn_36 rfl trivial ?_
      exact ⟨⟨_, s, rfl, Or.inl ⟨by omega, rfl⟩, ⟨rfl, rfl, rfl⟩, ⟨hM0, hM1, hM2, hM3, hM4, hM5, hM6, hM7, hM8, hM9, hM10, hM11, hM12, hM13, hM14, hM15, hM16, by omega, by omega⟩⟩, hn, fr⟩
    · have c_11 := xa_b1.mp c_11
      refine xa_iload_n (pc := 14) dX10_turn_14 rfl ?_
      refine xa_i2l (pc := 15) dX10_turn_15 ⟨by omega, by omega⟩ ?_
      refine xa_lconst (pc := 16) (n := 0) dX10_turn_16 rfl ?_
      refine xa_ldc2 (pc := 17) (n := 60) dX10_turn_17 ctRX10_185 rfl ?_
      refine xa_callS (pc := 20) (as := [xa_l t, xa_l 0, xa_l 60]) (rest := []) dX10_turn_20 ⟨qX10_in.1, qX10_in.2.1, qX10_in.2.2, by decide, by decide⟩ lkRX10_65 smX10_in rfl rfl (Nat.le_of_ble_eq_true rfl) (Nat.zero_le _) (Nat.zero_le _) (c_in _ _ _ ⟨by omega, by omega⟩ ⟨by omega, by omega⟩ ⟨by omega, by omega⟩) (fun r h' hq => ?_)
      obtain ⟨rfl, hq⟩ := hq
      have hq := hq.symm
      subst hq
      refine xa_if_eq (pc := 23) (tgt := 35) dX10_turn_23 (by decide) xa_okb (fun c_23 => ?_) (fun c_23 => ?_)
      · have c_23 := xa_b0.mp c_23
        refine xa_iconst (pc := 35) dX10_turn_35 ?_
        refine xa_ireturn (pc := 36) dX10_turn_36 rfl trivial ?_
        exact ⟨⟨_, s, rfl, Or.inl ⟨by omega, rfl⟩, ⟨rfl, rfl, rfl⟩, ⟨hM0, hM1, hM2, hM3, hM4, hM5, hM6, hM7, hM8, hM9, hM10, hM11, hM12, hM13, hM14, hM15, hM16, by omega, by omega⟩⟩, hn, fr⟩
      · have c_23 := xa_b1.mp c_23
        refine xa_aload_n (pc := 26) dX10_turn_26 rfl ?_
        refine xa_iload (pc := 27) dX10_turn_27 rfl ?_
        refine xa_callV (pc := 29) (as := [xa_i p]) (rest := []) dX10_turn_29 ⟨qX10_isPart.1, qX10_isPart.2.1, qX10_isPart.2.2, by decide, by decide⟩ lkRX10_115 imX10_isPart seX10_isPart rfl rfl (by omega) (by omega) hM0 rfl (Nat.le_of_ble_eq_true rfl) (Nat.zero_le _) (Nat.zero_le _) (c_mPart _ F s _ ⟨by omega, by omega⟩ ⟨hM0, hM1, hM2, hM3, hM4, hM5, hM6, hM7, hM8, hM9, hM10, hM11, hM12, hM13, hM14, hM15, hM16, by omega, by omega⟩ ho.hv) (fun r h' hq => ?_)
        obtain ⟨rfl, hq⟩ := hq
        have hq := hq.symm
        subst hq
        refine xa_if_ne (pc := 32) (tgt := 37) dX10_turn_32 (by decide) xa_okb (fun c_32 => ?_) (fun c_32 => ?_)
        · have c_32 := xa_b1.mp c_32
          obtain ⟨v, rfl⟩ : ∃ v : Nat, w = (v : Int) := ⟨w.toNat, by omega⟩
          have ef : F 9 ((v : Nat) : Int).toNat = F 9 v := rfl
          refine xa_aload_n (pc := 37) dX10_turn_37 rfl ?_
          refine xa_aload_n (pc := 38) dX10_turn_38 rfl ?_
          refine xa_getfield (pc := 39) dX10_turn_39 flRX10_28 (by omega) (by omega) hM0 rfl ?_
          refine xa_iconst (pc := 42) dX10_turn_42 ?_
          refine xa_ialdw (pc := 43) 0 dX10_turn_43 (by omega) hM7 (by omega) (by omega) rfl ?_
          refine xa_top (y := pu) ho.2.2.2.1 ?_
          have hpb := ho.1.2.2.2.2.2.2.1
          refine xa_putw (pc := 44) [xa_i (s 0), xa_r (k + 1), xa_r (k + 2), xa_r (k + 3), xa_r (k + 4), xa_r (k + 5), xa_r (k + 6), xa_r (k + 7), xa_r (k + 8), xa_r (k + 9), xa_r (k + 10), xa_r (k + 11), xa_r (k + 12), xa_i (s 13), xa_i pu, xa_i (s 15), xa_r (k + 13), xa_i (s 17), xa_i (s 18), xa_i (s 19), xa_i (s 20), xa_r (k + 14), xa_r (k + 15), xa_i (s 23), xa_r (k + 16)] dX10_turn_44 flRX10_149 plX10_14 (by omega) (by omega) hM0 trivial rfl (fun h1 nh1 ch1 oh1 => ?_)
          have hM0 : h1.1 k = xa_o 10 [xa_i (s 0), xa_r (k + 1), xa_r (k + 2), xa_r (k + 3), xa_r (k + 4), xa_r (k + 5), xa_r (k + 6), xa_r (k + 7), xa_r (k + 8), xa_r (k + 9), xa_r (k + 10), xa_r (k + 11), xa_r (k + 12), xa_i (s 13), xa_i pu, xa_i (s 15), xa_r (k + 13), xa_i (s 17), xa_i (s 18), xa_i (s 19), xa_i (s 20), xa_r (k + 14), xa_r (k + 15), xa_i (s 23), xa_r (k + 16)] := ch1
          have hM1 : h1.1 (k + 1) = xa_a 120 (F 1) := (oh1 _ (by omega)).trans hM1
          have hM2 : h1.1 (k + 2) = xa_a 2 (F 2) := (oh1 _ (by omega)).trans hM2
          have hM3 : h1.1 (k + 3) = xa_a 18 (F 3) := (oh1 _ (by omega)).trans hM3
          have hM4 : h1.1 (k + 4) = xa_a 2 (F 4) := (oh1 _ (by omega)).trans hM4
          have hM5 : h1.1 (k + 5) = xa_a 4 (F 5) := (oh1 _ (by omega)).trans hM5
          have hM6 : h1.1 (k + 6) = xa_a 4 (F 6) := (oh1 _ (by omega)).trans hM6
          have hM7 : h1.1 (k + 7) = xa_a 2 (F 7) := (oh1 _ (by omega)).trans hM7
          have hM8 : h1.1 (k + 8) = xa_a 2 (F 8) := (oh1 _ (by omega)).trans hM8
          have hM9 : h1.1 (k + 9) = xa_a 12 (F 9) := (oh1 _ (by omega)).trans hM9
          have hM10 : h1.1 (k + 10) = xa_a 720 (F 10) := (oh1 _ (by omega)).trans hM10
          have hM11 : h1.1 (k + 11) = xa_a 3 (F 11) := (oh1 _ (by omega)).trans hM11
          have hM12 : h1.1 (k + 12) = xa_a 360 (F 12) := (oh1 _ (by omega)).trans hM12
          have hM13 : h1.1 (k + 13) = xa_a 3 (F 13) := (oh1 _ (by omega)).trans hM13
          have hM14 : h1.1 (k + 14) = xa_a 583200 (F 14) := (oh1 _ (by omega)).trans hM14
          have hM15 : h1.1 (k + 15) = xa_a 583200 (F 15) := (oh1 _ (by omega)).trans hM15
          have hM16 : h1.1 (k + 16) = xa_a 4 (F 16) := (oh1 _ (by omega)).trans hM16
          have hn : h1.2 = h.2 := nh1.trans hn
          have fr : ∀ i, (i < k ∨ k + 17 ≤ i) → h1.1 i = h.1 i := fun i hi => (oh1 i (by omega)).trans (fr i hi)
          refine xa_aload_n (pc := 47) dX10_turn_47 rfl ?_
          refine xa_iload_n (pc := 48) dX10_turn_48 rfl ?_
          refine xa_iload_n (pc := 49) dX10_turn_49 rfl ?_
          refine xa_iload_n (pc := 50) dX10_turn_50 rfl ?_
          refine xa_callV (pc := 51) (as := [xa_i ((v : Nat) : Int), xa_i turn, xa_i t]) (rest := []) dX10_turn_51 ⟨qX10_go.1, qX10_go.2.1, qX10_go.2.2, by decide, by decide⟩ lkRX10_187 imX10_go seX10_go rfl rfl (by omega) (by omega) hM0 rfl (Nat.le_of_ble_eq_true rfl) (Nat.zero_le _) (Nat.zero_le _) (c_mGo _ v turn t F (xa_upf s 14 pu) ld dg pa jo wa sr pu ri (by omega) (by omega) (by omega) ho (by show -9999 ≤ pu ∧ pu ≤ 9999; omega) ⟨hM0, hM1, hM2, hM3, hM4, hM5, hM6, hM7, hM8, hM9, hM10, hM11, hM12, hM13, hM14, hM15, hM16, by omega, by omega⟩) (fun r h' hq => ?_)
          obtain ⟨⟨rfl, m, c, u, hm, hm2, hrun, hc, hfail, hM⟩, hqn, hqf⟩ := hq
          obtain ⟨hM0, hM1, hM2, hM3, hM4, hM5, hM6, hM7, hM8, hM9, hM10, hM11, hM12, hM13, hM14, hM15, hM16, hMk, hMn⟩ := hM
          have hM0 : h'.1 k = xa_o 10 [xa_i (s 0), xa_r (k + 1), xa_r (k + 2), xa_r (k + 3), xa_r (k + 4), xa_r (k + 5), xa_r (k + 6), xa_r (k + 7), xa_r (k + 8), xa_r (k + 9), xa_r (k + 10), xa_r (k + 11), xa_r (k + 12), xa_i (s 13), xa_i pu, xa_i (s 15), xa_r (k + 13), xa_i (mE jo wa sr c), xa_i ((turn + u) % 360), xa_i ((m : Nat) : Int), xa_i (s 20), xa_r (k + 14), xa_r (k + 15), xa_i (s 23), xa_r (k + 16)] := hM0
          have hM1 : h'.1 (k + 1) = xa_a 120 (F 1) := hM1
          have hM2 : h'.1 (k + 2) = xa_a 2 (F 2) := hM2
          have hM3 : h'.1 (k + 3) = xa_a 18 (F 3) := hM3
          have hM4 : h'.1 (k + 4) = xa_a 2 (F 4) := hM4
          have hM5 : h'.1 (k + 5) = xa_a 4 (F 5) := hM5
          have hM6 : h'.1 (k + 6) = xa_a 4 (F 6) := hM6
          have hM7 : h'.1 (k + 7) = xa_a 2 (F 7) := hM7
          have hM8 : h'.1 (k + 8) = xa_a 2 (F 8) := hM8
          have hM9 : h'.1 (k + 9) = xa_a 12 (F 9) := hM9
          have hM10 : h'.1 (k + 10) = xa_a 720 (F 10) := hM10
          have hM11 : h'.1 (k + 11) = xa_a 3 (F 11) := hM11
          have hM12 : h'.1 (k + 12) = xa_a 360 (F 12) := hM12
          have hM13 : h'.1 (k + 13) = xa_a 3 (F 13) := hM13
          have hM14 : h'.1 (k + 14) = xa_a 583200 (F 14) := hM14
          have hM15 : h'.1 (k + 15) = xa_a 583200 (F 15) := hM15
          have hM16 : h'.1 (k + 16) = xa_a 4 (F 16) := hM16
          have hn : h'.2 = h.2 := hqn.trans hn
          have fr : ∀ i, (i < k ∨ k + 17 ≤ i) → h'.1 i = h.1 i := fun i hi => (hqf i (by omega)).trans (fr i hi)
          have hmb := mE_9 ho.1 ho.2.1 hc
          have h9 := ho.2.2.2.2.2.1 v
          refine xa_aload_n (pc := 54) dX10_turn_54 rfl ?_
          refine xa_getfield (pc := 55) dX10_turn_55 flRX10_170 (by omega) (by omega) hM0 rfl ?_
          refine xa_iload_n (pc := 58) dX10_turn_58 rfl ?_
          refine xa_icmp_ne (pc := 59) (tgt := 71) dX10_turn_59 (by decide) ⟨by omega, by omega⟩ ⟨by omega, by omega⟩ (fun c_59 => ?_) (fun c_59 => ?_)
          · skip
            refine xa_bipush (pc := 71) dX10_turn_71 rfl ?_
            refine xa_ireturn (pc := 73) dX10_turn_73 rfl trivial ?_
            have hdone : cr_done ld dg pa jo wa sr pu (wy (F 10) (v : Int)) (min (F 9 v).toNat t.toNat) m c u := ⟨by omega, hrun, fun q => hfail (by omega) (by omega)⟩
            have hno : t.toNat ≤ (F 9 v).toNat → cr_run ld dg pa jo wa sr pu (wy (F 10) (v : Int)) t.toNat = none := fun q => by
              have q2 := (cr_stop hdone (t := t.toNat) (by omega)).mp
              cases hr : cr_run ld dg pa jo wa sr pu (wy (F 10) (v : Int)) t.toNat with
              | none => rfl
              | some z => exact absurd (q2 (by rw [hr]; rfl)) (by omega)
            exact ⟨⟨_, xa_upf (xa_upf (xa_upf (xa_upf s 14 pu) 17 (mE jo wa sr c)) 18 ((turn + u) % 360)) 19 ((m : Nat) : Int), rfl, Or.inr ⟨by omega, Or.inr ⟨hno, rfl⟩⟩, ⟨rfl, rfl, rfl⟩, ⟨hM0, hM1, hM2, hM3, hM4, hM5, hM6, hM7, hM8, hM9, hM10, hM11, hM12, hM13, hM14, hM15, hM16, by omega, by omega⟩⟩, hn, fr⟩
          · skip
            refine xa_aload_n (pc := 62) dX10_turn_62 rfl ?_
            refine xa_iload (pc := 63) dX10_turn_63 rfl ?_
            refine xa_callV (pc := 65) (as := [xa_i p]) (rest := []) dX10_turn_65 ⟨qX10_turnOf.1, qX10_turnOf.2.1, qX10_turnOf.2.2, by decide, by decide⟩ lkRX10_191 imX10_turnOf seX10_turnOf rfl rfl (by omega) (by omega) hM0 rfl (Nat.le_of_ble_eq_true rfl) (Nat.zero_le _) (Nat.zero_le _) (c_mTurnOf (c := c) _ _ F (xa_upf (xa_upf (xa_upf (xa_upf s 14 pu) 17 (mE jo wa sr c)) 18 ((turn + u) % 360)) 19 ((m : Nat) : Int)) ld dg pa jo wa sr pu ri rfl hc (by show 0 ≤ (turn + u) % 360 ∧ (turn + u) % 360 ≤ 359; omega) ho (by omega) ⟨hM0, hM1, hM2, hM3, hM4, hM5, hM6, hM7, hM8, hM9, hM10, hM11, hM12, hM13, hM14, hM15, hM16, by omega, by omega⟩) (fun r h' hq => ?_)
            obtain ⟨rfl, hq⟩ := hq
            have hq := hq.symm
            subst hq
            refine xa_top (y := ((turn + u) % 360 + cf_bto dg c p) % 360) rfl ?_
            refine xa_goto (pc := 68) (tgt := 73) dX10_turn_68 (by decide) ?_
            refine xa_ireturn (pc := 73) dX10_turn_73 rfl trivial ?_
            have hmt : m = t.toNat := by omega
            exact ⟨⟨_, xa_upf (xa_upf (xa_upf (xa_upf s 14 pu) 17 (mE jo wa sr c)) 18 ((turn + u) % 360)) 19 ((m : Nat) : Int), rfl, Or.inr ⟨by omega, Or.inl ⟨by show t.toNat ≤ (F 9 v).toNat; omega, c, u, by rw [← hmt]; exact hrun, by omega⟩⟩, ⟨rfl, rfl, rfl⟩, ⟨hM0, hM1, hM2, hM3, hM4, hM5, hM6, hM7, hM8, hM9, hM10, hM11, hM12, hM13, hM14, hM15, hM16, by omega, by omega⟩⟩, hn, fr⟩
        · have c_32 := xa_b0.mp c_32
          refine xa_iconst (pc := 35) dX10_turn_35 ?_
          refine xa_ireturn (pc := 36) dX10_turn_36 rfl trivial ?_
          exact ⟨⟨_, s, rfl, Or.inl ⟨by omega, rfl⟩, ⟨rfl, rfl, rfl⟩, ⟨hM0, hM1, hM2, hM3, hM4, hM5, hM6, hM7, hM8, hM9, hM10, hM11, hM12, hM13, hM14, hM15, hM16, by omega, by omega⟩⟩, hn, fr⟩
theorem c_mRun {G : xa_G} {h : xa_H} (k : Nat) (w q : Int) (F : Nat → Nat → Int) (s : Nat → Int) (ld dg : Nat → Int) (pa jo : Nat) (wa sr pu ri : Int) (h1 : xa_ok w) (h2 : xa_ok q) (ho : mOk F ld dg pa jo wa sr pu ri) (hM : xM h k F s)  : xa_M G mX10_run [xa_r k, xa_i w, xa_i q] h 0 0 (fun r h' => (∃ (r0 : Int) (s' : Nat → Int), r = some (xa_i r0) ∧ sq_run ld dg pa jo wa sr pu (F 10) (F 9) w q r0 ∧ msF s s' ∧ xM h' k F s') ∧ h'.2 = h.2 ∧ ∀ i, (i < k ∨ k + 17 ≤ i) → h'.1 i = h.1 i) := by
  refine xa_enter (by decide +kernel) (Nat.le_of_ble_eq_true rfl) ?_
  refine xa_locals (ls' := [some (xa_r k), some (xa_i w), some (xa_i q)]) rfl ?_
  have hn : h.2 = h.2 := rfl
  have fr : ∀ i, (i < k ∨ k + 17 ≤ i) → h.1 i = h.1 i := fun _ _ => rfl
  obtain ⟨hM0, hM1, hM2, hM3, hM4, hM5, hM6, hM7, hM8, hM9, hM10, hM11, hM12, hM13, hM14, hM15, hM16, hMk, hMn⟩ := hM
  have hpa := ho.1.1
  have hR := ho.2.1.1
  refine xa_iload_n (pc := 0) dX10_run_0 rfl ?_
  refine xa_callS (pc := 1) (as := [xa_i w]) (rest := []) dX10_run_1 ⟨qX10_isWay.1, qX10_isWay.2.1, qX10_isWay.2.2, by decide, by decide⟩ lkRX10_156 smX10_isWay rfl rfl (Nat.le_of_ble_eq_true rfl) (Nat.zero_le _) (Nat.zero_le _) (c_mWay _ ⟨by omega, by omega⟩) (fun r h' hq => ?_)
  obtain ⟨rfl, hq⟩ := hq
  have hq := hq.symm
  subst hq
  refine xa_if_eq (pc := 4) (tgt := 19) dX10_run_4 (by decide) xa_okb (fun c_4 => ?_) (fun c_4 => ?_)
  · have c_4 := xa_b0.mp c_4
    refine xa_iconst (pc := 19) dX10_run_19 ?_
    refine xa_ireturn (pc := 20) dX10_run_20 rfl trivial ?_
    exact ⟨⟨_, s, rfl, Or.inl ⟨by omega, rfl⟩, ⟨rfl, rfl, rfl⟩, ⟨hM0, hM1, hM2, hM3, hM4, hM5, hM6, hM7, hM8, hM9, hM10, hM11, hM12, hM13, hM14, hM15, hM16, by omega, by omega⟩⟩, hn, fr⟩
  · have c_4 := xa_b1.mp c_4
    refine xa_iload_n (pc := 7) dX10_run_7 rfl ?_
    refine xa_i2l (pc := 8) dX10_run_8 ⟨by omega, by omega⟩ ?_
    refine xa_lconst (pc := 9) (n := 0) dX10_run_9 rfl ?_
    refine xa_ldc2 (pc := 10) (n := 3) dX10_run_10 ctRX10_154 rfl ?_
    refine xa_callS (pc := 13) (as := [xa_l q, xa_l 0, xa_l 3]) (rest := []) dX10_run_13 ⟨qX10_in.1, qX10_in.2.1, qX10_in.2.2, by decide, by decide⟩ lkRX10_65 smX10_in rfl rfl (Nat.le_of_ble_eq_true rfl) (Nat.zero_le _) (Nat.zero_le _) (c_in _ _ _ ⟨by omega, by omega⟩ ⟨by omega, by omega⟩ ⟨by omega, by omega⟩) (fun r h' hq => ?_)
    obtain ⟨rfl, hq⟩ := hq
    have hq := hq.symm
    subst hq
    refine xa_if_ne (pc := 16) (tgt := 21) dX10_run_16 (by decide) xa_okb (fun c_16 => ?_) (fun c_16 => ?_)
    · have c_16 := xa_b1.mp c_16
      obtain ⟨v, rfl⟩ : ∃ v : Nat, w = (v : Int) := ⟨w.toNat, by omega⟩
      have ef : F 9 ((v : Nat) : Int).toNat = F 9 v := rfl
      refine xa_aload_n (pc := 21) dX10_run_21 rfl ?_
      refine xa_aload_n (pc := 22) dX10_run_22 rfl ?_
      refine xa_getfield (pc := 23) dX10_run_23 flRX10_28 (by omega) (by omega) hM0 rfl ?_
      refine xa_iconst (pc := 26) dX10_run_26 ?_
      refine xa_ialdw (pc := 27) 0 dX10_run_27 (by omega) hM7 (by omega) (by omega) rfl ?_
      refine xa_top (y := pu) ho.2.2.2.1 ?_
      have hpb := ho.1.2.2.2.2.2.2.1
      refine xa_putw (pc := 28) [xa_i (s 0), xa_r (k + 1), xa_r (k + 2), xa_r (k + 3), xa_r (k + 4), xa_r (k + 5), xa_r (k + 6), xa_r (k + 7), xa_r (k + 8), xa_r (k + 9), xa_r (k + 10), xa_r (k + 11), xa_r (k + 12), xa_i (s 13), xa_i pu, xa_i (s 15), xa_r (k + 13), xa_i (s 17), xa_i (s 18), xa_i (s 19), xa_i (s 20), xa_r (k + 14), xa_r (k + 15), xa_i (s 23), xa_r (k + 16)] dX10_run_28 flRX10_149 plX10_14 (by omega) (by omega) hM0 trivial rfl (fun h1 nh1 ch1 oh1 => ?_)
      have hM0 : h1.1 k = xa_o 10 [xa_i (s 0), xa_r (k + 1), xa_r (k + 2), xa_r (k + 3), xa_r (k + 4), xa_r (k + 5), xa_r (k + 6), xa_r (k + 7), xa_r (k + 8), xa_r (k + 9), xa_r (k + 10), xa_r (k + 11), xa_r (k + 12), xa_i (s 13), xa_i pu, xa_i (s 15), xa_r (k + 13), xa_i (s 17), xa_i (s 18), xa_i (s 19), xa_i (s 20), xa_r (k + 14), xa_r (k + 15), xa_i (s 23), xa_r (k + 16)] := ch1
      have hM1 : h1.1 (k + 1) = xa_a 120 (F 1) := (oh1 _ (by omega)).trans hM1
      have hM2 : h1.1 (k + 2) = xa_a 2 (F 2) := (oh1 _ (by omega)).trans hM2
      have hM3 : h1.1 (k + 3) = xa_a 18 (F 3) := (oh1 _ (by omega)).trans hM3
      have hM4 : h1.1 (k + 4) = xa_a 2 (F 4) := (oh1 _ (by omega)).trans hM4
      have hM5 : h1.1 (k + 5) = xa_a 4 (F 5) := (oh1 _ (by omega)).trans hM5
      have hM6 : h1.1 (k + 6) = xa_a 4 (F 6) := (oh1 _ (by omega)).trans hM6
      have hM7 : h1.1 (k + 7) = xa_a 2 (F 7) := (oh1 _ (by omega)).trans hM7
      have hM8 : h1.1 (k + 8) = xa_a 2 (F 8) := (oh1 _ (by omega)).trans hM8
      have hM9 : h1.1 (k + 9) = xa_a 12 (F 9) := (oh1 _ (by omega)).trans hM9
      have hM10 : h1.1 (k + 10) = xa_a 720 (F 10) := (oh1 _ (by omega)).trans hM10
      have hM11 : h1.1 (k + 11) = xa_a 3 (F 11) := (oh1 _ (by omega)).trans hM11
      have hM12 : h1.1 (k + 12) = xa_a 360 (F 12) := (oh1 _ (by omega)).trans hM12
      have hM13 : h1.1 (k + 13) = xa_a 3 (F 13) := (oh1 _ (by omega)).trans hM13
      have hM14 : h1.1 (k + 14) = xa_a 583200 (F 14) := (oh1 _ (by omega)).trans hM14
      have hM15 : h1.1 (k + 15) = xa_a 583200 (F 15) := (oh1 _ (by omega)).trans hM15
      have hM16 : h1.1 (k + 16) = xa_a 4 (F 16) := (oh1 _ (by omega)).trans hM16
      have hn : h1.2 = h.2 := nh1.trans hn
      have fr : ∀ i, (i < k ∨ k + 17 ≤ i) → h1.1 i = h.1 i := fun i hi => (oh1 i (by omega)).trans (fr i hi)
      refine xa_aload_n (pc := 31) dX10_run_31 rfl ?_
      refine xa_iload_n (pc := 32) dX10_run_32 rfl ?_
      refine xa_iconst (pc := 33) dX10_run_33 ?_
      refine xa_bipush (pc := 34) dX10_run_34 rfl ?_
      refine xa_callV (pc := 36) (as := [xa_i ((v : Nat) : Int), xa_i 0, xa_i 60]) (rest := []) dX10_run_36 ⟨qX10_go.1, qX10_go.2.1, qX10_go.2.2, by decide, by decide⟩ lkRX10_187 imX10_go seX10_go rfl rfl (by omega) (by omega) hM0 rfl (Nat.le_of_ble_eq_true rfl) (Nat.zero_le _) (Nat.zero_le _) (c_mGo _ v 0 60 F (xa_upf s 14 pu) ld dg pa jo wa sr pu ri (by omega) (by omega) (by omega) ho (by show -9999 ≤ pu ∧ pu ≤ 9999; omega) ⟨hM0, hM1, hM2, hM3, hM4, hM5, hM6, hM7, hM8, hM9, hM10, hM11, hM12, hM13, hM14, hM15, hM16, by omega, by omega⟩) (fun r h' hq => ?_)
      obtain ⟨⟨rfl, m, c, u, hm, hm2, hrun, hc, hfail, hM⟩, hqn, hqf⟩ := hq
      obtain ⟨hM0, hM1, hM2, hM3, hM4, hM5, hM6, hM7, hM8, hM9, hM10, hM11, hM12, hM13, hM14, hM15, hM16, hMk, hMn⟩ := hM
      have hM0 : h'.1 k = xa_o 10 [xa_i (s 0), xa_r (k + 1), xa_r (k + 2), xa_r (k + 3), xa_r (k + 4), xa_r (k + 5), xa_r (k + 6), xa_r (k + 7), xa_r (k + 8), xa_r (k + 9), xa_r (k + 10), xa_r (k + 11), xa_r (k + 12), xa_i (s 13), xa_i pu, xa_i (s 15), xa_r (k + 13), xa_i (mE jo wa sr c), xa_i ((0 + u) % 360), xa_i ((m : Nat) : Int), xa_i (s 20), xa_r (k + 14), xa_r (k + 15), xa_i (s 23), xa_r (k + 16)] := hM0
      have hM1 : h'.1 (k + 1) = xa_a 120 (F 1) := hM1
      have hM2 : h'.1 (k + 2) = xa_a 2 (F 2) := hM2
      have hM3 : h'.1 (k + 3) = xa_a 18 (F 3) := hM3
      have hM4 : h'.1 (k + 4) = xa_a 2 (F 4) := hM4
      have hM5 : h'.1 (k + 5) = xa_a 4 (F 5) := hM5
      have hM6 : h'.1 (k + 6) = xa_a 4 (F 6) := hM6
      have hM7 : h'.1 (k + 7) = xa_a 2 (F 7) := hM7
      have hM8 : h'.1 (k + 8) = xa_a 2 (F 8) := hM8
      have hM9 : h'.1 (k + 9) = xa_a 12 (F 9) := hM9
      have hM10 : h'.1 (k + 10) = xa_a 720 (F 10) := hM10
      have hM11 : h'.1 (k + 11) = xa_a 3 (F 11) := hM11
      have hM12 : h'.1 (k + 12) = xa_a 360 (F 12) := hM12
      have hM13 : h'.1 (k + 13) = xa_a 3 (F 13) := hM13
      have hM14 : h'.1 (k + 14) = xa_a 583200 (F 14) := hM14
      have hM15 : h'.1 (k + 15) = xa_a 583200 (F 15) := hM15
      have hM16 : h'.1 (k + 16) = xa_a 4 (F 16) := hM16
      have hn : h'.2 = h.2 := hqn.trans hn
      have fr : ∀ i, (i < k ∨ k + 17 ≤ i) → h'.1 i = h.1 i := fun i hi => (hqf i (by omega)).trans (fr i hi)
      have hmb := mE_9 ho.1 ho.2.1 hc
      have h9 := ho.2.2.2.2.2.1 v
      refine xa_iload_n (pc := 39) dX10_run_39 rfl ?_
      by_cases w_40_0 : q = 0
      · refine xa_tableIn (pc := 40) (off := 28) (tgt := 68) dX10_run_40 ⟨by omega, by omega⟩ (by omega) (by omega) (by rw [w_40_0]; rfl) (by decide) ?_
        refine xa_aload_n (pc := 68) dX10_run_68 rfl ?_
        refine xa_getfield (pc := 69) dX10_run_69 flRX10_170 (by omega) (by omega) hM0 rfl ?_
        refine xa_ireturn (pc := 72) dX10_run_72 rfl trivial ?_
        have hdone : cr_done ld dg pa jo wa sr pu (wy (F 10) (v : Int)) (F 9 v).toNat m c u := ⟨by omega, hrun, fun q => hfail (by omega) (by omega)⟩
        exact ⟨⟨_, xa_upf (xa_upf (xa_upf (xa_upf s 14 pu) 17 (mE jo wa sr c)) 18 ((0 + u) % 360)) 19 ((m : Nat) : Int), rfl, Or.inr ⟨by omega, m, c, u, hdone, (by rw [if_pos (by omega)])⟩, ⟨rfl, rfl, rfl⟩, ⟨hM0, hM1, hM2, hM3, hM4, hM5, hM6, hM7, hM8, hM9, hM10, hM11, hM12, hM13, hM14, hM15, hM16, by omega, by omega⟩⟩, hn, fr⟩
      by_cases w_40_1 : q = 1
      · refine xa_tableIn (pc := 40) (off := 33) (tgt := 73) dX10_run_40 ⟨by omega, by omega⟩ (by omega) (by omega) (by rw [w_40_1]; rfl) (by decide) ?_
        refine xa_aload_n (pc := 73) dX10_run_73 rfl ?_
        refine xa_getfield (pc := 74) dX10_run_74 flRX10_170 (by omega) (by omega) hM0 rfl ?_
        refine xa_aload_n (pc := 77) dX10_run_77 rfl ?_
        refine xa_getfield (pc := 78) dX10_run_78 flRX10_34 (by omega) (by omega) hM0 rfl ?_
        refine xa_iload_n (pc := 81) dX10_run_81 rfl ?_
        refine xa_ialdw (pc := 82) v dX10_run_82 (by omega) hM9 (by omega) (by omega) (Int.toNat_natCast _) ?_
        refine xa_icmp_ne (pc := 83) (tgt := 90) dX10_run_83 (by decide) ⟨by omega, by omega⟩ ⟨by omega, by omega⟩ (fun c_83 => ?_) (fun c_83 => ?_)
        · skip
          refine xa_iconst (pc := 90) dX10_run_90 ?_
          refine xa_ireturn (pc := 91) dX10_run_91 rfl trivial ?_
          have hdone : cr_done ld dg pa jo wa sr pu (wy (F 10) (v : Int)) (F 9 v).toNat m c u := ⟨by omega, hrun, fun q => hfail (by omega) (by omega)⟩
          exact ⟨⟨_, xa_upf (xa_upf (xa_upf (xa_upf s 14 pu) 17 (mE jo wa sr c)) 18 ((0 + u) % 360)) 19 ((m : Nat) : Int), rfl, Or.inr ⟨by omega, m, c, u, hdone, (by rw [if_neg (by omega), if_pos (by omega)]; exact xa_bf (by omega))⟩, ⟨rfl, rfl, rfl⟩, ⟨hM0, hM1, hM2, hM3, hM4, hM5, hM6, hM7, hM8, hM9, hM10, hM11, hM12, hM13, hM14, hM15, hM16, by omega, by omega⟩⟩, hn, fr⟩
        · skip
          refine xa_iconst (pc := 86) dX10_run_86 ?_
          refine xa_goto (pc := 87) (tgt := 91) dX10_run_87 (by decide) ?_
          refine xa_ireturn (pc := 91) dX10_run_91 rfl trivial ?_
          have hdone : cr_done ld dg pa jo wa sr pu (wy (F 10) (v : Int)) (F 9 v).toNat m c u := ⟨by omega, hrun, fun q => hfail (by omega) (by omega)⟩
          exact ⟨⟨_, xa_upf (xa_upf (xa_upf (xa_upf s 14 pu) 17 (mE jo wa sr c)) 18 ((0 + u) % 360)) 19 ((m : Nat) : Int), rfl, Or.inr ⟨by omega, m, c, u, hdone, (by rw [if_neg (by omega), if_pos (by omega)]; exact xa_bt (by omega))⟩, ⟨rfl, rfl, rfl⟩, ⟨hM0, hM1, hM2, hM3, hM4, hM5, hM6, hM7, hM8, hM9, hM10, hM11, hM12, hM13, hM14, hM15, hM16, by omega, by omega⟩⟩, hn, fr⟩
      by_cases w_40_2 : q = 2
      · refine xa_tableIn (pc := 40) (off := 52) (tgt := 92) dX10_run_40 ⟨by omega, by omega⟩ (by omega) (by omega) (by rw [w_40_2]; rfl) (by decide) ?_
        refine xa_aload_n (pc := 92) dX10_run_92 rfl ?_
        refine xa_iload_n (pc := 93) dX10_run_93 rfl ?_
        refine xa_callV (pc := 94) (as := [xa_i ((v : Nat) : Int)]) (rest := []) dX10_run_94 ⟨qX10_closes.1, qX10_closes.2.1, qX10_closes.2.2, by decide, by decide⟩ lkRX10_194 imX10_closes seX10_closes rfl rfl (by omega) (by omega) hM0 rfl (Nat.le_of_ble_eq_true rfl) (Nat.zero_le _) (Nat.zero_le _) (c_mCloses (c := c) (m := m) _ v F (xa_upf (xa_upf (xa_upf (xa_upf s 14 pu) 17 (mE jo wa sr c)) 18 ((0 + u) % 360)) 19 ((m : Nat) : Int)) ld dg pa jo wa sr pu ri rfl rfl hc (by omega) (by omega) ho ⟨hM0, hM1, hM2, hM3, hM4, hM5, hM6, hM7, hM8, hM9, hM10, hM11, hM12, hM13, hM14, hM15, hM16, by omega, by omega⟩) (fun r h' hq => ?_)
        obtain ⟨rfl, hq⟩ := hq
        have hq := hq.symm
        subst hq
        refine xa_if_eq (pc := 97) (tgt := 104) dX10_run_97 (by decide) xa_okb (fun c_97 => ?_) (fun c_97 => ?_)
        · have c_97 := xa_b0.mp c_97
          refine xa_iconst (pc := 104) dX10_run_104 ?_
          refine xa_ireturn (pc := 105) dX10_run_105 rfl trivial ?_
          have hdone : cr_done ld dg pa jo wa sr pu (wy (F 10) (v : Int)) (F 9 v).toNat m c u := ⟨by omega, hrun, fun q => hfail (by omega) (by omega)⟩
          exact ⟨⟨_, xa_upf (xa_upf (xa_upf (xa_upf s 14 pu) 17 (mE jo wa sr c)) 18 ((0 + u) % 360)) 19 ((m : Nat) : Int), rfl, Or.inr ⟨by omega, m, c, u, hdone, (by rw [if_neg (by omega), if_neg (by omega), if_pos (by omega)]; exact xa_bf (fun z => c_97 ⟨by have := z.1; omega, z.2⟩))⟩, ⟨rfl, rfl, rfl⟩, ⟨hM0, hM1, hM2, hM3, hM4, hM5, hM6, hM7, hM8, hM9, hM10, hM11, hM12, hM13, hM14, hM15, hM16, by omega, by omega⟩⟩, hn, fr⟩
        · have c_97 := xa_b1.mp c_97
          refine xa_iconst (pc := 100) dX10_run_100 ?_
          refine xa_goto (pc := 101) (tgt := 105) dX10_run_101 (by decide) ?_
          refine xa_ireturn (pc := 105) dX10_run_105 rfl trivial ?_
          have hdone : cr_done ld dg pa jo wa sr pu (wy (F 10) (v : Int)) (F 9 v).toNat m c u := ⟨by omega, hrun, fun q => hfail (by omega) (by omega)⟩
          exact ⟨⟨_, xa_upf (xa_upf (xa_upf (xa_upf s 14 pu) 17 (mE jo wa sr c)) 18 ((0 + u) % 360)) 19 ((m : Nat) : Int), rfl, Or.inr ⟨by omega, m, c, u, hdone, (by rw [if_neg (by omega), if_neg (by omega), if_pos (by omega)]; exact xa_bt (⟨by have := c_97.1; omega, c_97.2⟩))⟩, ⟨rfl, rfl, rfl⟩, ⟨hM0, hM1, hM2, hM3, hM4, hM5, hM6, hM7, hM8, hM9, hM10, hM11, hM12, hM13, hM14, hM15, hM16, by omega, by omega⟩⟩, hn, fr⟩
      refine xa_tableOut (pc := 40) (tgt := 106) dX10_run_40 ⟨by omega, by omega⟩ (by omega) (by decide) ?_
      refine xa_aload_n (pc := 106) dX10_run_106 rfl ?_
      refine xa_aload_n (pc := 107) dX10_run_107 rfl ?_
      refine xa_getfield (pc := 108) dX10_run_108 flRX10_164 (by omega) (by omega) hM0 rfl ?_
      refine xa_callV (pc := 111) (as := [xa_i (mE jo wa sr c)]) (rest := []) dX10_run_111 ⟨qX10_isStraight.1, qX10_isStraight.2.1, qX10_isStraight.2.2, by decide, by decide⟩ lkRX10_197 imX10_isStraight seX10_isStraight rfl rfl (by omega) (by omega) hM0 rfl (Nat.le_of_ble_eq_true rfl) (Nat.zero_le _) (Nat.zero_le _) (c_kStraight (F := F) (s := xa_upf (xa_upf (xa_upf (xa_upf s 14 pu) 17 (mE jo wa sr c)) 18 ((0 + u) % 360)) 19 ((m : Nat) : Int)) ho ⟨hM0, hM1, hM2, hM3, hM4, hM5, hM6, hM7, hM8, hM9, hM10, hM11, hM12, hM13, hM14, hM15, hM16, by omega, by omega⟩ hc) (fun r h' hq => ?_)
      obtain ⟨rfl, hq⟩ := hq
      have hq := hq.symm
      subst hq
      refine xa_if_eq (pc := 114) (tgt := 121) dX10_run_114 (by decide) xa_okb (fun c_114 => ?_) (fun c_114 => ?_)
      · have c_114 := xa_b0.mp c_114
        refine xa_iconst (pc := 121) dX10_run_121 ?_
        refine xa_ireturn (pc := 122) dX10_run_122 rfl trivial ?_
        have hdone : cr_done ld dg pa jo wa sr pu (wy (F 10) (v : Int)) (F 9 v).toNat m c u := ⟨by omega, hrun, fun q => hfail (by omega) (by omega)⟩
        exact ⟨⟨_, xa_upf (xa_upf (xa_upf (xa_upf s 14 pu) 17 (mE jo wa sr c)) 18 ((0 + u) % 360)) 19 ((m : Nat) : Int), rfl, Or.inr ⟨by omega, m, c, u, hdone, (by rw [if_neg (by omega), if_neg (by omega), if_neg (by omega)]; exact xa_bf (c_114))⟩, ⟨rfl, rfl, rfl⟩, ⟨hM0, hM1, hM2, hM3, hM4, hM5, hM6, hM7, hM8, hM9, hM10, hM11, hM12, hM13, hM14, hM15, hM16, by omega, by omega⟩⟩, hn, fr⟩
      · have c_114 := xa_b1.mp c_114
        refine xa_iconst (pc := 117) dX10_run_117 ?_
        refine xa_goto (pc := 118) (tgt := 122) dX10_run_118 (by decide) ?_
        refine xa_ireturn (pc := 122) dX10_run_122 rfl trivial ?_
        have hdone : cr_done ld dg pa jo wa sr pu (wy (F 10) (v : Int)) (F 9 v).toNat m c u := ⟨by omega, hrun, fun q => hfail (by omega) (by omega)⟩
        exact ⟨⟨_, xa_upf (xa_upf (xa_upf (xa_upf s 14 pu) 17 (mE jo wa sr c)) 18 ((0 + u) % 360)) 19 ((m : Nat) : Int), rfl, Or.inr ⟨by omega, m, c, u, hdone, (by rw [if_neg (by omega), if_neg (by omega), if_neg (by omega)]; exact xa_bt (c_114))⟩, ⟨rfl, rfl, rfl⟩, ⟨hM0, hM1, hM2, hM3, hM4, hM5, hM6, hM7, hM8, hM9, hM10, hM11, hM12, hM13, hM14, hM15, hM16, by omega, by omega⟩⟩, hn, fr⟩
    · have c_16 := xa_b0.mp c_16
      refine xa_iconst (pc := 19) dX10_run_19 ?_
      refine xa_ireturn (pc := 20) dX10_run_20 rfl trivial ?_
      exact ⟨⟨_, s, rfl, Or.inl ⟨by omega, rfl⟩, ⟨rfl, rfl, rfl⟩, ⟨hM0, hM1, hM2, hM3, hM4, hM5, hM6, hM7, hM8, hM9, hM10, hM11, hM12, hM13, hM14, hM15, hM16, by omega, by omega⟩⟩, hn, fr⟩
theorem c_mSpun {G : xa_G} {h : xa_H} (k : Nat) (w : Int) (F : Nat → Nat → Int) (s : Nat → Int) (ld dg : Nat → Int) (pa jo : Nat) (wa sr pu ri : Int) (h1 : xa_ok w) (ho : mOk F ld dg pa jo wa sr pu ri) (hM : xM h k F s)  : xa_M G mX10_spun [xa_r k, xa_i w] h 0 0 (fun r h' => (∃ (r0 : Int) (s' : Nat → Int), r = some (xa_i r0) ∧ sq_spun ld dg pa jo wa sr pu (F 10) (F 9) w r0 ∧ msF s s' ∧ xM h' k F s') ∧ h'.2 = h.2 ∧ ∀ i, (i < k ∨ k + 17 ≤ i) → h'.1 i = h.1 i) := by
  refine xa_enter (by decide +kernel) (Nat.le_of_ble_eq_true rfl) ?_
  refine xa_locals (ls' := [some (xa_r k), some (xa_i w)]) rfl ?_
  have hn : h.2 = h.2 := rfl
  have fr : ∀ i, (i < k ∨ k + 17 ≤ i) → h.1 i = h.1 i := fun _ _ => rfl
  obtain ⟨hM0, hM1, hM2, hM3, hM4, hM5, hM6, hM7, hM8, hM9, hM10, hM11, hM12, hM13, hM14, hM15, hM16, hMk, hMn⟩ := hM
  have hpa := ho.1.1
  have hR := ho.2.1.1
  refine xa_iload_n (pc := 0) dX10_spun_0 rfl ?_
  refine xa_callS (pc := 1) (as := [xa_i w]) (rest := []) dX10_spun_1 ⟨qX10_isWay.1, qX10_isWay.2.1, qX10_isWay.2.2, by decide, by decide⟩ lkRX10_156 smX10_isWay rfl rfl (Nat.le_of_ble_eq_true rfl) (Nat.zero_le _) (Nat.zero_le _) (c_mWay _ ⟨by omega, by omega⟩) (fun r h' hq => ?_)
  obtain ⟨rfl, hq⟩ := hq
  have hq := hq.symm
  subst hq
  refine xa_if_ne (pc := 4) (tgt := 9) dX10_spun_4 (by decide) xa_okb (fun c_4 => ?_) (fun c_4 => ?_)
  · have c_4 := xa_b1.mp c_4
    obtain ⟨v, rfl⟩ : ∃ v : Nat, w = (v : Int) := ⟨w.toNat, by omega⟩
    have ef : F 9 ((v : Nat) : Int).toNat = F 9 v := rfl
    refine xa_aload_n (pc := 9) dX10_spun_9 rfl ?_
    refine xa_aload_n (pc := 10) dX10_spun_10 rfl ?_
    refine xa_getfield (pc := 11) dX10_spun_11 flRX10_28 (by omega) (by omega) hM0 rfl ?_
    refine xa_iconst (pc := 14) dX10_spun_14 ?_
    refine xa_ialdw (pc := 15) 0 dX10_spun_15 (by omega) hM7 (by omega) (by omega) rfl ?_
    refine xa_top (y := pu) ho.2.2.2.1 ?_
    have hpb := ho.1.2.2.2.2.2.2.1
    refine xa_putw (pc := 16) [xa_i (s 0), xa_r (k + 1), xa_r (k + 2), xa_r (k + 3), xa_r (k + 4), xa_r (k + 5), xa_r (k + 6), xa_r (k + 7), xa_r (k + 8), xa_r (k + 9), xa_r (k + 10), xa_r (k + 11), xa_r (k + 12), xa_i (s 13), xa_i pu, xa_i (s 15), xa_r (k + 13), xa_i (s 17), xa_i (s 18), xa_i (s 19), xa_i (s 20), xa_r (k + 14), xa_r (k + 15), xa_i (s 23), xa_r (k + 16)] dX10_spun_16 flRX10_149 plX10_14 (by omega) (by omega) hM0 trivial rfl (fun h1 nh1 ch1 oh1 => ?_)
    have hM0 : h1.1 k = xa_o 10 [xa_i (s 0), xa_r (k + 1), xa_r (k + 2), xa_r (k + 3), xa_r (k + 4), xa_r (k + 5), xa_r (k + 6), xa_r (k + 7), xa_r (k + 8), xa_r (k + 9), xa_r (k + 10), xa_r (k + 11), xa_r (k + 12), xa_i (s 13), xa_i pu, xa_i (s 15), xa_r (k + 13), xa_i (s 17), xa_i (s 18), xa_i (s 19), xa_i (s 20), xa_r (k + 14), xa_r (k + 15), xa_i (s 23), xa_r (k + 16)] := ch1
    have hM1 : h1.1 (k + 1) = xa_a 120 (F 1) := (oh1 _ (by omega)).trans hM1
    have hM2 : h1.1 (k + 2) = xa_a 2 (F 2) := (oh1 _ (by omega)).trans hM2
    have hM3 : h1.1 (k + 3) = xa_a 18 (F 3) := (oh1 _ (by omega)).trans hM3
    have hM4 : h1.1 (k + 4) = xa_a 2 (F 4) := (oh1 _ (by omega)).trans hM4
    have hM5 : h1.1 (k + 5) = xa_a 4 (F 5) := (oh1 _ (by omega)).trans hM5
    have hM6 : h1.1 (k + 6) = xa_a 4 (F 6) := (oh1 _ (by omega)).trans hM6
    have hM7 : h1.1 (k + 7) = xa_a 2 (F 7) := (oh1 _ (by omega)).trans hM7
    have hM8 : h1.1 (k + 8) = xa_a 2 (F 8) := (oh1 _ (by omega)).trans hM8
    have hM9 : h1.1 (k + 9) = xa_a 12 (F 9) := (oh1 _ (by omega)).trans hM9
    have hM10 : h1.1 (k + 10) = xa_a 720 (F 10) := (oh1 _ (by omega)).trans hM10
    have hM11 : h1.1 (k + 11) = xa_a 3 (F 11) := (oh1 _ (by omega)).trans hM11
    have hM12 : h1.1 (k + 12) = xa_a 360 (F 12) := (oh1 _ (by omega)).trans hM12
    have hM13 : h1.1 (k + 13) = xa_a 3 (F 13) := (oh1 _ (by omega)).trans hM13
    have hM14 : h1.1 (k + 14) = xa_a 583200 (F 14) := (oh1 _ (by omega)).trans hM14
    have hM15 : h1.1 (k + 15) = xa_a 583200 (F 15) := (oh1 _ (by omega)).trans hM15
    have hM16 : h1.1 (k + 16) = xa_a 4 (F 16) := (oh1 _ (by omega)).trans hM16
    have hn : h1.2 = h.2 := nh1.trans hn
    have fr : ∀ i, (i < k ∨ k + 17 ≤ i) → h1.1 i = h.1 i := fun i hi => (oh1 i (by omega)).trans (fr i hi)
    refine xa_aload_n (pc := 19) dX10_spun_19 rfl ?_
    refine xa_iload_n (pc := 20) dX10_spun_20 rfl ?_
    refine xa_iconst (pc := 21) dX10_spun_21 ?_
    refine xa_bipush (pc := 22) dX10_spun_22 rfl ?_
    refine xa_callV (pc := 24) (as := [xa_i ((v : Nat) : Int), xa_i 0, xa_i 60]) (rest := []) dX10_spun_24 ⟨qX10_go.1, qX10_go.2.1, qX10_go.2.2, by decide, by decide⟩ lkRX10_187 imX10_go seX10_go rfl rfl (by omega) (by omega) hM0 rfl (Nat.le_of_ble_eq_true rfl) (Nat.zero_le _) (Nat.zero_le _) (c_mGo _ v 0 60 F (xa_upf s 14 pu) ld dg pa jo wa sr pu ri (by omega) (by omega) (by omega) ho (by show -9999 ≤ pu ∧ pu ≤ 9999; omega) ⟨hM0, hM1, hM2, hM3, hM4, hM5, hM6, hM7, hM8, hM9, hM10, hM11, hM12, hM13, hM14, hM15, hM16, by omega, by omega⟩) (fun r h' hq => ?_)
    obtain ⟨⟨rfl, m, c, u, hm, hm2, hrun, hc, hfail, hM⟩, hqn, hqf⟩ := hq
    obtain ⟨hM0, hM1, hM2, hM3, hM4, hM5, hM6, hM7, hM8, hM9, hM10, hM11, hM12, hM13, hM14, hM15, hM16, hMk, hMn⟩ := hM
    have hM0 : h'.1 k = xa_o 10 [xa_i (s 0), xa_r (k + 1), xa_r (k + 2), xa_r (k + 3), xa_r (k + 4), xa_r (k + 5), xa_r (k + 6), xa_r (k + 7), xa_r (k + 8), xa_r (k + 9), xa_r (k + 10), xa_r (k + 11), xa_r (k + 12), xa_i (s 13), xa_i pu, xa_i (s 15), xa_r (k + 13), xa_i (mE jo wa sr c), xa_i ((0 + u) % 360), xa_i ((m : Nat) : Int), xa_i (s 20), xa_r (k + 14), xa_r (k + 15), xa_i (s 23), xa_r (k + 16)] := hM0
    have hM1 : h'.1 (k + 1) = xa_a 120 (F 1) := hM1
    have hM2 : h'.1 (k + 2) = xa_a 2 (F 2) := hM2
    have hM3 : h'.1 (k + 3) = xa_a 18 (F 3) := hM3
    have hM4 : h'.1 (k + 4) = xa_a 2 (F 4) := hM4
    have hM5 : h'.1 (k + 5) = xa_a 4 (F 5) := hM5
    have hM6 : h'.1 (k + 6) = xa_a 4 (F 6) := hM6
    have hM7 : h'.1 (k + 7) = xa_a 2 (F 7) := hM7
    have hM8 : h'.1 (k + 8) = xa_a 2 (F 8) := hM8
    have hM9 : h'.1 (k + 9) = xa_a 12 (F 9) := hM9
    have hM10 : h'.1 (k + 10) = xa_a 720 (F 10) := hM10
    have hM11 : h'.1 (k + 11) = xa_a 3 (F 11) := hM11
    have hM12 : h'.1 (k + 12) = xa_a 360 (F 12) := hM12
    have hM13 : h'.1 (k + 13) = xa_a 3 (F 13) := hM13
    have hM14 : h'.1 (k + 14) = xa_a 583200 (F 14) := hM14
    have hM15 : h'.1 (k + 15) = xa_a 583200 (F 15) := hM15
    have hM16 : h'.1 (k + 16) = xa_a 4 (F 16) := hM16
    have hn : h'.2 = h.2 := hqn.trans hn
    have fr : ∀ i, (i < k ∨ k + 17 ≤ i) → h'.1 i = h.1 i := fun i hi => (hqf i (by omega)).trans (fr i hi)
    have hmb := mE_9 ho.1 ho.2.1 hc
    have h9 := ho.2.2.2.2.2.1 v
    refine xa_aload_n (pc := 27) dX10_spun_27 rfl ?_
    refine xa_getfield (pc := 28) dX10_spun_28 flRX10_167 (by omega) (by omega) hM0 rfl ?_
    refine xa_ireturn (pc := 31) dX10_spun_31 rfl trivial ?_
    have hdone : cr_done ld dg pa jo wa sr pu (wy (F 10) (v : Int)) (F 9 v).toNat m c u := ⟨by omega, hrun, fun q => hfail (by omega) (by omega)⟩
    exact ⟨⟨_, xa_upf (xa_upf (xa_upf (xa_upf s 14 pu) 17 (mE jo wa sr c)) 18 ((0 + u) % 360)) 19 ((m : Nat) : Int), rfl, Or.inr ⟨by omega, m, c, u, hdone, by rw [Int.zero_add]⟩, ⟨rfl, rfl, rfl⟩, ⟨hM0, hM1, hM2, hM3, hM4, hM5, hM6, hM7, hM8, hM9, hM10, hM11, hM12, hM13, hM14, hM15, hM16, by omega, by omega⟩⟩, hn, fr⟩
  · have c_4 := xa_b0.mp c_4
    refine xa_iconst (pc := 7) dX10_spun_7 ?_
    refine xa_ireturn (pc := 8) dX10_spun_8 rfl trivial ?_
    exact ⟨⟨_, s, rfl, Or.inl ⟨by omega, rfl⟩, ⟨rfl, rfl, rfl⟩, ⟨hM0, hM1, hM2, hM3, hM4, hM5, hM6, hM7, hM8, hM9, hM10, hM11, hM12, hM13, hM14, hM15, hM16, by omega, by omega⟩⟩, hn, fr⟩
theorem c_mTimes {G : xa_G} {h : xa_H} (k : Nat) (w n : Int) (F : Nat → Nat → Int) (s : Nat → Int) (ld dg : Nat → Int) (pa jo : Nat) (wa sr pu ri : Int) (h1 : xa_ok w) (h2 : xa_ok n) (ho : mOk F ld dg pa jo wa sr pu ri) (hM : xM h k F s)  : xa_M G mX10_times [xa_r k, xa_i w, xa_i n] h 0 0 (fun r h' => (∃ (r0 : Int) (s' : Nat → Int), r = some (xa_i r0) ∧ sq_times ld dg pa jo wa sr pu (F 10) (F 9) w n r0 ∧ msF s s' ∧ xM h' k F s') ∧ h'.2 = h.2 ∧ ∀ i, (i < k ∨ k + 17 ≤ i) → h'.1 i = h.1 i) := by
  refine xa_enter (by decide +kernel) (Nat.le_of_ble_eq_true rfl) ?_
  refine xa_locals (ls' := [some (xa_r k), some (xa_i w), some (xa_i n)]) rfl ?_
  have hn : h.2 = h.2 := rfl
  have fr : ∀ i, (i < k ∨ k + 17 ≤ i) → h.1 i = h.1 i := fun _ _ => rfl
  obtain ⟨hM0, hM1, hM2, hM3, hM4, hM5, hM6, hM7, hM8, hM9, hM10, hM11, hM12, hM13, hM14, hM15, hM16, hMk, hMn⟩ := hM
  have hpa := ho.1.1
  have hR := ho.2.1.1
  refine xa_iload_n (pc := 0) dX10_times_0 rfl ?_
  refine xa_callS (pc := 1) (as := [xa_i w]) (rest := []) dX10_times_1 ⟨qX10_isWay.1, qX10_isWay.2.1, qX10_isWay.2.2, by decide, by decide⟩ lkRX10_156 smX10_isWay rfl rfl (Nat.le_of_ble_eq_true rfl) (Nat.zero_le _) (Nat.zero_le _) (c_mWay _ ⟨by omega, by omega⟩) (fun r h' hq => ?_)
  obtain ⟨rfl, hq⟩ := hq
  have hq := hq.symm
  subst hq
  refine xa_if_eq (pc := 4) (tgt := 19) dX10_times_4 (by decide) xa_okb (fun c_4 => ?_) (fun c_4 => ?_)
  · have c_4 := xa_b0.mp c_4
    refine xa_iconst (pc := 19) dX10_times_19 ?_
    refine xa_ireturn (pc := 20) dX10_times_20 rfl trivial ?_
    exact ⟨⟨_, s, rfl, Or.inl ⟨by omega, rfl⟩, ⟨rfl, rfl, rfl⟩, ⟨hM0, hM1, hM2, hM3, hM4, hM5, hM6, hM7, hM8, hM9, hM10, hM11, hM12, hM13, hM14, hM15, hM16, by omega, by omega⟩⟩, hn, fr⟩
  · have c_4 := xa_b1.mp c_4
    refine xa_iload_n (pc := 7) dX10_times_7 rfl ?_
    refine xa_i2l (pc := 8) dX10_times_8 ⟨by omega, by omega⟩ ?_
    refine xa_lconst (pc := 9) (n := 1) dX10_times_9 rfl ?_
    refine xa_ldc2 (pc := 10) (n := 1000) dX10_times_10 ctRX10_200 rfl ?_
    refine xa_callS (pc := 13) (as := [xa_l n, xa_l 1, xa_l 1000]) (rest := []) dX10_times_13 ⟨qX10_in.1, qX10_in.2.1, qX10_in.2.2, by decide, by decide⟩ lkRX10_65 smX10_in rfl rfl (Nat.le_of_ble_eq_true rfl) (Nat.zero_le _) (Nat.zero_le _) (c_in _ _ _ ⟨by omega, by omega⟩ ⟨by omega, by omega⟩ ⟨by omega, by omega⟩) (fun r h' hq => ?_)
    obtain ⟨rfl, hq⟩ := hq
    have hq := hq.symm
    subst hq
    refine xa_if_ne (pc := 16) (tgt := 21) dX10_times_16 (by decide) xa_okb (fun c_16 => ?_) (fun c_16 => ?_)
    · have c_16 := xa_b1.mp c_16
      obtain ⟨v, rfl⟩ : ∃ v : Nat, w = (v : Int) := ⟨w.toNat, by omega⟩
      have ef : F 9 ((v : Nat) : Int).toNat = F 9 v := rfl
      refine xa_aload_n (pc := 21) dX10_times_21 rfl ?_
      refine xa_aload_n (pc := 22) dX10_times_22 rfl ?_
      refine xa_getfield (pc := 23) dX10_times_23 flRX10_28 (by omega) (by omega) hM0 rfl ?_
      refine xa_iconst (pc := 26) dX10_times_26 ?_
      refine xa_ialdw (pc := 27) 0 dX10_times_27 (by omega) hM7 (by omega) (by omega) rfl ?_
      refine xa_top (y := pu) ho.2.2.2.1 ?_
      have hpb := ho.1.2.2.2.2.2.2.1
      refine xa_putw (pc := 28) [xa_i (s 0), xa_r (k + 1), xa_r (k + 2), xa_r (k + 3), xa_r (k + 4), xa_r (k + 5), xa_r (k + 6), xa_r (k + 7), xa_r (k + 8), xa_r (k + 9), xa_r (k + 10), xa_r (k + 11), xa_r (k + 12), xa_i (s 13), xa_i pu, xa_i (s 15), xa_r (k + 13), xa_i (s 17), xa_i (s 18), xa_i (s 19), xa_i (s 20), xa_r (k + 14), xa_r (k + 15), xa_i (s 23), xa_r (k + 16)] dX10_times_28 flRX10_149 plX10_14 (by omega) (by omega) hM0 trivial rfl (fun h1 nh1 ch1 oh1 => ?_)
      have hM0 : h1.1 k = xa_o 10 [xa_i (s 0), xa_r (k + 1), xa_r (k + 2), xa_r (k + 3), xa_r (k + 4), xa_r (k + 5), xa_r (k + 6), xa_r (k + 7), xa_r (k + 8), xa_r (k + 9), xa_r (k + 10), xa_r (k + 11), xa_r (k + 12), xa_i (s 13), xa_i pu, xa_i (s 15), xa_r (k + 13), xa_i (s 17), xa_i (s 18), xa_i (s 19), xa_i (s 20), xa_r (k + 14), xa_r (k + 15), xa_i (s 23), xa_r (k + 16)] := ch1
      have hM1 : h1.1 (k + 1) = xa_a 120 (F 1) := (oh1 _ (by omega)).trans hM1
      have hM2 : h1.1 (k + 2) = xa_a 2 (F 2) := (oh1 _ (by omega)).trans hM2
      have hM3 : h1.1 (k + 3) = xa_a 18 (F 3) := (oh1 _ (by omega)).trans hM3
      have hM4 : h1.1 (k + 4) = xa_a 2 (F 4) := (oh1 _ (by omega)).trans hM4
      have hM5 : h1.1 (k + 5) = xa_a 4 (F 5) := (oh1 _ (by omega)).trans hM5
      have hM6 : h1.1 (k + 6) = xa_a 4 (F 6) := (oh1 _ (by omega)).trans hM6
      have hM7 : h1.1 (k + 7) = xa_a 2 (F 7) := (oh1 _ (by omega)).trans hM7
      have hM8 : h1.1 (k + 8) = xa_a 2 (F 8) := (oh1 _ (by omega)).trans hM8
      have hM9 : h1.1 (k + 9) = xa_a 12 (F 9) := (oh1 _ (by omega)).trans hM9
      have hM10 : h1.1 (k + 10) = xa_a 720 (F 10) := (oh1 _ (by omega)).trans hM10
      have hM11 : h1.1 (k + 11) = xa_a 3 (F 11) := (oh1 _ (by omega)).trans hM11
      have hM12 : h1.1 (k + 12) = xa_a 360 (F 12) := (oh1 _ (by omega)).trans hM12
      have hM13 : h1.1 (k + 13) = xa_a 3 (F 13) := (oh1 _ (by omega)).trans hM13
      have hM14 : h1.1 (k + 14) = xa_a 583200 (F 14) := (oh1 _ (by omega)).trans hM14
      have hM15 : h1.1 (k + 15) = xa_a 583200 (F 15) := (oh1 _ (by omega)).trans hM15
      have hM16 : h1.1 (k + 16) = xa_a 4 (F 16) := (oh1 _ (by omega)).trans hM16
      have hn : h1.2 = h.2 := nh1.trans hn
      have fr : ∀ i, (i < k ∨ k + 17 ≤ i) → h1.1 i = h.1 i := fun i hi => (oh1 i (by omega)).trans (fr i hi)
      refine xa_aload_n (pc := 31) dX10_times_31 rfl ?_
      refine xa_iload_n (pc := 32) dX10_times_32 rfl ?_
      refine xa_iconst (pc := 33) dX10_times_33 ?_
      refine xa_bipush (pc := 34) dX10_times_34 rfl ?_
      refine xa_callV (pc := 36) (as := [xa_i ((v : Nat) : Int), xa_i 0, xa_i 60]) (rest := []) dX10_times_36 ⟨qX10_go.1, qX10_go.2.1, qX10_go.2.2, by decide, by decide⟩ lkRX10_187 imX10_go seX10_go rfl rfl (by omega) (by omega) hM0 rfl (Nat.le_of_ble_eq_true rfl) (Nat.zero_le _) (Nat.zero_le _) (c_mGo _ v 0 60 F (xa_upf s 14 pu) ld dg pa jo wa sr pu ri (by omega) (by omega) (by omega) ho (by show -9999 ≤ pu ∧ pu ≤ 9999; omega) ⟨hM0, hM1, hM2, hM3, hM4, hM5, hM6, hM7, hM8, hM9, hM10, hM11, hM12, hM13, hM14, hM15, hM16, by omega, by omega⟩) (fun r h' hq => ?_)
      obtain ⟨⟨rfl, m, c, u, hm, hm2, hrun, hc, hfail, hM⟩, hqn, hqf⟩ := hq
      obtain ⟨hM0, hM1, hM2, hM3, hM4, hM5, hM6, hM7, hM8, hM9, hM10, hM11, hM12, hM13, hM14, hM15, hM16, hMk, hMn⟩ := hM
      have hM0 : h'.1 k = xa_o 10 [xa_i (s 0), xa_r (k + 1), xa_r (k + 2), xa_r (k + 3), xa_r (k + 4), xa_r (k + 5), xa_r (k + 6), xa_r (k + 7), xa_r (k + 8), xa_r (k + 9), xa_r (k + 10), xa_r (k + 11), xa_r (k + 12), xa_i (s 13), xa_i pu, xa_i (s 15), xa_r (k + 13), xa_i (mE jo wa sr c), xa_i ((0 + u) % 360), xa_i ((m : Nat) : Int), xa_i (s 20), xa_r (k + 14), xa_r (k + 15), xa_i (s 23), xa_r (k + 16)] := hM0
      have hM1 : h'.1 (k + 1) = xa_a 120 (F 1) := hM1
      have hM2 : h'.1 (k + 2) = xa_a 2 (F 2) := hM2
      have hM3 : h'.1 (k + 3) = xa_a 18 (F 3) := hM3
      have hM4 : h'.1 (k + 4) = xa_a 2 (F 4) := hM4
      have hM5 : h'.1 (k + 5) = xa_a 4 (F 5) := hM5
      have hM6 : h'.1 (k + 6) = xa_a 4 (F 6) := hM6
      have hM7 : h'.1 (k + 7) = xa_a 2 (F 7) := hM7
      have hM8 : h'.1 (k + 8) = xa_a 2 (F 8) := hM8
      have hM9 : h'.1 (k + 9) = xa_a 12 (F 9) := hM9
      have hM10 : h'.1 (k + 10) = xa_a 720 (F 10) := hM10
      have hM11 : h'.1 (k + 11) = xa_a 3 (F 11) := hM11
      have hM12 : h'.1 (k + 12) = xa_a 360 (F 12) := hM12
      have hM13 : h'.1 (k + 13) = xa_a 3 (F 13) := hM13
      have hM14 : h'.1 (k + 14) = xa_a 583200 (F 14) := hM14
      have hM15 : h'.1 (k + 15) = xa_a 583200 (F 15) := hM15
      have hM16 : h'.1 (k + 16) = xa_a 4 (F 16) := hM16
      have hn : h'.2 = h.2 := hqn.trans hn
      have fr : ∀ i, (i < k ∨ k + 17 ≤ i) → h'.1 i = h.1 i := fun i hi => (hqf i (by omega)).trans (fr i hi)
      have hmb := mE_9 ho.1 ho.2.1 hc
      have h9 := ho.2.2.2.2.2.1 v
      refine xa_aload_n (pc := 39) dX10_times_39 rfl ?_
      refine xa_iload_n (pc := 40) dX10_times_40 rfl ?_
      refine xa_callV (pc := 41) (as := [xa_i ((v : Nat) : Int)]) (rest := []) dX10_times_41 ⟨qX10_closes.1, qX10_closes.2.1, qX10_closes.2.2, by decide, by decide⟩ lkRX10_194 imX10_closes seX10_closes rfl rfl (by omega) (by omega) hM0 rfl (Nat.le_of_ble_eq_true rfl) (Nat.zero_le _) (Nat.zero_le _) (c_mCloses (c := c) (m := m) _ v F (xa_upf (xa_upf (xa_upf (xa_upf s 14 pu) 17 (mE jo wa sr c)) 18 ((0 + u) % 360)) 19 ((m : Nat) : Int)) ld dg pa jo wa sr pu ri rfl rfl hc (by omega) (by omega) ho ⟨hM0, hM1, hM2, hM3, hM4, hM5, hM6, hM7, hM8, hM9, hM10, hM11, hM12, hM13, hM14, hM15, hM16, by omega, by omega⟩) (fun r h' hq => ?_)
      obtain ⟨rfl, hq⟩ := hq
      have hq := hq.symm
      subst hq
      refine xa_if_eq (pc := 44) (tgt := 60) dX10_times_44 (by decide) xa_okb (fun c_44 => ?_) (fun c_44 => ?_)
      · have c_44 := xa_b0.mp c_44
        refine xa_bipush (pc := 60) dX10_times_60 rfl ?_
        refine xa_ireturn (pc := 62) dX10_times_62 rfl trivial ?_
        have hdone : cr_done ld dg pa jo wa sr pu (wy (F 10) (v : Int)) (F 9 v).toNat m c u := ⟨by omega, hrun, fun q => hfail (by omega) (by omega)⟩
        exact ⟨⟨_, xa_upf (xa_upf (xa_upf (xa_upf s 14 pu) 17 (mE jo wa sr c)) 18 ((0 + u) % 360)) 19 ((m : Nat) : Int), rfl, Or.inr ⟨by omega, m, c, u, hdone, (by rw [if_neg (fun z => c_44 ⟨by have : m = (F 9 v).toNat := z.1; omega, z.2⟩)])⟩, ⟨rfl, rfl, rfl⟩, ⟨hM0, hM1, hM2, hM3, hM4, hM5, hM6, hM7, hM8, hM9, hM10, hM11, hM12, hM13, hM14, hM15, hM16, by omega, by omega⟩⟩, hn, fr⟩
      · have c_44 := xa_b1.mp c_44
        refine xa_aload_n (pc := 47) dX10_times_47 rfl ?_
        refine xa_getfield (pc := 48) dX10_times_48 flRX10_167 (by omega) (by omega) hM0 rfl ?_
        refine xa_iload_n (pc := 51) dX10_times_51 rfl ?_
        have nb : 0 ≤ (0 + u) % 360 * n ∧ (0 + u) % 360 * n ≤ 360000 := by
          have z1 := Int.mul_le_mul_of_nonneg_right (show (0 + u) % 360 ≤ 360 by omega) (show 0 ≤ n by omega)
          have z2 := Int.mul_nonneg (show 0 ≤ (0 + u) % 360 by omega) (show 0 ≤ n by omega)
          omega
        refine xa_imul (pc := 52) dX10_times_52 ?_
        refine xa_sipush (pc := 53) dX10_times_53 rfl ?_
        refine xa_iremn (pc := 56) dX10_times_56 ⟨by omega, by omega⟩ (by decide) (by omega) (by omega) ?_
        refine xa_goto (pc := 57) (tgt := 62) dX10_times_57 (by decide) ?_
        refine xa_ireturn (pc := 62) dX10_times_62 rfl trivial ?_
        have hdone : cr_done ld dg pa jo wa sr pu (wy (F 10) (v : Int)) (F 9 v).toNat m c u := ⟨by omega, hrun, fun q => hfail (by omega) (by omega)⟩
        exact ⟨⟨_, xa_upf (xa_upf (xa_upf (xa_upf s 14 pu) 17 (mE jo wa sr c)) 18 ((0 + u) % 360)) 19 ((m : Nat) : Int), rfl, Or.inr ⟨by omega, m, c, u, hdone, (by rw [if_pos ⟨by show m = (F 9 v).toNat; have := c_44.1; omega, c_44.2⟩, Int.zero_add])⟩, ⟨rfl, rfl, rfl⟩, ⟨hM0, hM1, hM2, hM3, hM4, hM5, hM6, hM7, hM8, hM9, hM10, hM11, hM12, hM13, hM14, hM15, hM16, by omega, by omega⟩⟩, hn, fr⟩
    · have c_16 := xa_b0.mp c_16
      refine xa_iconst (pc := 19) dX10_times_19 ?_
      refine xa_ireturn (pc := 20) dX10_times_20 rfl trivial ?_
      exact ⟨⟨_, s, rfl, Or.inl ⟨by omega, rfl⟩, ⟨rfl, rfl, rfl⟩, ⟨hM0, hM1, hM2, hM3, hM4, hM5, hM6, hM7, hM8, hM9, hM10, hM11, hM12, hM13, hM14, hM15, hM16, by omega, by omega⟩⟩, hn, fr⟩
