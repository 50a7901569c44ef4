/-! The class: ways, films, heads -/
/-- the object itself -/
def xX0 (h : xa_H) (k : Nat) (kp : Int) : Prop := h.1 k = xa_o 9 [xa_r (k + 1), xa_r (k + 3), xa_r (k + 6), xa_r (k + 9), xa_r (k + 11), xa_r (k + 15), xa_i kp, xa_r (k + 24), xa_r (k + 31), xa_r (k + 32), xa_r (k + 36), xa_r (k + 48), xa_r (k + 60)] ∧ 2 ≤ k ∧ k + 71 < h.2
/-- the trace, whatever was followed last -/
def xTS (h : xa_H) (k : Nat) : Prop := ∃ (tu lo dr : Nat → Int) (dn : Nat) (al : Int) (po sp : Nat → Int) (tj tb : Int), xTr h (k + 24) (k + 3) tu lo dr dn al ∧ xS h (k + 24 + 4) (k + 3) po sp tj tb ∧ (∀ i, 0 ≤ po i ∧ po i ≤ 2) ∧ (∀ i, -2 ≤ sp i ∧ sp i ≤ 12) ∧ (tj = 0 ∨ tj = 1) ∧ dr 0 = 0
theorem mvat_wy (mv : Nat → Int) {w i : Nat} (hw : w ≤ 3) (hi : i < 60) : sp_mvat mv ((w : Nat) : Int) ((i : Nat) : Int) = wy mv ((w : Nat) : Int) i := by
  unfold sp_mvat wy
  rw [if_pos (by omega)]
  congr 1
  omega
theorem xa_beq {p : Prop} [Decidable p] : xa_b p = 1 ↔ p := by unfold xa_b; split <;> simp [*]
theorem drf_z {dr lo : Nat → Int} {push : Int} {m : Nat} (h : dr 0 = 0) : sp_drf dr push lo m 0 = 0 := by
  unfold sp_drf
  rw [if_neg (by omega)]
  exact h

theorem c_xPart {G : xa_G} {h : xa_H} (k : Nat) (kp : Int) (ld dg : Nat → Int) (pa jo : Nat) (wa sr pu ri p : Int) (hpp : xa_ok p ∧ pa ≤ 3) (hX : xX0 h k kp) (hB : xB h (k + 3) ld dg pa jo wa sr pu ri)  : xa_M G mX9_isPart [xa_r k, xa_i p] h 0 0 (fun r h' => r = some (xa_i (xa_b (0 ≤ p ∧ p ≤ (pa : Int) - 1))) ∧ h' = h) := by
  refine xa_enter (by decide +kernel) (Nat.le_of_ble_eq_true rfl) ?_
  refine xa_locals (ls' := [some (xa_r k), some (xa_i p)]) rfl ?_
  obtain ⟨hX0, hk, hkn⟩ := hX
  obtain ⟨hB0, hB1, hB2, hBk, hBn⟩ := hB
  refine xa_iload_n (pc := 0) dX9_isPart_0 rfl ?_
  refine xa_iconst (pc := 1) dX9_isPart_1 ?_
  refine xa_aload_n (pc := 2) dX9_isPart_2 rfl ?_
  refine xa_getfield (pc := 3) dX9_isPart_3 flRX9_19 (by omega) (by omega) hX0 rfl ?_
  refine xa_getfield (pc := 6) dX9_isPart_6 flRX9_124 (by omega) (by omega) hB0 rfl ?_
  refine xa_iconst (pc := 9) dX9_isPart_9 ?_
  refine xa_isub (pc := 10) dX9_isPart_10 ?_
  refine xa_callS (pc := 11) (as := [xa_i p, xa_i 0, xa_i (((pa : Nat) : Int) - 1)]) (rest := []) dX9_isPart_11 ⟨qX9_isWithin.1, qX9_isWithin.2.1, qX9_isWithin.2.2, by decide, by decide⟩ lkRX9_89 smX9_isWithin rfl rfl (Nat.le_of_ble_eq_true rfl) (Nat.zero_le _) (Nat.zero_le _) (c_isWithin _ _ _ ⟨by omega, by omega⟩ (by decide) ⟨by omega, by omega⟩) (fun r h' hq => ?_)
  obtain ⟨rfl, hq⟩ := hq
  have hq := hq.symm
  subst hq
  refine xa_ireturn (pc := 14) dX9_isPart_14 rfl xa_bq ?_
  exact ⟨congrArg (fun z => some (xa_i z)) (xa_bc (show (0 ≤ p ∧ p ≤ (((pa : Nat) : Int) - 1)) ↔ (0 ≤ p ∧ p ≤ (pa : Int) - 1) by omega)), rfl⟩
theorem c_xJoint {G : xa_G} {h : xa_H} (k : Nat) (kp : Int) (ld dg : Nat → Int) (pa jo : Nat) (wa sr pu ri p : Int) (hpp : xa_ok p ∧ jo ≤ 3) (hX : xX0 h k kp) (hB : xB h (k + 3) ld dg pa jo wa sr pu ri)  : xa_M G mX9_isJoint [xa_r k, xa_i p] h 0 0 (fun r h' => r = some (xa_i (xa_b (0 ≤ p ∧ p ≤ (jo : Int) - 1))) ∧ h' = h) := by
  refine xa_enter (by decide +kernel) (Nat.le_of_ble_eq_true rfl) ?_
  refine xa_locals (ls' := [some (xa_r k), some (xa_i p)]) rfl ?_
  obtain ⟨hX0, hk, hkn⟩ := hX
  obtain ⟨hB0, hB1, hB2, hBk, hBn⟩ := hB
  refine xa_iload_n (pc := 0) dX9_isJoint_0 rfl ?_
  refine xa_iconst (pc := 1) dX9_isJoint_1 ?_
  refine xa_aload_n (pc := 2) dX9_isJoint_2 rfl ?_
  refine xa_getfield (pc := 3) dX9_isJoint_3 flRX9_19 (by omega) (by omega) hX0 rfl ?_
  refine xa_getfield (pc := 6) dX9_isJoint_6 flRX9_214 (by omega) (by omega) hB0 rfl ?_
  refine xa_iconst (pc := 9) dX9_isJoint_9 ?_
  refine xa_isub (pc := 10) dX9_isJoint_10 ?_
  refine xa_callS (pc := 11) (as := [xa_i p, xa_i 0, xa_i (((jo : Nat) : Int) - 1)]) (rest := []) dX9_isJoint_11 ⟨qX9_isWithin.1, qX9_isWithin.2.1, qX9_isWithin.2.2, by decide, by decide⟩ lkRX9_89 smX9_isWithin rfl rfl (Nat.le_of_ble_eq_true rfl) (Nat.zero_le _) (Nat.zero_le _) (c_isWithin _ _ _ ⟨by omega, by omega⟩ (by decide) ⟨by omega, by omega⟩) (fun r h' hq => ?_)
  obtain ⟨rfl, hq⟩ := hq
  have hq := hq.symm
  subst hq
  refine xa_ireturn (pc := 14) dX9_isJoint_14 rfl xa_bq ?_
  exact ⟨congrArg (fun z => some (xa_i z)) (xa_bc (show (0 ≤ p ∧ p ≤ (((jo : Nat) : Int) - 1)) ↔ (0 ≤ p ∧ p ≤ (jo : Int) - 1) by omega)), rfl⟩
theorem c_xTurn {G : xa_G} {h : xa_H} (k : Nat) (kp : Int) (ld dg : Nat → Int) (pa jo : Nat) (wa sr pu ri : Int) (mv le fi : Nat → Int) (pc : Nat) (w turn t p : Int) (h1 : xa_ok w) (h2 : xa_ok turn) (h3 : xa_ok t) (h4 : xa_ok p) (hB9 : vB ld dg pa jo wa sr pu ri) (hmvb : ∀ i, 0 ≤ mv i ∧ mv i ≤ 18) (hle : ∀ i, 0 ≤ le i ∧ le i ≤ 60) (hfi : fiOk pa fi pc) (hX : xX0 h k kp) (hB : xB h (k + 3) ld dg pa jo wa sr pu ri) (hH : xH h (k + 11) mv le fi pc) (hTS : xTS h k)  : xa_M G mX9_turn [xa_r k, xa_i w, xa_i turn, xa_i t, xa_i p] h 0 0 (fun r h' => (∃ r0, r = some (xa_i r0) ∧ sq_turn ld dg pa jo wa sr pu mv le w turn t p r0) ∧ xTS h' k ∧ h'.2 = h.2 ∧ ∀ i, (i < k + 24 ∨ k + 31 ≤ i) → h'.1 i = h.1 i) := by
  refine xa_enter (by decide +kernel) (Nat.le_of_ble_eq_true rfl) ?_
  refine xa_locals (ls' := [some (xa_r k), some (xa_i w), some (xa_i turn), some (xa_i t), some (xa_i p)]) rfl ?_
  have hn : h.2 = h.2 := rfl
  have fr : ∀ i, (i < k + 24 ∨ k + 31 ≤ i) → h.1 i = h.1 i := fun _ _ => rfl
  have hTS0 := hTS
  have hX' := hX
  obtain ⟨hX0, hk, hkn⟩ := hX
  obtain ⟨hB0, hB1, hB2, hBk, hBn⟩ := hB
  obtain ⟨hH0, hH1, hH2, hH3, hHk, hHn⟩ := hH
  obtain ⟨tu, lo, dr, dn, al, po, sp, tj, tb, ⟨hT0, hT1, hT2, hT3, -, -⟩, ⟨hS0, hS1, hS2, -, -⟩, hpo, hsp, htj, hdr0⟩ := hTS
  have h0' := hB9.1
  have hw9 := hB9.wag
  have hwa : xa_ok wa := by omega
  have hsr : 0 ≤ sr ∧ sr ≤ 12 := by omega
  have hpu := hB9.2.2.2.2.2.2.1
  have hri := hB9.2.2.2.2.2.2.2
  clear hw9
  refine xa_iload_n (pc := 0) dX9_turn_0 rfl ?_
  refine xa_callS (pc := 1) (as := [xa_i w]) (rest := []) dX9_turn_1 ⟨qX9_isWay.1, qX9_isWay.2.1, qX9_isWay.2.2, by decide, by decide⟩ lkRX9_150 smX9_isWay rfl rfl (Nat.le_of_ble_eq_true rfl) (Nat.zero_le _) (Nat.zero_le _) (c_isWay _ ⟨by omega, by omega⟩) (fun r h' hq => ?_)
  obtain ⟨rfl, hq⟩ := hq
  have hq := hq.symm
  subst hq
  refine xa_if_eq (pc := 4) (tgt := 33) dX9_turn_4 (by decide) xa_okb (fun c_4 => ?_) (fun c_4 => ?_)
  · have c_4 := xa_b0.mp c_4
    refine xa_iconst (pc := 33) dX9_turn_33 ?_
    refine xa_ireturn (pc := 34) dX9_turn_34 rfl trivial ?_
    exact ⟨⟨_, rfl, Or.inl ⟨by omega, rfl⟩⟩, hTS0, hn, fr⟩
  · have c_4 := xa_b1.mp c_4
    refine xa_iload_n (pc := 7) dX9_turn_7 rfl ?_
    refine xa_callS (pc := 8) (as := [xa_i turn]) (rest := []) dX9_turn_8 ⟨qX9_isTurn.1, qX9_isTurn.2.1, qX9_isTurn.2.2, by decide, by decide⟩ lkRX9_163 smX9_isTurn rfl rfl (Nat.le_of_ble_eq_true rfl) (Nat.zero_le _) (Nat.zero_le _) (c_isTurn _ ⟨by omega, by omega⟩) (fun r h' hq => ?_)
    obtain ⟨rfl, hq⟩ := hq
    have hq := hq.symm
    subst hq
    refine xa_if_eq (pc := 11) (tgt := 33) dX9_turn_11 (by decide) xa_okb (fun c_11 => ?_) (fun c_11 => ?_)
    · have c_11 := xa_b0.mp c_11
      refine xa_iconst (pc := 33) dX9_turn_33 ?_
      refine xa_ireturn (pc := 34) dX9_turn_34 rfl trivial ?_
      exact ⟨⟨_, rfl, Or.inl ⟨by omega, rfl⟩⟩, hTS0, hn, fr⟩
    · have c_11 := xa_b1.mp c_11
      refine xa_iload_n (pc := 14) dX9_turn_14 rfl ?_
      refine xa_iconst (pc := 15) dX9_turn_15 ?_
      refine xa_bipush (pc := 16) dX9_turn_16 rfl ?_
      refine xa_callS (pc := 18) (as := [xa_i t, xa_i 0, xa_i 60]) (rest := []) dX9_turn_18 ⟨qX9_isWithin.1, qX9_isWithin.2.1, qX9_isWithin.2.2, by decide, by decide⟩ lkRX9_89 smX9_isWithin rfl rfl (Nat.le_of_ble_eq_true rfl) (Nat.zero_le _) (Nat.zero_le _) (c_isWithin _ _ _ ⟨by omega, by omega⟩ (by decide) (by decide)) (fun r h' hq => ?_)
      obtain ⟨rfl, hq⟩ := hq
      have hq := hq.symm
      subst hq
      refine xa_if_eq (pc := 21) (tgt := 33) dX9_turn_21 (by decide) xa_okb (fun c_21 => ?_) (fun c_21 => ?_)
      · have c_21 := xa_b0.mp c_21
        refine xa_iconst (pc := 33) dX9_turn_33 ?_
        refine xa_ireturn (pc := 34) dX9_turn_34 rfl trivial ?_
        exact ⟨⟨_, rfl, Or.inl ⟨by omega, rfl⟩⟩, hTS0, hn, fr⟩
      · have c_21 := xa_b1.mp c_21
        refine xa_aload_n (pc := 24) dX9_turn_24 rfl ?_
        refine xa_iload (pc := 25) dX9_turn_25 rfl ?_
        refine xa_callV (pc := 27) (as := [xa_i p]) (rest := []) dX9_turn_27 ⟨qX9_isPart.1, qX9_isPart.2.1, qX9_isPart.2.2, by decide, by decide⟩ lkRX9_127 imX9_isPart seX9_isPart rfl rfl (by omega) (by omega) hX0 rfl (Nat.le_of_ble_eq_true rfl) (Nat.zero_le _) (Nat.zero_le _) (c_xPart k kp ld dg pa jo wa sr pu ri p (by omega) ⟨hX0, hk, by omega⟩ ⟨hB0, hB1, hB2, by omega, by omega⟩) (fun r h' hq => ?_)
        obtain ⟨rfl, hq⟩ := hq
        have hq := hq.symm
        subst hq
        refine xa_if_ne (pc := 30) (tgt := 35) dX9_turn_30 (by decide) xa_okb (fun c_30 => ?_) (fun c_30 => ?_)
        · have c_30 := xa_b1.mp c_30
          obtain ⟨wn, rfl⟩ : ∃ z : Nat, w = (z : Int) := ⟨w.toNat, by omega⟩
          obtain ⟨tn, rfl⟩ : ∃ z : Nat, t = (z : Int) := ⟨t.toNat, by omega⟩
          obtain ⟨pn, rfl⟩ : ∃ z : Nat, p = (z : Int) := ⟨p.toNat, by omega⟩
          refine xa_aload_n (pc := 35) dX9_turn_35 rfl ?_
          refine xa_getfield (pc := 36) dX9_turn_36 flRX9_51 (by omega) (by omega) hX0 rfl ?_
          refine xa_aload_n (pc := 39) dX9_turn_39 rfl ?_
          refine xa_getfield (pc := 40) dX9_turn_40 flRX9_38 (by omega) (by omega) hX0 rfl ?_
          refine xa_iload_n (pc := 43) dX9_turn_43 rfl ?_
          refine xa_callV (pc := 44) (as := [xa_r (k + 11), xa_i ((wn : Nat) : Int)]) (rest := []) dX9_turn_44 ⟨qX8_follow.1, qX8_follow.2.1, qX8_follow.2.2, by decide, by decide⟩ lkRX9_166 imX8_follow seX8_follow rfl rfl (by omega) (by omega) hT0 rfl (Nat.le_of_ble_eq_true rfl) (Nat.zero_le _) (Nat.zero_le _) (c_follow (k + 24) (k + 3) (k + 11) wn tu lo dr ld dg mv le fi po sp dn pa jo pc al wa sr pu ri tj tb (by omega) (by omega) (by omega) (by omega) (by omega) hwa hsr hB9.2.1 hB9.2.2.2.1 hmvb hle hpo hsp htj ⟨hT0, hT1, hT2, hT3, by omega, by omega⟩ ⟨hS0, hS1, hS2, by omega, by omega⟩ ⟨hB0, hB1, hB2, by omega, by omega⟩ ⟨hH0, hH1, hH2, hH3, by omega, by omega⟩) (fun r h' hq => ?_)
          obtain ⟨rfl, m, t1, u1, tu1, lo1, hm, htr, hno, harr, hok1, ⟨hT0, hT1, hT2, hT3, -, -⟩, ⟨hS0, hS1, hS2, -, -⟩, hqn, hqf⟩ := hq
          have hT0 : h'.1 (k + 24) = xa_o 8 [xa_r (k + 24 + 4), xa_r (k + 3), xa_r (k + 24 + 1), xa_r (k + 24 + 2), xa_r (k + 24 + 3), xa_i ((m : Nat) : Int), xa_i (xa_b (m = (le wn).toNat))] := hT0
          have hT1 : h'.1 (k + 24 + 1) = xa_a 183 tu1 := hT1
          have hT2 : h'.1 (k + 24 + 2) = xa_a 61 lo1 := hT2
          have hT3 : h'.1 (k + 24 + 3) = xa_a 61 dr := hT3
          have hS0 : h'.1 (k + 24 + 4) = xa_o 4 [xa_r (k + 3), xa_r (k + 24 + 4 + 1), xa_r (k + 24 + 4 + 2), xa_i t1.2.2.1, xa_i t1.2.2.2] := hS0
          have hS1 : h'.1 (k + 24 + 4 + 1) = xa_a 3 t1.1 := hS1
          have hS2 : h'.1 (k + 24 + 4 + 2) = xa_a 2 t1.2.1 := hS2
          have hX0 : h'.1 k = xa_o 9 [xa_r (k + 1), xa_r (k + 3), xa_r (k + 6), xa_r (k + 9), xa_r (k + 11), xa_r (k + 15), xa_i kp, xa_r (k + 24), xa_r (k + 31), xa_r (k + 32), xa_r (k + 36), xa_r (k + 48), xa_r (k + 60)] := (hqf _ (by omega)).trans hX0
          have hB0 : h'.1 (k + 3) = xa_o 0 [xa_r (k + 3 + 1), xa_r (k + 3 + 2), xa_i ((pa : Nat) : Int), xa_i ((jo : Nat) : Int), xa_i wa, xa_i sr, xa_i pu, xa_i ri] := (hqf _ (by omega)).trans hB0
          have hB1 : h'.1 (k + 3 + 1) = xa_a 9 ld := (hqf _ (by omega)).trans hB1
          have hB2 : h'.1 (k + 3 + 2) = xa_a 2 dg := (hqf _ (by omega)).trans hB2
          have hH0 : h'.1 (k + 11) = xa_o 5 [xa_r (k + 11 + 1), xa_r (k + 11 + 2), xa_r (k + 11 + 3), xa_i ((pc : Nat) : Int)] := (hqf _ (by omega)).trans hH0
          have hH1 : h'.1 (k + 11 + 1) = xa_a 240 mv := (hqf _ (by omega)).trans hH1
          have hH2 : h'.1 (k + 11 + 2) = xa_a 4 le := (hqf _ (by omega)).trans hH2
          have hH3 : h'.1 (k + 11 + 3) = xa_a 120 fi := (hqf _ (by omega)).trans hH3
          have hn : h'.2 = h.2 := hqn.trans hn
          have fr : ∀ i, (i < k + 24 ∨ k + 31 ≤ i) → h'.1 i = h.1 i := fun i hi => (hqf i (by omega)).trans (fr i hi)
          have hlw := hle wn
          obtain ⟨c1, has1, hfw0⟩ := fw_all (ms := fun n => sp_mvat mv ((wn : Nat) : Int) ((n : Nat) : Int)) hB9 (fun i => sp_mvat_b hmvb _ _) hm htr hno harr
          have hfw : fwR ld dg pa jo wa sr (wy mv ((wn : Nat) : Int)) (le wn).toNat m c1 u1 tu1 lo1 := hfw0.ext (fun i hi => mvat_wy mv (by omega) (by omega))
          clear htr hno harr hfw0
          refine xa_iload_n (pc := 47) dX9_turn_47 rfl ?_
          refine xa_aload_n (pc := 48) dX9_turn_48 rfl ?_
          refine xa_getfield (pc := 49) dX9_turn_49 flRX9_51 (by omega) (by omega) hX0 rfl ?_
          refine xa_getfield (pc := 52) dX9_turn_52 flRX9_170 (by omega) (by omega) hT0 rfl ?_
          refine xa_icmp_le (pc := 55) (tgt := 61) dX9_turn_55 (by decide) ⟨by omega, by omega⟩ ⟨by omega, by omega⟩ (fun c_55 => ?_) (fun c_55 => ?_)
          · skip
            refine xa_aload_n (pc := 61) dX9_turn_61 rfl ?_
            refine xa_getfield (pc := 62) dX9_turn_62 flRX9_51 (by omega) (by omega) hX0 rfl ?_
            refine xa_aload_n (pc := 65) dX9_turn_65 rfl ?_
            refine xa_getfield (pc := 66) dX9_turn_66 flRX9_19 (by omega) (by omega) hX0 rfl ?_
            refine xa_getfield (pc := 69) dX9_turn_69 flRX9_144 (by omega) (by omega) hB0 rfl ?_
            refine xa_callV (pc := 72) (as := [xa_i pu]) (rest := []) dX9_turn_72 ⟨qX8_drift.1, qX8_drift.2.1, qX8_drift.2.2, by decide, by decide⟩ lkRX9_173 imX8_drift seX8_drift rfl rfl (by omega) (by omega) hT0 rfl (Nat.le_of_ble_eq_true rfl) (Nat.zero_le _) (Nat.zero_le _) (c_drift2 _ _ _ _ _ _ _ _ (by omega) (fun i hi => hfw.lo_b hB9 hi) hpu ⟨hT0, hT1, hT2, hT3, by omega, by omega⟩) (fun r h' hq => ?_)
            obtain ⟨rfl, ⟨hT0, hT1, hT2, hT3, -, -⟩, hqn, hqf⟩ := hq
            have hT0 : h'.1 (k + 24) = xa_o 8 [xa_r (k + 24 + 4), xa_r (k + 3), xa_r (k + 24 + 1), xa_r (k + 24 + 2), xa_r (k + 24 + 3), xa_i ((m : Nat) : Int), xa_i (xa_b (m = (le wn).toNat))] := hT0
            have hT1 : h'.1 (k + 24 + 1) = xa_a 183 tu1 := hT1
            have hT2 : h'.1 (k + 24 + 2) = xa_a 61 lo1 := hT2
            have hT3 : h'.1 (k + 24 + 3) = xa_a 61 (sp_drf dr pu lo1 m) := hT3
            have hX0 : h'.1 k = xa_o 9 [xa_r (k + 1), xa_r (k + 3), xa_r (k + 6), xa_r (k + 9), xa_r (k + 11), xa_r (k + 15), xa_i kp, xa_r (k + 24), xa_r (k + 31), xa_r (k + 32), xa_r (k + 36), xa_r (k + 48), xa_r (k + 60)] := (hqf _ (by omega)).trans hX0
            have hB0 : h'.1 (k + 3) = xa_o 0 [xa_r (k + 3 + 1), xa_r (k + 3 + 2), xa_i ((pa : Nat) : Int), xa_i ((jo : Nat) : Int), xa_i wa, xa_i sr, xa_i pu, xa_i ri] := (hqf _ (by omega)).trans hB0
            have hB1 : h'.1 (k + 3 + 1) = xa_a 9 ld := (hqf _ (by omega)).trans hB1
            have hB2 : h'.1 (k + 3 + 2) = xa_a 2 dg := (hqf _ (by omega)).trans hB2
            have hH0 : h'.1 (k + 11) = xa_o 5 [xa_r (k + 11 + 1), xa_r (k + 11 + 2), xa_r (k + 11 + 3), xa_i ((pc : Nat) : Int)] := (hqf _ (by omega)).trans hH0
            have hH1 : h'.1 (k + 11 + 1) = xa_a 240 mv := (hqf _ (by omega)).trans hH1
            have hH2 : h'.1 (k + 11 + 2) = xa_a 4 le := (hqf _ (by omega)).trans hH2
            have hH3 : h'.1 (k + 11 + 3) = xa_a 120 fi := (hqf _ (by omega)).trans hH3
            have hS0 : h'.1 (k + 24 + 4) = xa_o 4 [xa_r (k + 3), xa_r (k + 24 + 4 + 1), xa_r (k + 24 + 4 + 2), xa_i t1.2.2.1, xa_i t1.2.2.2] := (hqf _ (by omega)).trans hS0
            have hS1 : h'.1 (k + 24 + 4 + 1) = xa_a 3 t1.1 := (hqf _ (by omega)).trans hS1
            have hS2 : h'.1 (k + 24 + 4 + 2) = xa_a 2 t1.2.1 := (hqf _ (by omega)).trans hS2
            have hn : h'.2 = h.2 := hqn.trans hn
            have fr : ∀ i, (i < k + 24 ∨ k + 31 ≤ i) → h'.1 i = h.1 i := fun i hi => (hqf i (by omega)).trans (fr i hi)
            refine xa_iload_n (pc := 75) dX9_turn_75 rfl ?_
            refine xa_aload_n (pc := 76) dX9_turn_76 rfl ?_
            refine xa_getfield (pc := 77) dX9_turn_77 flRX9_51 (by omega) (by omega) hX0 rfl ?_
            refine xa_iload_n (pc := 80) dX9_turn_80 rfl ?_
            refine xa_iload (pc := 81) dX9_turn_81 rfl ?_
            refine xa_callV (pc := 83) (as := [xa_i ((tn : Nat) : Int), xa_i ((pn : Nat) : Int)]) (rest := [xa_i turn]) dX9_turn_83 ⟨qX8_turnOf.1, qX8_turnOf.2.1, qX8_turnOf.2.2, by decide, by decide⟩ lkRX9_177 imX8_turnOf seX8_turnOf rfl rfl (by omega) (by omega) hT0 rfl (Nat.le_of_ble_eq_true rfl) (Nat.zero_le _) (Nat.zero_le _) (c_turnOf _ _ _ _ _ _ _ _ _ (by omega) (by omega) ⟨hT0, hT1, hT2, hT3, by omega, by omega⟩) (fun r h' hq => ?_)
            obtain ⟨rfl, hq⟩ := hq
            have hq := hq.symm
            subst hq
            have hb9 := fw_b hB9 hfw hdr0 (push := pu) hpu (by omega) (i := tn) (p := pn) (by omega) (by omega)
            obtain ⟨ci, U, g1, g2, g3⟩ := fw_tof hfw hdr0 pu (i := tn) (p := pn) (by omega) (by omega)
            refine xa_iadd (pc := 86) dX9_turn_86 ?_
            refine xa_sipush (pc := 87) dX9_turn_87 rfl ?_
            refine xa_callS (pc := 90) (as := [xa_i (turn + (sp_tof tu1 (sp_drf dr pu lo1 m) ((tn : Nat) : Int) ((pn : Nat) : Int))), xa_i 360]) (rest := []) dX9_turn_90 ⟨qJ9_floorMod_7cf53.1, qJ9_floorMod_7cf53.2.1, qJ9_floorMod_7cf53.2.2, by decide, by decide⟩ lkRX9_180 smJ9_floorMod_7cf53 rfl rfl (Nat.le_of_ble_eq_true rfl) (Nat.zero_le _) (Nat.zero_le _) (c_floorMod _ _ ⟨by omega, by omega⟩ (by decide) (by omega)) (fun r h' hq => ?_)
            obtain ⟨rfl, hq⟩ := hq
            have hq := hq.symm
            subst hq
            refine xa_ireturn (pc := 93) dX9_turn_93 rfl trivial ?_
            exact ⟨⟨_, rfl, Or.inr ⟨by omega, Or.inl ⟨by have := hfw.1; show tn ≤ (le wn).toNat; omega, ci, U, g2, by rw [g3, ← Int.add_assoc]⟩⟩⟩, ⟨tu1, lo1, _, m, _, t1.1, t1.2.1, t1.2.2.1, t1.2.2.2, ⟨hT0, hT1, hT2, hT3, by omega, by omega⟩, ⟨hS0, hS1, hS2, by omega, by omega⟩, hok1.1, hok1.2.1, hok1.2.2.1, drf_z hdr0⟩, hn, fr⟩
          · skip
            refine xa_bipush (pc := 58) dX9_turn_58 rfl ?_
            refine xa_ireturn (pc := 60) dX9_turn_60 rfl trivial ?_
            exact ⟨⟨_, rfl, Or.inr ⟨by omega, Or.inr ⟨fun ht => fw_none hfw pu ht (by omega), rfl⟩⟩⟩, ⟨tu1, lo1, _, m, _, t1.1, t1.2.1, t1.2.2.1, t1.2.2.2, ⟨hT0, hT1, hT2, hT3, by omega, by omega⟩, ⟨hS0, hS1, hS2, by omega, by omega⟩, hok1.1, hok1.2.1, hok1.2.2.1, hdr0⟩, hn, fr⟩
        · have c_30 := xa_b0.mp c_30
          refine xa_iconst (pc := 33) dX9_turn_33 ?_
          refine xa_ireturn (pc := 34) dX9_turn_34 rfl trivial ?_
          exact ⟨⟨_, rfl, Or.inl ⟨by omega, rfl⟩⟩, hTS0, hn, fr⟩
theorem c_xRun {G : xa_G} {h : xa_H} (k : Nat) (kp : Int) (ld dg : Nat → Int) (pa jo : Nat) (wa sr pu ri : Int) (mv le fi : Nat → Int) (pc : Nat) (w q : Int) (h1 : xa_ok w) (h2 : xa_ok q) (hB9 : vB ld dg pa jo wa sr pu ri) (hmvb : ∀ i, 0 ≤ mv i ∧ mv i ≤ 18) (hle : ∀ i, 0 ≤ le i ∧ le i ≤ 60) (hfi : fiOk pa fi pc) (hX : xX0 h k kp) (hB : xB h (k + 3) ld dg pa jo wa sr pu ri) (hH : xH h (k + 11) mv le fi pc) (hTS : xTS h k)  : xa_M G mX9_run [xa_r k, xa_i w, xa_i q] h 0 0 (fun r h' => (∃ r0, r = some (xa_i r0) ∧ sq_run ld dg pa jo wa sr pu mv le w q r0) ∧ xTS h' k ∧ h'.2 = h.2 ∧ ∀ i, (i < k + 24 ∨ k + 31 ≤ i) → h'.1 i = h.1 i) := by
  refine xa_enter (by decide +kernel) (Nat.le_of_ble_eq_true rfl) ?_
  refine xa_locals (ls' := [some (xa_r k), some (xa_i w), some (xa_i q), none]) rfl ?_
  have hn : h.2 = h.2 := rfl
  have fr : ∀ i, (i < k + 24 ∨ k + 31 ≤ i) → h.1 i = h.1 i := fun _ _ => rfl
  have hTS0 := hTS
  have hX' := hX
  obtain ⟨hX0, hk, hkn⟩ := hX
  obtain ⟨hB0, hB1, hB2, hBk, hBn⟩ := hB
  obtain ⟨hH0, hH1, hH2, hH3, hHk, hHn⟩ := hH
  obtain ⟨tu, lo, dr, dn, al, po, sp, tj, tb, ⟨hT0, hT1, hT2, hT3, -, -⟩, ⟨hS0, hS1, hS2, -, -⟩, hpo, hsp, htj, hdr0⟩ := hTS
  have h0' := hB9.1
  have hw9 := hB9.wag
  have hwa : xa_ok wa := by omega
  have hsr : 0 ≤ sr ∧ sr ≤ 12 := by omega
  have hpu := hB9.2.2.2.2.2.2.1
  have hri := hB9.2.2.2.2.2.2.2
  clear hw9
  refine xa_iload_n (pc := 0) dX9_run_0 rfl ?_
  refine xa_callS (pc := 1) (as := [xa_i w]) (rest := []) dX9_run_1 ⟨qX9_isWay.1, qX9_isWay.2.1, qX9_isWay.2.2, by decide, by decide⟩ lkRX9_150 smX9_isWay rfl rfl (Nat.le_of_ble_eq_true rfl) (Nat.zero_le _) (Nat.zero_le _) (c_isWay _ ⟨by omega, by omega⟩) (fun r h' hq => ?_)
  obtain ⟨rfl, hq⟩ := hq
  have hq := hq.symm
  subst hq
  refine xa_if_eq (pc := 4) (tgt := 16) dX9_run_4 (by decide) xa_okb (fun c_4 => ?_) (fun c_4 => ?_)
  · have c_4 := xa_b0.mp c_4
    refine xa_iconst (pc := 16) dX9_run_16 ?_
    refine xa_ireturn (pc := 17) dX9_run_17 rfl trivial ?_
    exact ⟨⟨_, rfl, Or.inl ⟨by omega, rfl⟩⟩, hTS0, hn, fr⟩
  · have c_4 := xa_b1.mp c_4
    refine xa_iload_n (pc := 7) dX9_run_7 rfl ?_
    refine xa_iconst (pc := 8) dX9_run_8 ?_
    refine xa_iconst (pc := 9) dX9_run_9 ?_
    refine xa_callS (pc := 10) (as := [xa_i q, xa_i 0, xa_i 3]) (rest := []) dX9_run_10 ⟨qX9_isWithin.1, qX9_isWithin.2.1, qX9_isWithin.2.2, by decide, by decide⟩ lkRX9_89 smX9_isWithin rfl rfl (Nat.le_of_ble_eq_true rfl) (Nat.zero_le _) (Nat.zero_le _) (c_isWithin _ _ _ ⟨by omega, by omega⟩ (by decide) (by decide)) (fun r h' hq => ?_)
    obtain ⟨rfl, hq⟩ := hq
    have hq := hq.symm
    subst hq
    refine xa_if_ne (pc := 13) (tgt := 18) dX9_run_13 (by decide) xa_okb (fun c_13 => ?_) (fun c_13 => ?_)
    · have c_13 := xa_b1.mp c_13
      obtain ⟨wn, rfl⟩ : ∃ z : Nat, w = (z : Int) := ⟨w.toNat, by omega⟩
      refine xa_aload_n (pc := 18) dX9_run_18 rfl ?_
      refine xa_getfield (pc := 19) dX9_run_19 flRX9_51 (by omega) (by omega) hX0 rfl ?_
      refine xa_aload_n (pc := 22) dX9_run_22 rfl ?_
      refine xa_getfield (pc := 23) dX9_run_23 flRX9_38 (by omega) (by omega) hX0 rfl ?_
      refine xa_iload_n (pc := 26) dX9_run_26 rfl ?_
      refine xa_callV (pc := 27) (as := [xa_r (k + 11), xa_i ((wn : Nat) : Int)]) (rest := []) dX9_run_27 ⟨qX8_follow.1, qX8_follow.2.1, qX8_follow.2.2, by decide, by decide⟩ lkRX9_166 imX8_follow seX8_follow rfl rfl (by omega) (by omega) hT0 rfl (Nat.le_of_ble_eq_true rfl) (Nat.zero_le _) (Nat.zero_le _) (c_follow (k + 24) (k + 3) (k + 11) wn tu lo dr ld dg mv le fi po sp dn pa jo pc al wa sr pu ri tj tb (by omega) (by omega) (by omega) (by omega) (by omega) hwa hsr hB9.2.1 hB9.2.2.2.1 hmvb hle hpo hsp htj ⟨hT0, hT1, hT2, hT3, by omega, by omega⟩ ⟨hS0, hS1, hS2, by omega, by omega⟩ ⟨hB0, hB1, hB2, by omega, by omega⟩ ⟨hH0, hH1, hH2, hH3, by omega, by omega⟩) (fun r h' hq => ?_)
      obtain ⟨rfl, m, t1, u1, tu1, lo1, hm, htr, hno, harr, hok1, ⟨hT0, hT1, hT2, hT3, -, -⟩, ⟨hS0, hS1, hS2, -, -⟩, hqn, hqf⟩ := hq
      have hT0 : h'.1 (k + 24) = xa_o 8 [xa_r (k + 24 + 4), xa_r (k + 3), xa_r (k + 24 + 1), xa_r (k + 24 + 2), xa_r (k + 24 + 3), xa_i ((m : Nat) : Int), xa_i (xa_b (m = (le wn).toNat))] := hT0
      have hT1 : h'.1 (k + 24 + 1) = xa_a 183 tu1 := hT1
      have hT2 : h'.1 (k + 24 + 2) = xa_a 61 lo1 := hT2
      have hT3 : h'.1 (k + 24 + 3) = xa_a 61 dr := hT3
      have hS0 : h'.1 (k + 24 + 4) = xa_o 4 [xa_r (k + 3), xa_r (k + 24 + 4 + 1), xa_r (k + 24 + 4 + 2), xa_i t1.2.2.1, xa_i t1.2.2.2] := hS0
      have hS1 : h'.1 (k + 24 + 4 + 1) = xa_a 3 t1.1 := hS1
      have hS2 : h'.1 (k + 24 + 4 + 2) = xa_a 2 t1.2.1 := hS2
      have hX0 : h'.1 k = xa_o 9 [xa_r (k + 1), xa_r (k + 3), xa_r (k + 6), xa_r (k + 9), xa_r (k + 11), xa_r (k + 15), xa_i kp, xa_r (k + 24), xa_r (k + 31), xa_r (k + 32), xa_r (k + 36), xa_r (k + 48), xa_r (k + 60)] := (hqf _ (by omega)).trans hX0
      have hB0 : h'.1 (k + 3) = xa_o 0 [xa_r (k + 3 + 1), xa_r (k + 3 + 2), xa_i ((pa : Nat) : Int), xa_i ((jo : Nat) : Int), xa_i wa, xa_i sr, xa_i pu, xa_i ri] := (hqf _ (by omega)).trans hB0
      have hB1 : h'.1 (k + 3 + 1) = xa_a 9 ld := (hqf _ (by omega)).trans hB1
      have hB2 : h'.1 (k + 3 + 2) = xa_a 2 dg := (hqf _ (by omega)).trans hB2
      have hH0 : h'.1 (k + 11) = xa_o 5 [xa_r (k + 11 + 1), xa_r (k + 11 + 2), xa_r (k + 11 + 3), xa_i ((pc : Nat) : Int)] := (hqf _ (by omega)).trans hH0
      have hH1 : h'.1 (k + 11 + 1) = xa_a 240 mv := (hqf _ (by omega)).trans hH1
      have hH2 : h'.1 (k + 11 + 2) = xa_a 4 le := (hqf _ (by omega)).trans hH2
      have hH3 : h'.1 (k + 11 + 3) = xa_a 120 fi := (hqf _ (by omega)).trans hH3
      have hn : h'.2 = h.2 := hqn.trans hn
      have fr : ∀ i, (i < k + 24 ∨ k + 31 ≤ i) → h'.1 i = h.1 i := fun i hi => (hqf i (by omega)).trans (fr i hi)
      have hlw := hle wn
      obtain ⟨c1, has1, hfw0⟩ := fw_all (ms := fun n => sp_mvat mv ((wn : Nat) : Int) ((n : Nat) : Int)) hB9 (fun i => sp_mvat_b hmvb _ _) hm htr hno harr
      have hfw : fwR ld dg pa jo wa sr (wy mv ((wn : Nat) : Int)) (le wn).toNat m c1 u1 tu1 lo1 := hfw0.ext (fun i hi => mvat_wy mv (by omega) (by omega))
      clear htr hno harr hfw0
      refine xa_iload_n (pc := 30) dX9_run_30 rfl ?_
      refine xa_if_ne (pc := 31) (tgt := 42) dX9_run_31 (by decide) ⟨by omega, by omega⟩ (fun c_31 => ?_) (fun c_31 => ?_)
      · skip
        refine xa_iload_n (pc := 42) dX9_run_42 rfl ?_
        refine xa_iconst (pc := 43) dX9_run_43 ?_
        refine xa_icmp_ne (pc := 44) (tgt := 57) dX9_run_44 (by decide) ⟨by omega, by omega⟩ (by decide) (fun c_44 => ?_) (fun c_44 => ?_)
        · skip
          refine xa_iload_n (pc := 57) dX9_run_57 rfl ?_
          refine xa_iconst (pc := 58) dX9_run_58 ?_
          refine xa_icmp_ne (pc := 59) (tgt := 72) dX9_run_59 (by decide) ⟨by omega, by omega⟩ (by decide) (fun c_59 => ?_) (fun c_59 => ?_)
          · skip
            refine xa_aload_n (pc := 72) dX9_run_72 rfl ?_
            refine xa_getfield (pc := 73) dX9_run_73 flRX9_51 (by omega) (by omega) hX0 rfl ?_
            refine xa_getfield (pc := 76) dX9_run_76 flRX9_192 (by omega) (by omega) hT0 rfl ?_
            refine xa_callV (pc := 79) (as := []) (rest := []) dX9_run_79 ⟨qX4_isStraight.1, qX4_isStraight.2.1, qX4_isStraight.2.2, by decide, by decide⟩ lkRX9_196 imX4_isStraight seX4_isStraight rfl rfl (by omega) (by omega) hS0 rfl (Nat.le_of_ble_eq_true rfl) (Nat.zero_le _) (Nat.zero_le _) (c_isStraight _ _ _ _ _ _ _ _ _ _ _ _ _ _ ⟨hS0, hS1, hS2, by omega, by omega⟩ ⟨hB0, hB1, hB2, by omega, by omega⟩ (by omega) (by omega) (by omega) hok1.2.1) (fun r h' hq => ?_)
            obtain ⟨hq1, hq⟩ := hq
            have hq := hq.symm
            subst hq
            rw [xa_bc (show sp_strB t1.2.1 jo = true ↔ (c1.2.2.2.1 = 0 ∧ c1.2.2.2.2 = 0) from cf_strB hB9 hfw.2.1 has1)] at hq1
            subst hq1
            refine xa_istoren (pc := 82) [some (xa_r k), some (xa_i ((wn : Nat) : Int)), some (xa_i q), some (xa_i (xa_b (c1.2.2.2.1 = 0 ∧ c1.2.2.2.2 = 0)))] dX9_run_82 (by decide) (Nat.le_of_ble_eq_true rfl) rfl rfl ?_
            refine xa_iload_n (pc := 83) dX9_run_83 rfl ?_
            refine xa_if_eq (pc := 84) (tgt := 91) dX9_run_84 (by decide) xa_okb (fun c_84 => ?_) (fun c_84 => ?_)
            · have c_84 := xa_b0.mp c_84
              refine xa_iconst (pc := 91) dX9_run_91 ?_
              refine xa_ireturn (pc := 92) dX9_run_92 rfl trivial ?_
              exact ⟨⟨_, rfl, Or.inr ⟨by omega, m, c1, _, hfw.2.2.1 pu, by first | (rw [if_neg (by omega), if_pos (by omega)]; exact xa_bf c_84) | (rw [if_neg (by omega), if_neg (by omega), if_pos (by omega)]; exact xa_bf c_84) | (rw [if_neg (by omega), if_neg (by omega), if_neg (by omega)]; exact xa_bf c_84)⟩⟩, ⟨tu1, lo1, _, m, _, t1.1, t1.2.1, t1.2.2.1, t1.2.2.2, ⟨hT0, hT1, hT2, hT3, by omega, by omega⟩, ⟨hS0, hS1, hS2, by omega, by omega⟩, hok1.1, hok1.2.1, hok1.2.2.1, hdr0⟩, hn, fr⟩
            · have c_84 := xa_b1.mp c_84
              refine xa_iconst (pc := 87) dX9_run_87 ?_
              refine xa_goto (pc := 88) (tgt := 92) dX9_run_88 (by decide) ?_
              refine xa_ireturn (pc := 92) dX9_run_92 rfl trivial ?_
              exact ⟨⟨_, rfl, Or.inr ⟨by omega, m, c1, _, hfw.2.2.1 pu, by first | (rw [if_neg (by omega), if_pos (by omega)]; exact xa_bt c_84) | (rw [if_neg (by omega), if_neg (by omega), if_pos (by omega)]; exact xa_bt c_84) | (rw [if_neg (by omega), if_neg (by omega), if_neg (by omega)]; exact xa_bt c_84)⟩⟩, ⟨tu1, lo1, _, m, _, t1.1, t1.2.1, t1.2.2.1, t1.2.2.2, ⟨hT0, hT1, hT2, hT3, by omega, by omega⟩, ⟨hS0, hS1, hS2, by omega, by omega⟩, hok1.1, hok1.2.1, hok1.2.2.1, hdr0⟩, hn, fr⟩
          · skip
            refine xa_aload_n (pc := 62) dX9_run_62 rfl ?_
            refine xa_getfield (pc := 63) dX9_run_63 flRX9_51 (by omega) (by omega) hX0 rfl ?_
            refine xa_callV (pc := 66) (as := []) (rest := []) dX9_run_66 ⟨qX8_closes.1, qX8_closes.2.1, qX8_closes.2.2, by decide, by decide⟩ lkRX9_189 imX8_closes seX8_closes rfl rfl (by omega) (by omega) hT0 rfl (Nat.le_of_ble_eq_true rfl) (Nat.zero_le _) (Nat.zero_le _) (c_closes _ _ _ _ _ _ _ _ _ _ _ _ _ _ _ _ _ _ _ (by exact (xa_bq.elim Or.inl Or.inr)) ⟨hT0, hT1, hT2, hT3, by omega, by omega⟩ ⟨hS0, hS1, hS2, by omega, by omega⟩ ⟨hB0, hB1, hB2, by omega, by omega⟩ (by omega) (by omega) (by omega) hok1.2.1 hok1.1) (fun r h' hq => ?_)
            obtain ⟨hq1, hq⟩ := hq
            have hq := hq.symm
            subst hq
            rw [xa_bc (show (xa_b (m = (le wn).toNat) = 1 ∧ sp_restB t1.1 t1.2.1 pa jo = true) ↔ (m = (le wn).toNat ∧ c1 = cf_rest pa) from and_congr xa_beq (cf_restB hB9 hfw.2.1 has1))] at hq1
            subst hq1
            refine xa_goto (pc := 69) (tgt := 82) dX9_run_69 (by decide) ?_
            refine xa_istoren (pc := 82) [some (xa_r k), some (xa_i ((wn : Nat) : Int)), some (xa_i q), some (xa_i (xa_b (m = (le wn).toNat ∧ c1 = cf_rest pa)))] dX9_run_82 (by decide) (Nat.le_of_ble_eq_true rfl) rfl rfl ?_
            refine xa_iload_n (pc := 83) dX9_run_83 rfl ?_
            refine xa_if_eq (pc := 84) (tgt := 91) dX9_run_84 (by decide) xa_okb (fun c_84 => ?_) (fun c_84 => ?_)
            · have c_84 := xa_b0.mp c_84
              refine xa_iconst (pc := 91) dX9_run_91 ?_
              refine xa_ireturn (pc := 92) dX9_run_92 rfl trivial ?_
              exact ⟨⟨_, rfl, Or.inr ⟨by omega, m, c1, _, hfw.2.2.1 pu, by first | (rw [if_neg (by omega), if_pos (by omega)]; exact xa_bf c_84) | (rw [if_neg (by omega), if_neg (by omega), if_pos (by omega)]; exact xa_bf c_84) | (rw [if_neg (by omega), if_neg (by omega), if_neg (by omega)]; exact xa_bf c_84)⟩⟩, ⟨tu1, lo1, _, m, _, t1.1, t1.2.1, t1.2.2.1, t1.2.2.2, ⟨hT0, hT1, hT2, hT3, by omega, by omega⟩, ⟨hS0, hS1, hS2, by omega, by omega⟩, hok1.1, hok1.2.1, hok1.2.2.1, hdr0⟩, hn, fr⟩
            · have c_84 := xa_b1.mp c_84
              refine xa_iconst (pc := 87) dX9_run_87 ?_
              refine xa_goto (pc := 88) (tgt := 92) dX9_run_88 (by decide) ?_
              refine xa_ireturn (pc := 92) dX9_run_92 rfl trivial ?_
              exact ⟨⟨_, rfl, Or.inr ⟨by omega, m, c1, _, hfw.2.2.1 pu, by first | (rw [if_neg (by omega), if_pos (by omega)]; exact xa_bt c_84) | (rw [if_neg (by omega), if_neg (by omega), if_pos (by omega)]; exact xa_bt c_84) | (rw [if_neg (by omega), if_neg (by omega), if_neg (by omega)]; exact xa_bt c_84)⟩⟩, ⟨tu1, lo1, _, m, _, t1.1, t1.2.1, t1.2.2.1, t1.2.2.2, ⟨hT0, hT1, hT2, hT3, by omega, by omega⟩, ⟨hS0, hS1, hS2, by omega, by omega⟩, hok1.1, hok1.2.1, hok1.2.2.1, hdr0⟩, hn, fr⟩
        · skip
          refine xa_aload_n (pc := 47) dX9_run_47 rfl ?_
          refine xa_getfield (pc := 48) dX9_run_48 flRX9_51 (by omega) (by omega) hX0 rfl ?_
          refine xa_getfield (pc := 51) dX9_run_51 flRX9_185 (by omega) (by omega) hT0 rfl ?_
          refine xa_goto (pc := 54) (tgt := 82) dX9_run_54 (by decide) ?_
          refine xa_istoren (pc := 82) [some (xa_r k), some (xa_i ((wn : Nat) : Int)), some (xa_i q), some (xa_i (xa_b (m = (le wn).toNat)))] dX9_run_82 (by decide) (Nat.le_of_ble_eq_true rfl) rfl rfl ?_
          refine xa_iload_n (pc := 83) dX9_run_83 rfl ?_
          refine xa_if_eq (pc := 84) (tgt := 91) dX9_run_84 (by decide) xa_okb (fun c_84 => ?_) (fun c_84 => ?_)
          · have c_84 := xa_b0.mp c_84
            refine xa_iconst (pc := 91) dX9_run_91 ?_
            refine xa_ireturn (pc := 92) dX9_run_92 rfl trivial ?_
            exact ⟨⟨_, rfl, Or.inr ⟨by omega, m, c1, _, hfw.2.2.1 pu, by first | (rw [if_neg (by omega), if_pos (by omega)]; exact xa_bf c_84) | (rw [if_neg (by omega), if_neg (by omega), if_pos (by omega)]; exact xa_bf c_84) | (rw [if_neg (by omega), if_neg (by omega), if_neg (by omega)]; exact xa_bf c_84)⟩⟩, ⟨tu1, lo1, _, m, _, t1.1, t1.2.1, t1.2.2.1, t1.2.2.2, ⟨hT0, hT1, hT2, hT3, by omega, by omega⟩, ⟨hS0, hS1, hS2, by omega, by omega⟩, hok1.1, hok1.2.1, hok1.2.2.1, hdr0⟩, hn, fr⟩
          · have c_84 := xa_b1.mp c_84
            refine xa_iconst (pc := 87) dX9_run_87 ?_
            refine xa_goto (pc := 88) (tgt := 92) dX9_run_88 (by decide) ?_
            refine xa_ireturn (pc := 92) dX9_run_92 rfl trivial ?_
            exact ⟨⟨_, rfl, Or.inr ⟨by omega, m, c1, _, hfw.2.2.1 pu, by first | (rw [if_neg (by omega), if_pos (by omega)]; exact xa_bt c_84) | (rw [if_neg (by omega), if_neg (by omega), if_pos (by omega)]; exact xa_bt c_84) | (rw [if_neg (by omega), if_neg (by omega), if_neg (by omega)]; exact xa_bt c_84)⟩⟩, ⟨tu1, lo1, _, m, _, t1.1, t1.2.1, t1.2.2.1, t1.2.2.2, ⟨hT0, hT1, hT2, hT3, by omega, by omega⟩, ⟨hS0, hS1, hS2, by omega, by omega⟩, hok1.1, hok1.2.1, hok1.2.2.1, hdr0⟩, hn, fr⟩
      · skip
        refine xa_aload_n (pc := 34) dX9_run_34 rfl ?_
        refine xa_getfield (pc := 35) dX9_run_35 flRX9_51 (by omega) (by omega) hX0 rfl ?_
        refine xa_getfield (pc := 38) dX9_run_38 flRX9_170 (by omega) (by omega) hT0 rfl ?_
        refine xa_ireturn (pc := 41) dX9_run_41 rfl trivial ?_
        exact ⟨⟨_, rfl, Or.inr ⟨by omega, m, c1, _, hfw.2.2.1 pu, by rw [if_pos (by omega)]⟩⟩, ⟨tu1, lo1, _, m, _, t1.1, t1.2.1, t1.2.2.1, t1.2.2.2, ⟨hT0, hT1, hT2, hT3, by omega, by omega⟩, ⟨hS0, hS1, hS2, by omega, by omega⟩, hok1.1, hok1.2.1, hok1.2.2.1, hdr0⟩, hn, fr⟩
    · have c_13 := xa_b0.mp c_13
      refine xa_iconst (pc := 16) dX9_run_16 ?_
      refine xa_ireturn (pc := 17) dX9_run_17 rfl trivial ?_
      exact ⟨⟨_, rfl, Or.inl ⟨by omega, rfl⟩⟩, hTS0, hn, fr⟩
theorem c_xSpun {G : xa_G} {h : xa_H} (k : Nat) (kp : Int) (ld dg : Nat → Int) (pa jo : Nat) (wa sr pu ri : Int) (mv le fi : Nat → Int) (pc : Nat) (w : Int) (h1 : xa_ok w) (hB9 : vB ld dg pa jo wa sr pu ri) (hmvb : ∀ i, 0 ≤ mv i ∧ mv i ≤ 18) (hle : ∀ i, 0 ≤ le i ∧ le i ≤ 60) (hfi : fiOk pa fi pc) (hX : xX0 h k kp) (hB : xB h (k + 3) ld dg pa jo wa sr pu ri) (hH : xH h (k + 11) mv le fi pc) (hTS : xTS h k)  : xa_M G mX9_spun [xa_r k, xa_i w] h 0 0 (fun r h' => (∃ r0, r = some (xa_i r0) ∧ sq_spun ld dg pa jo wa sr pu mv le w r0) ∧ xTS h' k ∧ h'.2 = h.2 ∧ ∀ i, (i < k + 24 ∨ k + 31 ≤ i) → h'.1 i = h.1 i) := by
  refine xa_enter (by decide +kernel) (Nat.le_of_ble_eq_true rfl) ?_
  refine xa_locals (ls' := [some (xa_r k), some (xa_i w)]) rfl ?_
  have hn : h.2 = h.2 := rfl
  have fr : ∀ i, (i < k + 24 ∨ k + 31 ≤ i) → h.1 i = h.1 i := fun _ _ => rfl
  have hTS0 := hTS
  have hX' := hX
  obtain ⟨hX0, hk, hkn⟩ := hX
  obtain ⟨hB0, hB1, hB2, hBk, hBn⟩ := hB
  obtain ⟨hH0, hH1, hH2, hH3, hHk, hHn⟩ := hH
  obtain ⟨tu, lo, dr, dn, al, po, sp, tj, tb, ⟨hT0, hT1, hT2, hT3, -, -⟩, ⟨hS0, hS1, hS2, -, -⟩, hpo, hsp, htj, hdr0⟩ := hTS
  have h0' := hB9.1
  have hw9 := hB9.wag
  have hwa : xa_ok wa := by omega
  have hsr : 0 ≤ sr ∧ sr ≤ 12 := by omega
  have hpu := hB9.2.2.2.2.2.2.1
  have hri := hB9.2.2.2.2.2.2.2
  clear hw9
  refine xa_iload_n (pc := 0) dX9_spun_0 rfl ?_
  refine xa_callS (pc := 1) (as := [xa_i w]) (rest := []) dX9_spun_1 ⟨qX9_isWay.1, qX9_isWay.2.1, qX9_isWay.2.2, by decide, by decide⟩ lkRX9_150 smX9_isWay rfl rfl (Nat.le_of_ble_eq_true rfl) (Nat.zero_le _) (Nat.zero_le _) (c_isWay _ ⟨by omega, by omega⟩) (fun r h' hq => ?_)
  obtain ⟨rfl, hq⟩ := hq
  have hq := hq.symm
  subst hq
  refine xa_if_ne (pc := 4) (tgt := 9) dX9_spun_4 (by decide) xa_okb (fun c_4 => ?_) (fun c_4 => ?_)
  · have c_4 := xa_b1.mp c_4
    obtain ⟨wn, rfl⟩ : ∃ z : Nat, w = (z : Int) := ⟨w.toNat, by omega⟩
    refine xa_aload_n (pc := 9) dX9_spun_9 rfl ?_
    refine xa_getfield (pc := 10) dX9_spun_10 flRX9_51 (by omega) (by omega) hX0 rfl ?_
    refine xa_aload_n (pc := 13) dX9_spun_13 rfl ?_
    refine xa_getfield (pc := 14) dX9_spun_14 flRX9_38 (by omega) (by omega) hX0 rfl ?_
    refine xa_iload_n (pc := 17) dX9_spun_17 rfl ?_
    refine xa_callV (pc := 18) (as := [xa_r (k + 11), xa_i ((wn : Nat) : Int)]) (rest := []) dX9_spun_18 ⟨qX8_follow.1, qX8_follow.2.1, qX8_follow.2.2, by decide, by decide⟩ lkRX9_166 imX8_follow seX8_follow rfl rfl (by omega) (by omega) hT0 rfl (Nat.le_of_ble_eq_true rfl) (Nat.zero_le _) (Nat.zero_le _) (c_follow (k + 24) (k + 3) (k + 11) wn tu lo dr ld dg mv le fi po sp dn pa jo pc al wa sr pu ri tj tb (by omega) (by omega) (by omega) (by omega) (by omega) hwa hsr hB9.2.1 hB9.2.2.2.1 hmvb hle hpo hsp htj ⟨hT0, hT1, hT2, hT3, by omega, by omega⟩ ⟨hS0, hS1, hS2, by omega, by omega⟩ ⟨hB0, hB1, hB2, by omega, by omega⟩ ⟨hH0, hH1, hH2, hH3, by omega, by omega⟩) (fun r h' hq => ?_)
    obtain ⟨rfl, m, t1, u1, tu1, lo1, hm, htr, hno, harr, hok1, ⟨hT0, hT1, hT2, hT3, -, -⟩, ⟨hS0, hS1, hS2, -, -⟩, hqn, hqf⟩ := hq
    have hT0 : h'.1 (k + 24) = xa_o 8 [xa_r (k + 24 + 4), xa_r (k + 3), xa_r (k + 24 + 1), xa_r (k + 24 + 2), xa_r (k + 24 + 3), xa_i ((m : Nat) : Int), xa_i (xa_b (m = (le wn).toNat))] := hT0
    have hT1 : h'.1 (k + 24 + 1) = xa_a 183 tu1 := hT1
    have hT2 : h'.1 (k + 24 + 2) = xa_a 61 lo1 := hT2
    have hT3 : h'.1 (k + 24 + 3) = xa_a 61 dr := hT3
    have hS0 : h'.1 (k + 24 + 4) = xa_o 4 [xa_r (k + 3), xa_r (k + 24 + 4 + 1), xa_r (k + 24 + 4 + 2), xa_i t1.2.2.1, xa_i t1.2.2.2] := hS0
    have hS1 : h'.1 (k + 24 + 4 + 1) = xa_a 3 t1.1 := hS1
    have hS2 : h'.1 (k + 24 + 4 + 2) = xa_a 2 t1.2.1 := hS2
    have hX0 : h'.1 k = xa_o 9 [xa_r (k + 1), xa_r (k + 3), xa_r (k + 6), xa_r (k + 9), xa_r (k + 11), xa_r (k + 15), xa_i kp, xa_r (k + 24), xa_r (k + 31), xa_r (k + 32), xa_r (k + 36), xa_r (k + 48), xa_r (k + 60)] := (hqf _ (by omega)).trans hX0
    have hB0 : h'.1 (k + 3) = xa_o 0 [xa_r (k + 3 + 1), xa_r (k + 3 + 2), xa_i ((pa : Nat) : Int), xa_i ((jo : Nat) : Int), xa_i wa, xa_i sr, xa_i pu, xa_i ri] := (hqf _ (by omega)).trans hB0
    have hB1 : h'.1 (k + 3 + 1) = xa_a 9 ld := (hqf _ (by omega)).trans hB1
    have hB2 : h'.1 (k + 3 + 2) = xa_a 2 dg := (hqf _ (by omega)).trans hB2
    have hH0 : h'.1 (k + 11) = xa_o 5 [xa_r (k + 11 + 1), xa_r (k + 11 + 2), xa_r (k + 11 + 3), xa_i ((pc : Nat) : Int)] := (hqf _ (by omega)).trans hH0
    have hH1 : h'.1 (k + 11 + 1) = xa_a 240 mv := (hqf _ (by omega)).trans hH1
    have hH2 : h'.1 (k + 11 + 2) = xa_a 4 le := (hqf _ (by omega)).trans hH2
    have hH3 : h'.1 (k + 11 + 3) = xa_a 120 fi := (hqf _ (by omega)).trans hH3
    have hn : h'.2 = h.2 := hqn.trans hn
    have fr : ∀ i, (i < k + 24 ∨ k + 31 ≤ i) → h'.1 i = h.1 i := fun i hi => (hqf i (by omega)).trans (fr i hi)
    have hlw := hle wn
    obtain ⟨c1, has1, hfw0⟩ := fw_all (ms := fun n => sp_mvat mv ((wn : Nat) : Int) ((n : Nat) : Int)) hB9 (fun i => sp_mvat_b hmvb _ _) hm htr hno harr
    have hfw : fwR ld dg pa jo wa sr (wy mv ((wn : Nat) : Int)) (le wn).toNat m c1 u1 tu1 lo1 := hfw0.ext (fun i hi => mvat_wy mv (by omega) (by omega))
    clear htr hno harr hfw0
    refine xa_aload_n (pc := 21) dX9_spun_21 rfl ?_
    refine xa_getfield (pc := 22) dX9_spun_22 flRX9_51 (by omega) (by omega) hX0 rfl ?_
    refine xa_aload_n (pc := 25) dX9_spun_25 rfl ?_
    refine xa_getfield (pc := 26) dX9_spun_26 flRX9_19 (by omega) (by omega) hX0 rfl ?_
    refine xa_getfield (pc := 29) dX9_spun_29 flRX9_144 (by omega) (by omega) hB0 rfl ?_
    refine xa_callV (pc := 32) (as := [xa_i pu]) (rest := []) dX9_spun_32 ⟨qX8_drift.1, qX8_drift.2.1, qX8_drift.2.2, by decide, by decide⟩ lkRX9_173 imX8_drift seX8_drift rfl rfl (by omega) (by omega) hT0 rfl (Nat.le_of_ble_eq_true rfl) (Nat.zero_le _) (Nat.zero_le _) (c_drift2 _ _ _ _ _ _ _ _ (by omega) (fun i hi => hfw.lo_b hB9 hi) hpu ⟨hT0, hT1, hT2, hT3, by omega, by omega⟩) (fun r h' hq => ?_)
    obtain ⟨rfl, ⟨hT0, hT1, hT2, hT3, -, -⟩, hqn, hqf⟩ := hq
    have hT0 : h'.1 (k + 24) = xa_o 8 [xa_r (k + 24 + 4), xa_r (k + 3), xa_r (k + 24 + 1), xa_r (k + 24 + 2), xa_r (k + 24 + 3), xa_i ((m : Nat) : Int), xa_i (xa_b (m = (le wn).toNat))] := hT0
    have hT1 : h'.1 (k + 24 + 1) = xa_a 183 tu1 := hT1
    have hT2 : h'.1 (k + 24 + 2) = xa_a 61 lo1 := hT2
    have hT3 : h'.1 (k + 24 + 3) = xa_a 61 (sp_drf dr pu lo1 m) := hT3
    have hX0 : h'.1 k = xa_o 9 [xa_r (k + 1), xa_r (k + 3), xa_r (k + 6), xa_r (k + 9), xa_r (k + 11), xa_r (k + 15), xa_i kp, xa_r (k + 24), xa_r (k + 31), xa_r (k + 32), xa_r (k + 36), xa_r (k + 48), xa_r (k + 60)] := (hqf _ (by omega)).trans hX0
    have hB0 : h'.1 (k + 3) = xa_o 0 [xa_r (k + 3 + 1), xa_r (k + 3 + 2), xa_i ((pa : Nat) : Int), xa_i ((jo : Nat) : Int), xa_i wa, xa_i sr, xa_i pu, xa_i ri] := (hqf _ (by omega)).trans hB0
    have hB1 : h'.1 (k + 3 + 1) = xa_a 9 ld := (hqf _ (by omega)).trans hB1
    have hB2 : h'.1 (k + 3 + 2) = xa_a 2 dg := (hqf _ (by omega)).trans hB2
    have hH0 : h'.1 (k + 11) = xa_o 5 [xa_r (k + 11 + 1), xa_r (k + 11 + 2), xa_r (k + 11 + 3), xa_i ((pc : Nat) : Int)] := (hqf _ (by omega)).trans hH0
    have hH1 : h'.1 (k + 11 + 1) = xa_a 240 mv := (hqf _ (by omega)).trans hH1
    have hH2 : h'.1 (k + 11 + 2) = xa_a 4 le := (hqf _ (by omega)).trans hH2
    have hH3 : h'.1 (k + 11 + 3) = xa_a 120 fi := (hqf _ (by omega)).trans hH3
    have hS0 : h'.1 (k + 24 + 4) = xa_o 4 [xa_r (k + 3), xa_r (k + 24 + 4 + 1), xa_r (k + 24 + 4 + 2), xa_i t1.2.2.1, xa_i t1.2.2.2] := (hqf _ (by omega)).trans hS0
    have hS1 : h'.1 (k + 24 + 4 + 1) = xa_a 3 t1.1 := (hqf _ (by omega)).trans hS1
    have hS2 : h'.1 (k + 24 + 4 + 2) = xa_a 2 t1.2.1 := (hqf _ (by omega)).trans hS2
    have hn : h'.2 = h.2 := hqn.trans hn
    have fr : ∀ i, (i < k + 24 ∨ k + 31 ≤ i) → h'.1 i = h.1 i := fun i hi => (hqf i (by omega)).trans (fr i hi)
    refine xa_aload_n (pc := 35) dX9_spun_35 rfl ?_
    refine xa_getfield (pc := 36) dX9_spun_36 flRX9_51 (by omega) (by omega) hX0 rfl ?_
    refine xa_aload_n (pc := 39) dX9_spun_39 rfl ?_
    refine xa_getfield (pc := 40) dX9_spun_40 flRX9_51 (by omega) (by omega) hX0 rfl ?_
    refine xa_getfield (pc := 43) dX9_spun_43 flRX9_170 (by omega) (by omega) hT0 rfl ?_
    refine xa_iconst (pc := 46) dX9_spun_46 ?_
    refine xa_callV (pc := 47) (as := [xa_i ((m : Nat) : Int), xa_i 0]) (rest := []) dX9_spun_47 ⟨qX8_turnOf.1, qX8_turnOf.2.1, qX8_turnOf.2.2, by decide, by decide⟩ lkRX9_177 imX8_turnOf seX8_turnOf rfl rfl (by omega) (by omega) hT0 rfl (Nat.le_of_ble_eq_true rfl) (Nat.zero_le _) (Nat.zero_le _) (c_turnOf _ _ _ _ _ _ _ _ _ (by omega) (by omega) ⟨hT0, hT1, hT2, hT3, by omega, by omega⟩) (fun r h' hq => ?_)
    obtain ⟨rfl, hq⟩ := hq
    have hq := hq.symm
    subst hq
    have hb9 := fw_b hB9 hfw hdr0 (push := pu) hpu (by omega) (i := m) (p := 0) (Nat.le_refl _) (by omega)
    obtain ⟨U, g1, g2⟩ := fw_end hfw hdr0 (by omega) pu
    have hb9 : -3000000 ≤ sp_tof tu1 (sp_drf dr pu lo1 m) ((m : Nat) : Int) 0 ∧ sp_tof tu1 (sp_drf dr pu lo1 m) ((m : Nat) : Int) 0 ≤ 3000000 := hb9
    refine xa_top (y := U) g2 ?_
    rw [g2] at hb9
    refine xa_sipush (pc := 50) dX9_spun_50 rfl ?_
    refine xa_callS (pc := 53) (as := [xa_i U, xa_i 360]) (rest := []) dX9_spun_53 ⟨qJ9_floorMod_7cf53.1, qJ9_floorMod_7cf53.2.1, qJ9_floorMod_7cf53.2.2, by decide, by decide⟩ lkRX9_180 smJ9_floorMod_7cf53 rfl rfl (Nat.le_of_ble_eq_true rfl) (Nat.zero_le _) (Nat.zero_le _) (c_floorMod _ _ ⟨by omega, by omega⟩ (by decide) (by omega)) (fun r h' hq => ?_)
    obtain ⟨rfl, hq⟩ := hq
    have hq := hq.symm
    subst hq
    refine xa_ireturn (pc := 56) dX9_spun_56 rfl trivial ?_
    exact ⟨⟨_, rfl, Or.inr ⟨by omega, m, c1, U, g1, rfl⟩⟩, ⟨tu1, lo1, _, m, _, t1.1, t1.2.1, t1.2.2.1, t1.2.2.2, ⟨hT0, hT1, hT2, hT3, by omega, by omega⟩, ⟨hS0, hS1, hS2, by omega, by omega⟩, hok1.1, hok1.2.1, hok1.2.2.1, drf_z hdr0⟩, hn, fr⟩
  · have c_4 := xa_b0.mp c_4
    refine xa_iconst (pc := 7) dX9_spun_7 ?_
    refine xa_ireturn (pc := 8) dX9_spun_8 rfl trivial ?_
    exact ⟨⟨_, rfl, Or.inl ⟨by omega, rfl⟩⟩, hTS0, hn, fr⟩
theorem c_xTimes {G : xa_G} {h : xa_H} (k : Nat) (kp : Int) (ld dg : Nat → Int) (pa jo : Nat) (wa sr pu ri : Int) (mv le fi : Nat → Int) (pc : Nat) (w n : Int) (h1 : xa_ok w) (h2 : xa_ok n) (hB9 : vB ld dg pa jo wa sr pu ri) (hmvb : ∀ i, 0 ≤ mv i ∧ mv i ≤ 18) (hle : ∀ i, 0 ≤ le i ∧ le i ≤ 60) (hfi : fiOk pa fi pc) (hX : xX0 h k kp) (hB : xB h (k + 3) ld dg pa jo wa sr pu ri) (hH : xH h (k + 11) mv le fi pc) (hTS : xTS h k)  : xa_M G mX9_times [xa_r k, xa_i w, xa_i n] h 0 0 (fun r h' => (∃ r0, r = some (xa_i r0) ∧ sq_times ld dg pa jo wa sr pu mv le w n r0) ∧ xTS h' k ∧ h'.2 = h.2 ∧ ∀ i, (i < k + 24 ∨ k + 31 ≤ i) → h'.1 i = h.1 i) := by
  refine xa_enter (by decide +kernel) (Nat.le_of_ble_eq_true rfl) ?_
  refine xa_locals (ls' := [some (xa_r k), some (xa_i w), some (xa_i n)]) rfl ?_
  have hn : h.2 = h.2 := rfl
  have fr : ∀ i, (i < k + 24 ∨ k + 31 ≤ i) → h.1 i = h.1 i := fun _ _ => rfl
  have hTS0 := hTS
  have hX' := hX
  obtain ⟨hX0, hk, hkn⟩ := hX
  obtain ⟨hB0, hB1, hB2, hBk, hBn⟩ := hB
  obtain ⟨hH0, hH1, hH2, hH3, hHk, hHn⟩ := hH
  obtain ⟨tu, lo, dr, dn, al, po, sp, tj, tb, ⟨hT0, hT1, hT2, hT3, -, -⟩, ⟨hS0, hS1, hS2, -, -⟩, hpo, hsp, htj, hdr0⟩ := hTS
  have h0' := hB9.1
  have hw9 := hB9.wag
  have hwa : xa_ok wa := by omega
  have hsr : 0 ≤ sr ∧ sr ≤ 12 := by omega
  have hpu := hB9.2.2.2.2.2.2.1
  have hri := hB9.2.2.2.2.2.2.2
  clear hw9
  refine xa_iload_n (pc := 0) dX9_times_0 rfl ?_
  refine xa_callS (pc := 1) (as := [xa_i w]) (rest := []) dX9_times_1 ⟨qX9_isWay.1, qX9_isWay.2.1, qX9_isWay.2.2, by decide, by decide⟩ lkRX9_150 smX9_isWay rfl rfl (Nat.le_of_ble_eq_true rfl) (Nat.zero_le _) (Nat.zero_le _) (c_isWay _ ⟨by omega, by omega⟩) (fun r h' hq => ?_)
  obtain ⟨rfl, hq⟩ := hq
  have hq := hq.symm
  subst hq
  refine xa_if_eq (pc := 4) (tgt := 18) dX9_times_4 (by decide) xa_okb (fun c_4 => ?_) (fun c_4 => ?_)
  · have c_4 := xa_b0.mp c_4
    refine xa_iconst (pc := 18) dX9_times_18 ?_
    refine xa_ireturn (pc := 19) dX9_times_19 rfl trivial ?_
    exact ⟨⟨_, rfl, Or.inl ⟨by omega, rfl⟩⟩, hTS0, hn, fr⟩
  · have c_4 := xa_b1.mp c_4
    refine xa_iload_n (pc := 7) dX9_times_7 rfl ?_
    refine xa_iconst (pc := 8) dX9_times_8 ?_
    refine xa_sipush (pc := 9) dX9_times_9 rfl ?_
    refine xa_callS (pc := 12) (as := [xa_i n, xa_i 1, xa_i 1000]) (rest := []) dX9_times_12 ⟨qX9_isWithin.1, qX9_isWithin.2.1, qX9_isWithin.2.2, by decide, by decide⟩ lkRX9_89 smX9_isWithin rfl rfl (Nat.le_of_ble_eq_true rfl) (Nat.zero_le _) (Nat.zero_le _) (c_isWithin _ _ _ ⟨by omega, by omega⟩ (by decide) (by decide)) (fun r h' hq => ?_)
    obtain ⟨rfl, hq⟩ := hq
    have hq := hq.symm
    subst hq
    refine xa_if_ne (pc := 15) (tgt := 20) dX9_times_15 (by decide) xa_okb (fun c_15 => ?_) (fun c_15 => ?_)
    · have c_15 := xa_b1.mp c_15
      obtain ⟨wn, rfl⟩ : ∃ z : Nat, w = (z : Int) := ⟨w.toNat, by omega⟩
      refine xa_aload_n (pc := 20) dX9_times_20 rfl ?_
      refine xa_getfield (pc := 21) dX9_times_21 flRX9_51 (by omega) (by omega) hX0 rfl ?_
      refine xa_aload_n (pc := 24) dX9_times_24 rfl ?_
      refine xa_getfield (pc := 25) dX9_times_25 flRX9_38 (by omega) (by omega) hX0 rfl ?_
      refine xa_iload_n (pc := 28) dX9_times_28 rfl ?_
      refine xa_callV (pc := 29) (as := [xa_r (k + 11), xa_i ((wn : Nat) : Int)]) (rest := []) dX9_times_29 ⟨qX8_follow.1, qX8_follow.2.1, qX8_follow.2.2, by decide, by decide⟩ lkRX9_166 imX8_follow seX8_follow rfl rfl (by omega) (by omega) hT0 rfl (Nat.le_of_ble_eq_true rfl) (Nat.zero_le _) (Nat.zero_le _) (c_follow (k + 24) (k + 3) (k + 11) wn tu lo dr ld dg mv le fi po sp dn pa jo pc al wa sr pu ri tj tb (by omega) (by omega) (by omega) (by omega) (by omega) hwa hsr hB9.2.1 hB9.2.2.2.1 hmvb hle hpo hsp htj ⟨hT0, hT1, hT2, hT3, by omega, by omega⟩ ⟨hS0, hS1, hS2, by omega, by omega⟩ ⟨hB0, hB1, hB2, by omega, by omega⟩ ⟨hH0, hH1, hH2, hH3, by omega, by omega⟩) (fun r h' hq => ?_)
      obtain ⟨rfl, m, t1, u1, tu1, lo1, hm, htr, hno, harr, hok1, ⟨hT0, hT1, hT2, hT3, -, -⟩, ⟨hS0, hS1, hS2, -, -⟩, hqn, hqf⟩ := hq
      have hT0 : h'.1 (k + 24) = xa_o 8 [xa_r (k + 24 + 4), xa_r (k + 3), xa_r (k + 24 + 1), xa_r (k + 24 + 2), xa_r (k + 24 + 3), xa_i ((m : Nat) : Int), xa_i (xa_b (m = (le wn).toNat))] := hT0
      have hT1 : h'.1 (k + 24 + 1) = xa_a 183 tu1 := hT1
      have hT2 : h'.1 (k + 24 + 2) = xa_a 61 lo1 := hT2
      have hT3 : h'.1 (k + 24 + 3) = xa_a 61 dr := hT3
      have hS0 : h'.1 (k + 24 + 4) = xa_o 4 [xa_r (k + 3), xa_r (k + 24 + 4 + 1), xa_r (k + 24 + 4 + 2), xa_i t1.2.2.1, xa_i t1.2.2.2] := hS0
      have hS1 : h'.1 (k + 24 + 4 + 1) = xa_a 3 t1.1 := hS1
      have hS2 : h'.1 (k + 24 + 4 + 2) = xa_a 2 t1.2.1 := hS2
      have hX0 : h'.1 k = xa_o 9 [xa_r (k + 1), xa_r (k + 3), xa_r (k + 6), xa_r (k + 9), xa_r (k + 11), xa_r (k + 15), xa_i kp, xa_r (k + 24), xa_r (k + 31), xa_r (k + 32), xa_r (k + 36), xa_r (k + 48), xa_r (k + 60)] := (hqf _ (by omega)).trans hX0
      have hB0 : h'.1 (k + 3) = xa_o 0 [xa_r (k + 3 + 1), xa_r (k + 3 + 2), xa_i ((pa : Nat) : Int), xa_i ((jo : Nat) : Int), xa_i wa, xa_i sr, xa_i pu, xa_i ri] := (hqf _ (by omega)).trans hB0
      have hB1 : h'.1 (k + 3 + 1) = xa_a 9 ld := (hqf _ (by omega)).trans hB1
      have hB2 : h'.1 (k + 3 + 2) = xa_a 2 dg := (hqf _ (by omega)).trans hB2
      have hH0 : h'.1 (k + 11) = xa_o 5 [xa_r (k + 11 + 1), xa_r (k + 11 + 2), xa_r (k + 11 + 3), xa_i ((pc : Nat) : Int)] := (hqf _ (by omega)).trans hH0
      have hH1 : h'.1 (k + 11 + 1) = xa_a 240 mv := (hqf _ (by omega)).trans hH1
      have hH2 : h'.1 (k + 11 + 2) = xa_a 4 le := (hqf _ (by omega)).trans hH2
      have hH3 : h'.1 (k + 11 + 3) = xa_a 120 fi := (hqf _ (by omega)).trans hH3
      have hn : h'.2 = h.2 := hqn.trans hn
      have fr : ∀ i, (i < k + 24 ∨ k + 31 ≤ i) → h'.1 i = h.1 i := fun i hi => (hqf i (by omega)).trans (fr i hi)
      have hlw := hle wn
      obtain ⟨c1, has1, hfw0⟩ := fw_all (ms := fun n => sp_mvat mv ((wn : Nat) : Int) ((n : Nat) : Int)) hB9 (fun i => sp_mvat_b hmvb _ _) hm htr hno harr
      have hfw : fwR ld dg pa jo wa sr (wy mv ((wn : Nat) : Int)) (le wn).toNat m c1 u1 tu1 lo1 := hfw0.ext (fun i hi => mvat_wy mv (by omega) (by omega))
      clear htr hno harr hfw0
      refine xa_aload_n (pc := 32) dX9_times_32 rfl ?_
      refine xa_getfield (pc := 33) dX9_times_33 flRX9_51 (by omega) (by omega) hX0 rfl ?_
      refine xa_callV (pc := 36) (as := []) (rest := []) dX9_times_36 ⟨qX8_closes.1, qX8_closes.2.1, qX8_closes.2.2, by decide, by decide⟩ lkRX9_189 imX8_closes seX8_closes rfl rfl (by omega) (by omega) hT0 rfl (Nat.le_of_ble_eq_true rfl) (Nat.zero_le _) (Nat.zero_le _) (c_closes _ _ _ _ _ _ _ _ _ _ _ _ _ _ _ _ _ _ _ (by exact (xa_bq.elim Or.inl Or.inr)) ⟨hT0, hT1, hT2, hT3, by omega, by omega⟩ ⟨hS0, hS1, hS2, by omega, by omega⟩ ⟨hB0, hB1, hB2, by omega, by omega⟩ (by omega) (by omega) (by omega) hok1.2.1 hok1.1) (fun r h' hq => ?_)
      obtain ⟨hq1, hq⟩ := hq
      have hq := hq.symm
      subst hq
      rw [xa_bc (show (xa_b (m = (le wn).toNat) = 1 ∧ sp_restB t1.1 t1.2.1 pa jo = true) ↔ (m = (le wn).toNat ∧ c1 = cf_rest pa) from and_congr xa_beq (cf_restB hB9 hfw.2.1 has1))] at hq1
      subst hq1
      refine xa_if_ne (pc := 39) (tgt := 45) dX9_times_39 (by decide) xa_okb (fun c_39 => ?_) (fun c_39 => ?_)
      · have c_39 := xa_b1.mp c_39
        refine xa_aload_n (pc := 45) dX9_times_45 rfl ?_
        refine xa_getfield (pc := 46) dX9_times_46 flRX9_51 (by omega) (by omega) hX0 rfl ?_
        refine xa_aload_n (pc := 49) dX9_times_49 rfl ?_
        refine xa_getfield (pc := 50) dX9_times_50 flRX9_19 (by omega) (by omega) hX0 rfl ?_
        refine xa_getfield (pc := 53) dX9_times_53 flRX9_144 (by omega) (by omega) hB0 rfl ?_
        refine xa_callV (pc := 56) (as := [xa_i pu]) (rest := []) dX9_times_56 ⟨qX8_drift.1, qX8_drift.2.1, qX8_drift.2.2, by decide, by decide⟩ lkRX9_173 imX8_drift seX8_drift rfl rfl (by omega) (by omega) hT0 rfl (Nat.le_of_ble_eq_true rfl) (Nat.zero_le _) (Nat.zero_le _) (c_drift2 _ _ _ _ _ _ _ _ (by omega) (fun i hi => hfw.lo_b hB9 hi) hpu ⟨hT0, hT1, hT2, hT3, by omega, by omega⟩) (fun r h' hq => ?_)
        obtain ⟨rfl, ⟨hT0, hT1, hT2, hT3, -, -⟩, hqn, hqf⟩ := hq
        have hT0 : h'.1 (k + 24) = xa_o 8 [xa_r (k + 24 + 4), xa_r (k + 3), xa_r (k + 24 + 1), xa_r (k + 24 + 2), xa_r (k + 24 + 3), xa_i ((m : Nat) : Int), xa_i (xa_b (m = (le wn).toNat))] := hT0
        have hT1 : h'.1 (k + 24 + 1) = xa_a 183 tu1 := hT1
        have hT2 : h'.1 (k + 24 + 2) = xa_a 61 lo1 := hT2
        have hT3 : h'.1 (k + 24 + 3) = xa_a 61 (sp_drf dr pu lo1 m) := hT3
        have hX0 : h'.1 k = xa_o 9 [xa_r (k + 1), xa_r (k + 3), xa_r (k + 6), xa_r (k + 9), xa_r (k + 11), xa_r (k + 15), xa_i kp, xa_r (k + 24), xa_r (k + 31), xa_r (k + 32), xa_r (k + 36), xa_r (k + 48), xa_r (k + 60)] := (hqf _ (by omega)).trans hX0
        have hB0 : h'.1 (k + 3) = xa_o 0 [xa_r (k + 3 + 1), xa_r (k + 3 + 2), xa_i ((pa : Nat) : Int), xa_i ((jo : Nat) : Int), xa_i wa, xa_i sr, xa_i pu, xa_i ri] := (hqf _ (by omega)).trans hB0
        have hB1 : h'.1 (k + 3 + 1) = xa_a 9 ld := (hqf _ (by omega)).trans hB1
        have hB2 : h'.1 (k + 3 + 2) = xa_a 2 dg := (hqf _ (by omega)).trans hB2
        have hH0 : h'.1 (k + 11) = xa_o 5 [xa_r (k + 11 + 1), xa_r (k + 11 + 2), xa_r (k + 11 + 3), xa_i ((pc : Nat) : Int)] := (hqf _ (by omega)).trans hH0
        have hH1 : h'.1 (k + 11 + 1) = xa_a 240 mv := (hqf _ (by omega)).trans hH1
        have hH2 : h'.1 (k + 11 + 2) = xa_a 4 le := (hqf _ (by omega)).trans hH2
        have hH3 : h'.1 (k + 11 + 3) = xa_a 120 fi := (hqf _ (by omega)).trans hH3
        have hS0 : h'.1 (k + 24 + 4) = xa_o 4 [xa_r (k + 3), xa_r (k + 24 + 4 + 1), xa_r (k + 24 + 4 + 2), xa_i t1.2.2.1, xa_i t1.2.2.2] := (hqf _ (by omega)).trans hS0
        have hS1 : h'.1 (k + 24 + 4 + 1) = xa_a 3 t1.1 := (hqf _ (by omega)).trans hS1
        have hS2 : h'.1 (k + 24 + 4 + 2) = xa_a 2 t1.2.1 := (hqf _ (by omega)).trans hS2
        have hn : h'.2 = h.2 := hqn.trans hn
        have fr : ∀ i, (i < k + 24 ∨ k + 31 ≤ i) → h'.1 i = h.1 i := fun i hi => (hqf i (by omega)).trans (fr i hi)
        refine xa_aload_n (pc := 59) dX9_times_59 rfl ?_
        refine xa_getfield (pc := 60) dX9_times_60 flRX9_51 (by omega) (by omega) hX0 rfl ?_
        refine xa_aload_n (pc := 63) dX9_times_63 rfl ?_
        refine xa_getfield (pc := 64) dX9_times_64 flRX9_51 (by omega) (by omega) hX0 rfl ?_
        refine xa_getfield (pc := 67) dX9_times_67 flRX9_170 (by omega) (by omega) hT0 rfl ?_
        refine xa_iconst (pc := 70) dX9_times_70 ?_
        refine xa_callV (pc := 71) (as := [xa_i ((m : Nat) : Int), xa_i 0]) (rest := []) dX9_times_71 ⟨qX8_turnOf.1, qX8_turnOf.2.1, qX8_turnOf.2.2, by decide, by decide⟩ lkRX9_177 imX8_turnOf seX8_turnOf rfl rfl (by omega) (by omega) hT0 rfl (Nat.le_of_ble_eq_true rfl) (Nat.zero_le _) (Nat.zero_le _) (c_turnOf _ _ _ _ _ _ _ _ _ (by omega) (by omega) ⟨hT0, hT1, hT2, hT3, by omega, by omega⟩) (fun r h' hq => ?_)
        obtain ⟨rfl, hq⟩ := hq
        have hq := hq.symm
        subst hq
        have hb9 := fw_b hB9 hfw hdr0 (push := pu) hpu (by omega) (i := m) (p := 0) (Nat.le_refl _) (by omega)
        obtain ⟨U, g1, g2⟩ := fw_end hfw hdr0 (by omega) pu
        have hb9 : -3000000 ≤ sp_tof tu1 (sp_drf dr pu lo1 m) ((m : Nat) : Int) 0 ∧ sp_tof tu1 (sp_drf dr pu lo1 m) ((m : Nat) : Int) 0 ≤ 3000000 := hb9
        refine xa_top (y := U) g2 ?_
        rw [g2] at hb9
        refine xa_sipush (pc := 74) dX9_times_74 rfl ?_
        refine xa_callS (pc := 77) (as := [xa_i U, xa_i 360]) (rest := []) dX9_times_77 ⟨qJ9_floorMod_7cf53.1, qJ9_floorMod_7cf53.2.1, qJ9_floorMod_7cf53.2.2, by decide, by decide⟩ lkRX9_180 smJ9_floorMod_7cf53 rfl rfl (Nat.le_of_ble_eq_true rfl) (Nat.zero_le _) (Nat.zero_le _) (c_floorMod _ _ ⟨by omega, by omega⟩ (by decide) (by omega)) (fun r h' hq => ?_)
        obtain ⟨rfl, hq⟩ := hq
        have hq := hq.symm
        subst hq
        refine xa_iload_n (pc := 80) dX9_times_80 rfl ?_
        refine xa_imul (pc := 81) dX9_times_81 ?_
        have mb1 := Int.mul_le_mul_of_nonneg_right (show U % 360 ≤ 359 by omega) (show 0 ≤ n by omega)
        have mb0 := Int.mul_nonneg (show 0 ≤ U % 360 by omega) (show 0 ≤ n by omega)
        refine xa_sipush (pc := 82) dX9_times_82 rfl ?_
        refine xa_callS (pc := 85) (as := [xa_i ((U % 360) * n), xa_i 360]) (rest := []) dX9_times_85 ⟨qJ9_floorMod_7cf53.1, qJ9_floorMod_7cf53.2.1, qJ9_floorMod_7cf53.2.2, by decide, by decide⟩ lkRX9_180 smJ9_floorMod_7cf53 rfl rfl (Nat.le_of_ble_eq_true rfl) (Nat.zero_le _) (Nat.zero_le _) (c_floorMod _ _ ⟨by omega, by omega⟩ (by decide) (by omega)) (fun r h' hq => ?_)
        obtain ⟨rfl, hq⟩ := hq
        have hq := hq.symm
        subst hq
        refine xa_ireturn (pc := 88) dX9_times_88 rfl trivial ?_
        exact ⟨⟨_, rfl, Or.inr ⟨by omega, m, c1, U, g1, (if_pos c_39).symm⟩⟩, ⟨tu1, lo1, _, m, _, t1.1, t1.2.1, t1.2.2.1, t1.2.2.2, ⟨hT0, hT1, hT2, hT3, by omega, by omega⟩, ⟨hS0, hS1, hS2, by omega, by omega⟩, hok1.1, hok1.2.1, hok1.2.2.1, drf_z hdr0⟩, hn, fr⟩
      · have c_39 := xa_b0.mp c_39
        refine xa_bipush (pc := 42) dX9_times_42 rfl ?_
        refine xa_ireturn (pc := 44) dX9_times_44 rfl trivial ?_
        exact ⟨⟨_, rfl, Or.inr ⟨by omega, m, c1, _, hfw.2.2.1 pu, (if_neg c_39).symm⟩⟩, ⟨tu1, lo1, _, m, _, t1.1, t1.2.1, t1.2.2.1, t1.2.2.2, ⟨hT0, hT1, hT2, hT3, by omega, by omega⟩, ⟨hS0, hS1, hS2, by omega, by omega⟩, hok1.1, hok1.2.1, hok1.2.2.1, hdr0⟩, hn, fr⟩
    · have c_15 := xa_b0.mp c_15
      refine xa_iconst (pc := 18) dX9_times_18 ?_
      refine xa_ireturn (pc := 19) dX9_times_19 rfl trivial ?_
      exact ⟨⟨_, rfl, Or.inl ⟨by omega, rfl⟩⟩, hTS0, hn, fr⟩
theorem c_xMay {G : xa_G} {h : xa_H} (k : Nat) (kp : Int) (ld dg : Nat → Int) (pa jo : Nat) (wa sr pu ri : Int) (mv le fi : Nat → Int) (pc : Nat) (w turn : Int) (h1 : xa_ok w) (h2 : xa_ok turn) (hB9 : vB ld dg pa jo wa sr pu ri) (hmvb : ∀ i, 0 ≤ mv i ∧ mv i ≤ 18) (hle : ∀ i, 0 ≤ le i ∧ le i ≤ 60) (hfi : fiOk pa fi pc) (hX : xX0 h k kp) (hB : xB h (k + 3) ld dg pa jo wa sr pu ri) (hH : xH h (k + 11) mv le fi pc) (hTS : xTS h k)  : xa_M G mX9_may [xa_r k, xa_i w, xa_i turn] h 0 0 (fun r h' => (∃ r0, r = some (xa_i r0) ∧ sq_may ld dg pa jo wa sr pu mv le fi pc w turn r0) ∧ xTS h' k ∧ h'.2 = h.2 ∧ ∀ i, (i < k + 24 ∨ k + 31 ≤ i) → h'.1 i = h.1 i) := by
  refine xa_enter (by decide +kernel) (Nat.le_of_ble_eq_true rfl) ?_
  refine xa_locals (ls' := [some (xa_r k), some (xa_i w), some (xa_i turn)]) rfl ?_
  have hn : h.2 = h.2 := rfl
  have fr : ∀ i, (i < k + 24 ∨ k + 31 ≤ i) → h.1 i = h.1 i := fun _ _ => rfl
  have hTS0 := hTS
  have hX' := hX
  obtain ⟨hX0, hk, hkn⟩ := hX
  obtain ⟨hB0, hB1, hB2, hBk, hBn⟩ := hB
  obtain ⟨hH0, hH1, hH2, hH3, hHk, hHn⟩ := hH
  obtain ⟨tu, lo, dr, dn, al, po, sp, tj, tb, ⟨hT0, hT1, hT2, hT3, -, -⟩, ⟨hS0, hS1, hS2, -, -⟩, hpo, hsp, htj, hdr0⟩ := hTS
  have h0' := hB9.1
  have hw9 := hB9.wag
  have hwa : xa_ok wa := by omega
  have hsr : 0 ≤ sr ∧ sr ≤ 12 := by omega
  have hpu := hB9.2.2.2.2.2.2.1
  have hri := hB9.2.2.2.2.2.2.2
  clear hw9
  refine xa_iload_n (pc := 0) dX9_may_0 rfl ?_
  refine xa_callS (pc := 1) (as := [xa_i w]) (rest := []) dX9_may_1 ⟨qX9_isWay.1, qX9_isWay.2.1, qX9_isWay.2.2, by decide, by decide⟩ lkRX9_150 smX9_isWay rfl rfl (Nat.le_of_ble_eq_true rfl) (Nat.zero_le _) (Nat.zero_le _) (c_isWay _ ⟨by omega, by omega⟩) (fun r h' hq => ?_)
  obtain ⟨rfl, hq⟩ := hq
  have hq := hq.symm
  subst hq
  refine xa_if_eq (pc := 4) (tgt := 14) dX9_may_4 (by decide) xa_okb (fun c_4 => ?_) (fun c_4 => ?_)
  · have c_4 := xa_b0.mp c_4
    refine xa_iconst (pc := 14) dX9_may_14 ?_
    refine xa_ireturn (pc := 15) dX9_may_15 rfl trivial ?_
    exact ⟨⟨_, rfl, Or.inl ⟨by omega, rfl⟩⟩, hTS0, hn, fr⟩
  · have c_4 := xa_b1.mp c_4
    refine xa_iload_n (pc := 7) dX9_may_7 rfl ?_
    refine xa_callS (pc := 8) (as := [xa_i turn]) (rest := []) dX9_may_8 ⟨qX9_isTurn.1, qX9_isTurn.2.1, qX9_isTurn.2.2, by decide, by decide⟩ lkRX9_163 smX9_isTurn rfl rfl (Nat.le_of_ble_eq_true rfl) (Nat.zero_le _) (Nat.zero_le _) (c_isTurn _ ⟨by omega, by omega⟩) (fun r h' hq => ?_)
    obtain ⟨rfl, hq⟩ := hq
    have hq := hq.symm
    subst hq
    refine xa_if_ne (pc := 11) (tgt := 16) dX9_may_11 (by decide) xa_okb (fun c_11 => ?_) (fun c_11 => ?_)
    · have c_11 := xa_b1.mp c_11
      obtain ⟨wn, rfl⟩ : ∃ z : Nat, w = (z : Int) := ⟨w.toNat, by omega⟩
      refine xa_aload_n (pc := 16) dX9_may_16 rfl ?_
      refine xa_getfield (pc := 17) dX9_may_17 flRX9_51 (by omega) (by omega) hX0 rfl ?_
      refine xa_aload_n (pc := 20) dX9_may_20 rfl ?_
      refine xa_getfield (pc := 21) dX9_may_21 flRX9_38 (by omega) (by omega) hX0 rfl ?_
      refine xa_iload_n (pc := 24) dX9_may_24 rfl ?_
      refine xa_callV (pc := 25) (as := [xa_r (k + 11), xa_i ((wn : Nat) : Int)]) (rest := []) dX9_may_25 ⟨qX8_follow.1, qX8_follow.2.1, qX8_follow.2.2, by decide, by decide⟩ lkRX9_166 imX8_follow seX8_follow rfl rfl (by omega) (by omega) hT0 rfl (Nat.le_of_ble_eq_true rfl) (Nat.zero_le _) (Nat.zero_le _) (c_follow (k + 24) (k + 3) (k + 11) wn tu lo dr ld dg mv le fi po sp dn pa jo pc al wa sr pu ri tj tb (by omega) (by omega) (by omega) (by omega) (by omega) hwa hsr hB9.2.1 hB9.2.2.2.1 hmvb hle hpo hsp htj ⟨hT0, hT1, hT2, hT3, by omega, by omega⟩ ⟨hS0, hS1, hS2, by omega, by omega⟩ ⟨hB0, hB1, hB2, by omega, by omega⟩ ⟨hH0, hH1, hH2, hH3, by omega, by omega⟩) (fun r h' hq => ?_)
      obtain ⟨rfl, m, t1, u1, tu1, lo1, hm, htr, hno, harr, hok1, ⟨hT0, hT1, hT2, hT3, -, -⟩, ⟨hS0, hS1, hS2, -, -⟩, hqn, hqf⟩ := hq
      have hT0 : h'.1 (k + 24) = xa_o 8 [xa_r (k + 24 + 4), xa_r (k + 3), xa_r (k + 24 + 1), xa_r (k + 24 + 2), xa_r (k + 24 + 3), xa_i ((m : Nat) : Int), xa_i (xa_b (m = (le wn).toNat))] := hT0
      have hT1 : h'.1 (k + 24 + 1) = xa_a 183 tu1 := hT1
      have hT2 : h'.1 (k + 24 + 2) = xa_a 61 lo1 := hT2
      have hT3 : h'.1 (k + 24 + 3) = xa_a 61 dr := hT3
      have hS0 : h'.1 (k + 24 + 4) = xa_o 4 [xa_r (k + 3), xa_r (k + 24 + 4 + 1), xa_r (k + 24 + 4 + 2), xa_i t1.2.2.1, xa_i t1.2.2.2] := hS0
      have hS1 : h'.1 (k + 24 + 4 + 1) = xa_a 3 t1.1 := hS1
      have hS2 : h'.1 (k + 24 + 4 + 2) = xa_a 2 t1.2.1 := hS2
      have hX0 : h'.1 k = xa_o 9 [xa_r (k + 1), xa_r (k + 3), xa_r (k + 6), xa_r (k + 9), xa_r (k + 11), xa_r (k + 15), xa_i kp, xa_r (k + 24), xa_r (k + 31), xa_r (k + 32), xa_r (k + 36), xa_r (k + 48), xa_r (k + 60)] := (hqf _ (by omega)).trans hX0
      have hB0 : h'.1 (k + 3) = xa_o 0 [xa_r (k + 3 + 1), xa_r (k + 3 + 2), xa_i ((pa : Nat) : Int), xa_i ((jo : Nat) : Int), xa_i wa, xa_i sr, xa_i pu, xa_i ri] := (hqf _ (by omega)).trans hB0
      have hB1 : h'.1 (k + 3 + 1) = xa_a 9 ld := (hqf _ (by omega)).trans hB1
      have hB2 : h'.1 (k + 3 + 2) = xa_a 2 dg := (hqf _ (by omega)).trans hB2
      have hH0 : h'.1 (k + 11) = xa_o 5 [xa_r (k + 11 + 1), xa_r (k + 11 + 2), xa_r (k + 11 + 3), xa_i ((pc : Nat) : Int)] := (hqf _ (by omega)).trans hH0
      have hH1 : h'.1 (k + 11 + 1) = xa_a 240 mv := (hqf _ (by omega)).trans hH1
      have hH2 : h'.1 (k + 11 + 2) = xa_a 4 le := (hqf _ (by omega)).trans hH2
      have hH3 : h'.1 (k + 11 + 3) = xa_a 120 fi := (hqf _ (by omega)).trans hH3
      have hn : h'.2 = h.2 := hqn.trans hn
      have fr : ∀ i, (i < k + 24 ∨ k + 31 ≤ i) → h'.1 i = h.1 i := fun i hi => (hqf i (by omega)).trans (fr i hi)
      have hlw := hle wn
      obtain ⟨c1, has1, hfw0⟩ := fw_all (ms := fun n => sp_mvat mv ((wn : Nat) : Int) ((n : Nat) : Int)) hB9 (fun i => sp_mvat_b hmvb _ _) hm htr hno harr
      have hfw : fwR ld dg pa jo wa sr (wy mv ((wn : Nat) : Int)) (le wn).toNat m c1 u1 tu1 lo1 := hfw0.ext (fun i hi => mvat_wy mv (by omega) (by omega))
      clear htr hno harr hfw0
      refine xa_aload_n (pc := 28) dX9_may_28 rfl ?_
      refine xa_getfield (pc := 29) dX9_may_29 flRX9_51 (by omega) (by omega) hX0 rfl ?_
      refine xa_aload_n (pc := 32) dX9_may_32 rfl ?_
      refine xa_getfield (pc := 33) dX9_may_33 flRX9_19 (by omega) (by omega) hX0 rfl ?_
      refine xa_getfield (pc := 36) dX9_may_36 flRX9_144 (by omega) (by omega) hB0 rfl ?_
      refine xa_callV (pc := 39) (as := [xa_i pu]) (rest := []) dX9_may_39 ⟨qX8_drift.1, qX8_drift.2.1, qX8_drift.2.2, by decide, by decide⟩ lkRX9_173 imX8_drift seX8_drift rfl rfl (by omega) (by omega) hT0 rfl (Nat.le_of_ble_eq_true rfl) (Nat.zero_le _) (Nat.zero_le _) (c_drift2 _ _ _ _ _ _ _ _ (by omega) (fun i hi => hfw.lo_b hB9 hi) hpu ⟨hT0, hT1, hT2, hT3, by omega, by omega⟩) (fun r h' hq => ?_)
      obtain ⟨rfl, ⟨hT0, hT1, hT2, hT3, -, -⟩, hqn, hqf⟩ := hq
      have hT0 : h'.1 (k + 24) = xa_o 8 [xa_r (k + 24 + 4), xa_r (k + 3), xa_r (k + 24 + 1), xa_r (k + 24 + 2), xa_r (k + 24 + 3), xa_i ((m : Nat) : Int), xa_i (xa_b (m = (le wn).toNat))] := hT0
      have hT1 : h'.1 (k + 24 + 1) = xa_a 183 tu1 := hT1
      have hT2 : h'.1 (k + 24 + 2) = xa_a 61 lo1 := hT2
      have hT3 : h'.1 (k + 24 + 3) = xa_a 61 (sp_drf dr pu lo1 m) := hT3
      have hX0 : h'.1 k = xa_o 9 [xa_r (k + 1), xa_r (k + 3), xa_r (k + 6), xa_r (k + 9), xa_r (k + 11), xa_r (k + 15), xa_i kp, xa_r (k + 24), xa_r (k + 31), xa_r (k + 32), xa_r (k + 36), xa_r (k + 48), xa_r (k + 60)] := (hqf _ (by omega)).trans hX0
      have hB0 : h'.1 (k + 3) = xa_o 0 [xa_r (k + 3 + 1), xa_r (k + 3 + 2), xa_i ((pa : Nat) : Int), xa_i ((jo : Nat) : Int), xa_i wa, xa_i sr, xa_i pu, xa_i ri] := (hqf _ (by omega)).trans hB0
      have hB1 : h'.1 (k + 3 + 1) = xa_a 9 ld := (hqf _ (by omega)).trans hB1
      have hB2 : h'.1 (k + 3 + 2) = xa_a 2 dg := (hqf _ (by omega)).trans hB2
      have hH0 : h'.1 (k + 11) = xa_o 5 [xa_r (k + 11 + 1), xa_r (k + 11 + 2), xa_r (k + 11 + 3), xa_i ((pc : Nat) : Int)] := (hqf _ (by omega)).trans hH0
      have hH1 : h'.1 (k + 11 + 1) = xa_a 240 mv := (hqf _ (by omega)).trans hH1
      have hH2 : h'.1 (k + 11 + 2) = xa_a 4 le := (hqf _ (by omega)).trans hH2
      have hH3 : h'.1 (k + 11 + 3) = xa_a 120 fi := (hqf _ (by omega)).trans hH3
      have hS0 : h'.1 (k + 24 + 4) = xa_o 4 [xa_r (k + 3), xa_r (k + 24 + 4 + 1), xa_r (k + 24 + 4 + 2), xa_i t1.2.2.1, xa_i t1.2.2.2] := (hqf _ (by omega)).trans hS0
      have hS1 : h'.1 (k + 24 + 4 + 1) = xa_a 3 t1.1 := (hqf _ (by omega)).trans hS1
      have hS2 : h'.1 (k + 24 + 4 + 2) = xa_a 2 t1.2.1 := (hqf _ (by omega)).trans hS2
      have hn : h'.2 = h.2 := hqn.trans hn
      have fr : ∀ i, (i < k + 24 ∨ k + 31 ≤ i) → h'.1 i = h.1 i := fun i hi => (hqf i (by omega)).trans (fr i hi)
      refine xa_aload_n (pc := 42) dX9_may_42 rfl ?_
      refine xa_getfield (pc := 43) dX9_may_43 flRX9_51 (by omega) (by omega) hX0 rfl ?_
      refine xa_aload_n (pc := 46) dX9_may_46 rfl ?_
      refine xa_getfield (pc := 47) dX9_may_47 flRX9_38 (by omega) (by omega) hX0 rfl ?_
      refine xa_iload_n (pc := 50) dX9_may_50 rfl ?_
      refine xa_callV (pc := 51) (as := [xa_r (k + 11), xa_i turn]) (rest := []) dX9_may_51 ⟨qX8_isFilmed.1, qX8_isFilmed.2.1, qX8_isFilmed.2.2, by decide, by decide⟩ lkRX9_227 imX8_isFilmed seX8_isFilmed rfl rfl (by omega) (by omega) hT0 rfl (Nat.le_of_ble_eq_true rfl) (Nat.zero_le _) (Nat.zero_le _) (c_isFilmed2 _ _ _ pa tu1 lo1 (sp_drf dr pu lo1 m) mv le fi m pc _ turn (by omega) (by omega) (fun i p hi hp => fw_b hB9 hfw hdr0 hpu (by omega) hi hp) hfi (by omega) ⟨hT0, hT1, hT2, hT3, by omega, by omega⟩ ⟨hH0, hH1, hH2, hH3, by omega, by omega⟩) (fun r h' hq => ?_)
      obtain ⟨hq1, hq⟩ := hq
      have hq := hq.symm
      subst hq
      rw [fw_film hfw hdr0 pu hfi turn pc (Nat.le_refl _)] at hq1
      have hq1 : r = some (xa_i (xa_b (fl_P ld dg pa jo wa sr pu mv le ((wn : Nat) : Int) fi pc turn = true))) := hq1
      subst hq1
      refine xa_if_eq (pc := 54) (tgt := 61) dX9_may_54 (by decide) xa_okb (fun c_54 => ?_) (fun c_54 => ?_)
      · have c_54 := xa_b0.mp c_54
        refine xa_iconst (pc := 61) dX9_may_61 ?_
        refine xa_ireturn (pc := 62) dX9_may_62 rfl trivial ?_
        exact ⟨⟨_, rfl, Or.inr ⟨by omega, xa_bf c_54⟩⟩, ⟨tu1, lo1, _, m, _, t1.1, t1.2.1, t1.2.2.1, t1.2.2.2, ⟨hT0, hT1, hT2, hT3, by omega, by omega⟩, ⟨hS0, hS1, hS2, by omega, by omega⟩, hok1.1, hok1.2.1, hok1.2.2.1, drf_z hdr0⟩, hn, fr⟩
      · have c_54 := xa_b1.mp c_54
        refine xa_iconst (pc := 57) dX9_may_57 ?_
        refine xa_goto (pc := 58) (tgt := 62) dX9_may_58 (by decide) ?_
        refine xa_ireturn (pc := 62) dX9_may_62 rfl trivial ?_
        exact ⟨⟨_, rfl, Or.inr ⟨by omega, xa_bt c_54⟩⟩, ⟨tu1, lo1, _, m, _, t1.1, t1.2.1, t1.2.2.1, t1.2.2.2, ⟨hT0, hT1, hT2, hT3, by omega, by omega⟩, ⟨hS0, hS1, hS2, by omega, by omega⟩, hok1.1, hok1.2.1, hok1.2.2.1, drf_z hdr0⟩, hn, fr⟩
    · have c_11 := xa_b0.mp c_11
      refine xa_iconst (pc := 14) dX9_may_14 ?_
      refine xa_ireturn (pc := 15) dX9_may_15 rfl trivial ?_
      exact ⟨⟨_, rfl, Or.inl ⟨by omega, rfl⟩⟩, hTS0, hn, fr⟩
