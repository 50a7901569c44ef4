/-! The model: small calls that change it -/
def xa_uF (F : Nat → Nat → Int) (i : Nat) (f : Nat → Int) : Nat → Nat → Int := fun j => if j = i then f else F j

theorem c_mByte {G : xa_G} {h : xa_H} (k : Nat) (F : Nat → Nat → Int) (s : Nat → Int) (j : Int) (hj : 0 ≤ j ∧ j ≤ 1000) (hs : 0 ≤ s 0 ∧ s 0 ≤ 120) (hM : xM h k F s)  : xa_M G mX10_byteAt [xa_r k, xa_i j] h 0 0 (fun r h' => r = some (xa_i (if j < s 0 then F 1 j.toNat else 0)) ∧ h' = h) := by
  refine xa_enter (by decide +kernel) (Nat.le_of_ble_eq_true rfl) ?_
  refine xa_locals (ls' := [some (xa_r k), some (xa_i j)]) rfl ?_
  obtain ⟨hM0, hM1, hM2, hM3, hM4, hM5, hM6, hM7, hM8, hM9, hM10, hM11, hM12, hM13, hM14, hM15, hM16, hMk, hMn⟩ := hM
  refine xa_iload_n (pc := 0) dX10_byteAt_0 rfl ?_
  refine xa_aload_n (pc := 1) dX10_byteAt_1 rfl ?_
  refine xa_getfield (pc := 2) dX10_byteAt_2 flRX10_69 (by omega) (by omega) hM0 rfl ?_
  refine xa_icmp_ge (pc := 5) (tgt := 17) dX10_byteAt_5 (by decide) ⟨by omega, by omega⟩ ⟨by omega, by omega⟩ (fun c_5 => ?_) (fun c_5 => ?_)
  · skip
    refine xa_iconst (pc := 17) dX10_byteAt_17 ?_
    refine xa_ireturn (pc := 18) dX10_byteAt_18 rfl trivial ?_
    exact ⟨congrArg (fun z => some (xa_i z)) (show 0 = if j < s 0 then F 1 j.toNat else 0 by (first | (rw [if_pos (by omega)]; done) | (rw [if_neg (by omega)]; done))), rfl⟩
  · skip
    refine xa_aload_n (pc := 8) dX10_byteAt_8 rfl ?_
    refine xa_getfield (pc := 9) dX10_byteAt_9 flRX10_7 (by omega) (by omega) hM0 rfl ?_
    refine xa_iload_n (pc := 12) dX10_byteAt_12 rfl ?_
    refine xa_ialdw (pc := 13) j.toNat dX10_byteAt_13 (by omega) hM1 (by omega) (by omega) rfl ?_
    refine xa_goto (pc := 14) (tgt := 18) dX10_byteAt_14 (by decide) ?_
    refine xa_ireturn (pc := 18) dX10_byteAt_18 rfl trivial ?_
    exact ⟨congrArg (fun z => some (xa_i z)) (show (F 1) j.toNat = if j < s 0 then F 1 j.toNat else 0 by (first | (rw [if_pos (by omega)]; done) | (rw [if_neg (by omega)]; done))), rfl⟩
theorem c_mWipe {G : xa_G} {h : xa_H} (k : Nat) (F : Nat → Nat → Int) (s : Nat → Int) (hM : xM h k F s)  : xa_M G mX10_wipe [xa_r k] h 0 0 (fun r h' => r = some (xa_i (s 0)) ∧ xM h' k F (xa_upf s 0 0) ∧ h'.2 = h.2 ∧ ∀ i, (i < k ∨ k + 17 ≤ i) → h'.1 i = h.1 i) := by
  refine xa_enter (by decide +kernel) (Nat.le_of_ble_eq_true rfl) ?_
  refine xa_locals (ls' := [some (xa_r k), none]) rfl ?_
  have hn : h.2 = h.2 := rfl
  have fr : ∀ i, (i < k ∨ k + 17 ≤ i) → h.1 i = h.1 i := fun _ _ => rfl
  obtain ⟨hM0, hM1, hM2, hM3, hM4, hM5, hM6, hM7, hM8, hM9, hM10, hM11, hM12, hM13, hM14, hM15, hM16, hMk, hMn⟩ := hM
  refine xa_aload_n (pc := 0) dX10_wipe_0 rfl ?_
  refine xa_getfield (pc := 1) dX10_wipe_1 flRX10_69 (by omega) (by omega) hM0 rfl ?_
  refine xa_istoren (pc := 4) [some (xa_r k), some (xa_i (s 0))] dX10_wipe_4 (by decide) (Nat.le_of_ble_eq_true rfl) rfl rfl ?_
  refine xa_aload_n (pc := 5) dX10_wipe_5 rfl ?_
  refine xa_iconst (pc := 6) dX10_wipe_6 ?_
  refine xa_putw (pc := 7) [xa_i 0, xa_r (k + 1), xa_r (k + 2), xa_r (k + 3), xa_r (k + 4), xa_r (k + 5), xa_r (k + 6), xa_r (k + 7), xa_r (k + 8), xa_r (k + 9), xa_r (k + 10), xa_r (k + 11), xa_r (k + 12), xa_i (s 13), xa_i (s 14), xa_i (s 15), xa_r (k + 13), xa_i (s 17), xa_i (s 18), xa_i (s 19), xa_i (s 20), xa_r (k + 14), xa_r (k + 15), xa_i (s 23), xa_r (k + 16)] dX10_wipe_7 flRX10_69 plX10_0 (by omega) (by omega) hM0 trivial rfl (fun h1 nh1 ch1 oh1 => ?_)
  have hM0 : h1.1 k = xa_o 10 [xa_i 0, xa_r (k + 1), xa_r (k + 2), xa_r (k + 3), xa_r (k + 4), xa_r (k + 5), xa_r (k + 6), xa_r (k + 7), xa_r (k + 8), xa_r (k + 9), xa_r (k + 10), xa_r (k + 11), xa_r (k + 12), xa_i (s 13), xa_i (s 14), xa_i (s 15), xa_r (k + 13), xa_i (s 17), xa_i (s 18), xa_i (s 19), xa_i (s 20), xa_r (k + 14), xa_r (k + 15), xa_i (s 23), xa_r (k + 16)] := ch1
  have hM1 : h1.1 (k + 1) = xa_a 120 (F 1) := (oh1 _ (by omega)).trans hM1
  have hM2 : h1.1 (k + 2) = xa_a 2 (F 2) := (oh1 _ (by omega)).trans hM2
  have hM3 : h1.1 (k + 3) = xa_a 18 (F 3) := (oh1 _ (by omega)).trans hM3
  have hM4 : h1.1 (k + 4) = xa_a 2 (F 4) := (oh1 _ (by omega)).trans hM4
  have hM5 : h1.1 (k + 5) = xa_a 4 (F 5) := (oh1 _ (by omega)).trans hM5
  have hM6 : h1.1 (k + 6) = xa_a 4 (F 6) := (oh1 _ (by omega)).trans hM6
  have hM7 : h1.1 (k + 7) = xa_a 2 (F 7) := (oh1 _ (by omega)).trans hM7
  have hM8 : h1.1 (k + 8) = xa_a 2 (F 8) := (oh1 _ (by omega)).trans hM8
  have hM9 : h1.1 (k + 9) = xa_a 12 (F 9) := (oh1 _ (by omega)).trans hM9
  have hM10 : h1.1 (k + 10) = xa_a 720 (F 10) := (oh1 _ (by omega)).trans hM10
  have hM11 : h1.1 (k + 11) = xa_a 3 (F 11) := (oh1 _ (by omega)).trans hM11
  have hM12 : h1.1 (k + 12) = xa_a 360 (F 12) := (oh1 _ (by omega)).trans hM12
  have hM13 : h1.1 (k + 13) = xa_a 3 (F 13) := (oh1 _ (by omega)).trans hM13
  have hM14 : h1.1 (k + 14) = xa_a 583200 (F 14) := (oh1 _ (by omega)).trans hM14
  have hM15 : h1.1 (k + 15) = xa_a 583200 (F 15) := (oh1 _ (by omega)).trans hM15
  have hM16 : h1.1 (k + 16) = xa_a 4 (F 16) := (oh1 _ (by omega)).trans hM16
  have hn : h1.2 = h.2 := nh1.trans hn
  have fr : ∀ i, (i < k ∨ k + 17 ≤ i) → h1.1 i = h.1 i := fun i hi => (oh1 i (by omega)).trans (fr i hi)
  refine xa_iload_n (pc := 10) dX10_wipe_10 rfl ?_
  refine xa_ireturn (pc := 11) dX10_wipe_11 rfl trivial ?_
  exact ⟨rfl, ⟨hM0, hM1, hM2, hM3, hM4, hM5, hM6, hM7, hM8, hM9, hM10, hM11, hM12, hM13, hM14, hM15, hM16, by omega, by omega⟩, hn, fr⟩
theorem c_mMove {G : xa_G} {h : xa_H} (k : Nat) (F : Nat → Nat → Int) (s : Nat → Int) (w m : Int) (hw : xa_ok w) (hm : xa_ok m) (hwy : ∀ i, 0 ≤ F 9 i ∧ F 9 i ≤ 60) (hM : xM h k F s)  : xa_M G mX10_move [xa_r k, xa_i w, xa_i m] h 0 0 (fun r h' => (¬ ((0 ≤ w ∧ w ≤ 3) ∧ 0 ≤ m ∧ m ≤ 18) ∧ r = some (xa_i (-1)) ∧ h' = h) ∨ ((0 ≤ w ∧ w ≤ 3) ∧ F 9 w.toNat = 60 ∧ r = some (xa_i (-3)) ∧ h' = h) ∨ (((0 ≤ w ∧ w ≤ 3) ∧ 0 ≤ m ∧ m ≤ 18) ∧ F 9 w.toNat ≠ 60 ∧ r = some (xa_i (F 9 w.toNat + 1)) ∧ xM h' k (xa_uF (xa_uF F 10 (xa_upf (F 10) (60 * w + F 9 w.toNat).toNat m)) 9 (xa_upf (F 9) w.toNat (F 9 w.toNat + 1))) s ∧ h'.2 = h.2 ∧ ∀ i, (i < k ∨ k + 17 ≤ i) → h'.1 i = h.1 i)) := by
  refine xa_enter (by decide +kernel) (Nat.le_of_ble_eq_true rfl) ?_
  refine xa_locals (ls' := [some (xa_r k), some (xa_i w), some (xa_i m)]) rfl ?_
  have hn : h.2 = h.2 := rfl
  have fr : ∀ i, (i < k ∨ k + 17 ≤ i) → h.1 i = h.1 i := fun _ _ => rfl
  obtain ⟨hM0, hM1, hM2, hM3, hM4, hM5, hM6, hM7, hM8, hM9, hM10, hM11, hM12, hM13, hM14, hM15, hM16, hMk, hMn⟩ := hM
  refine xa_iload_n (pc := 0) dX10_move_0 rfl ?_
  refine xa_callS (pc := 1) (as := [xa_i w]) (rest := []) dX10_move_1 ⟨qX10_isWay.1, qX10_isWay.2.1, qX10_isWay.2.2, by decide, by decide⟩ lkRX10_156 smX10_isWay rfl rfl (Nat.le_of_ble_eq_true rfl) (Nat.zero_le _) (Nat.zero_le _) (c_mWay _ ⟨by omega, by omega⟩) (fun r h' hq => ?_)
  obtain ⟨rfl, hq⟩ := hq
  have hq := hq.symm
  subst hq
  refine xa_if_eq (pc := 4) (tgt := 19) dX10_move_4 (by decide) xa_okb (fun c_4 => ?_) (fun c_4 => ?_)
  · have c_4 := xa_b0.mp c_4
    refine xa_iconst (pc := 19) dX10_move_19 ?_
    refine xa_ireturn (pc := 20) dX10_move_20 rfl trivial ?_
    exact Or.inl ⟨by omega, rfl, rfl⟩
  · have c_4 := xa_b1.mp c_4
    refine xa_iload_n (pc := 7) dX10_move_7 rfl ?_
    refine xa_i2l (pc := 8) dX10_move_8 ⟨by omega, by omega⟩ ?_
    refine xa_lconst (pc := 9) (n := 0) dX10_move_9 rfl ?_
    refine xa_ldc2 (pc := 10) (n := 18) dX10_move_10 ctRX10_159 rfl ?_
    refine xa_callS (pc := 13) (as := [xa_l m, xa_l 0, xa_l 18]) (rest := []) dX10_move_13 ⟨qX10_in.1, qX10_in.2.1, qX10_in.2.2, by decide, by decide⟩ lkRX10_65 smX10_in rfl rfl (Nat.le_of_ble_eq_true rfl) (Nat.zero_le _) (Nat.zero_le _) (c_in _ _ _ ⟨by omega, by omega⟩ ⟨by omega, by omega⟩ ⟨by omega, by omega⟩) (fun r h' hq => ?_)
    obtain ⟨rfl, hq⟩ := hq
    have hq := hq.symm
    subst hq
    refine xa_if_ne (pc := 16) (tgt := 21) dX10_move_16 (by decide) xa_okb (fun c_16 => ?_) (fun c_16 => ?_)
    · have c_16 := xa_b1.mp c_16
      refine xa_aload_n (pc := 21) dX10_move_21 rfl ?_
      refine xa_getfield (pc := 22) dX10_move_22 flRX10_34 (by omega) (by omega) hM0 rfl ?_
      refine xa_iload_n (pc := 25) dX10_move_25 rfl ?_
      refine xa_ialdw (pc := 26) w.toNat dX10_move_26 (by omega) hM9 (by omega) (by omega) rfl ?_
      have b_26 := hwy (w.toNat)
      refine xa_bipush (pc := 27) dX10_move_27 rfl ?_
      refine xa_icmp_ne (pc := 29) (tgt := 35) dX10_move_29 (by decide) ⟨by omega, by omega⟩ (by decide) (fun c_29 => ?_) (fun c_29 => ?_)
      · skip
        refine xa_aload_n (pc := 35) dX10_move_35 rfl ?_
        refine xa_getfield (pc := 36) dX10_move_36 flRX10_37 (by omega) (by omega) hM0 rfl ?_
        refine xa_bipush (pc := 39) dX10_move_39 rfl ?_
        refine xa_iload_n (pc := 41) dX10_move_41 rfl ?_
        refine xa_imul (pc := 42) dX10_move_42 ?_
        refine xa_aload_n (pc := 43) dX10_move_43 rfl ?_
        refine xa_getfield (pc := 44) dX10_move_44 flRX10_34 (by omega) (by omega) hM0 rfl ?_
        refine xa_iload_n (pc := 47) dX10_move_47 rfl ?_
        refine xa_ialdw (pc := 48) w.toNat dX10_move_48 (by omega) hM9 (by omega) (by omega) rfl ?_
        have b_48 := hwy (w.toNat)
        refine xa_iadd (pc := 49) dX10_move_49 ?_
        refine xa_iload_n (pc := 50) dX10_move_50 rfl ?_
        refine xa_iastw (pc := 51) (((60 * w) + ((F 9) w.toNat)).toNat) dX10_move_51 (by omega) (by omega) hM10 (by omega) (by omega) rfl (fun h1 nh1 ch1 oh1 => ?_)
        have hM10 : h1.1 (k + 10) = xa_a 720 (xa_upf (F 10) (((60 * w) + ((F 9) w.toNat)).toNat) m) := ch1
        have hM0 : h1.1 k = xa_o 10 [xa_i (s 0), xa_r (k + 1), xa_r (k + 2), xa_r (k + 3), xa_r (k + 4), xa_r (k + 5), xa_r (k + 6), xa_r (k + 7), xa_r (k + 8), xa_r (k + 9), xa_r (k + 10), xa_r (k + 11), xa_r (k + 12), xa_i (s 13), xa_i (s 14), xa_i (s 15), xa_r (k + 13), xa_i (s 17), xa_i (s 18), xa_i (s 19), xa_i (s 20), xa_r (k + 14), xa_r (k + 15), xa_i (s 23), xa_r (k + 16)] := (oh1 _ (by omega)).trans hM0
        have hM1 : h1.1 (k + 1) = xa_a 120 (F 1) := (oh1 _ (by omega)).trans hM1
        have hM2 : h1.1 (k + 2) = xa_a 2 (F 2) := (oh1 _ (by omega)).trans hM2
        have hM3 : h1.1 (k + 3) = xa_a 18 (F 3) := (oh1 _ (by omega)).trans hM3
        have hM4 : h1.1 (k + 4) = xa_a 2 (F 4) := (oh1 _ (by omega)).trans hM4
        have hM5 : h1.1 (k + 5) = xa_a 4 (F 5) := (oh1 _ (by omega)).trans hM5
        have hM6 : h1.1 (k + 6) = xa_a 4 (F 6) := (oh1 _ (by omega)).trans hM6
        have hM7 : h1.1 (k + 7) = xa_a 2 (F 7) := (oh1 _ (by omega)).trans hM7
        have hM8 : h1.1 (k + 8) = xa_a 2 (F 8) := (oh1 _ (by omega)).trans hM8
        have hM9 : h1.1 (k + 9) = xa_a 12 (F 9) := (oh1 _ (by omega)).trans hM9
        have hM11 : h1.1 (k + 11) = xa_a 3 (F 11) := (oh1 _ (by omega)).trans hM11
        have hM12 : h1.1 (k + 12) = xa_a 360 (F 12) := (oh1 _ (by omega)).trans hM12
        have hM13 : h1.1 (k + 13) = xa_a 3 (F 13) := (oh1 _ (by omega)).trans hM13
        have hM14 : h1.1 (k + 14) = xa_a 583200 (F 14) := (oh1 _ (by omega)).trans hM14
        have hM15 : h1.1 (k + 15) = xa_a 583200 (F 15) := (oh1 _ (by omega)).trans hM15
        have hM16 : h1.1 (k + 16) = xa_a 4 (F 16) := (oh1 _ (by omega)).trans hM16
        have hn : h1.2 = h.2 := nh1.trans hn
        have fr : ∀ i, (i < k ∨ k + 17 ≤ i) → h1.1 i = h.1 i := fun i hi => (oh1 i (by omega)).trans (fr i hi)
        refine xa_aload_n (pc := 52) dX10_move_52 rfl ?_
        refine xa_getfield (pc := 53) dX10_move_53 flRX10_34 (by omega) (by omega) hM0 rfl ?_
        refine xa_iload_n (pc := 56) dX10_move_56 rfl ?_
        refine xa_dup2 (pc := 57) dX10_move_57 rfl rfl ?_
        refine xa_ialdw (pc := 58) w.toNat dX10_move_58 (by omega) hM9 (by omega) (by omega) rfl ?_
        have b_58 := hwy (w.toNat)
        refine xa_iconst (pc := 59) dX10_move_59 ?_
        refine xa_iadd (pc := 60) dX10_move_60 ?_
        refine xa_iastw (pc := 61) w.toNat dX10_move_61 (by omega) (by omega) hM9 (by omega) (by omega) rfl (fun h2 nh2 ch2 oh2 => ?_)
        have hM9 : h2.1 (k + 9) = xa_a 12 (xa_upf (F 9) w.toNat (((F 9) w.toNat) + 1)) := ch2
        have hM0 : h2.1 k = xa_o 10 [xa_i (s 0), xa_r (k + 1), xa_r (k + 2), xa_r (k + 3), xa_r (k + 4), xa_r (k + 5), xa_r (k + 6), xa_r (k + 7), xa_r (k + 8), xa_r (k + 9), xa_r (k + 10), xa_r (k + 11), xa_r (k + 12), xa_i (s 13), xa_i (s 14), xa_i (s 15), xa_r (k + 13), xa_i (s 17), xa_i (s 18), xa_i (s 19), xa_i (s 20), xa_r (k + 14), xa_r (k + 15), xa_i (s 23), xa_r (k + 16)] := (oh2 _ (by omega)).trans hM0
        have hM1 : h2.1 (k + 1) = xa_a 120 (F 1) := (oh2 _ (by omega)).trans hM1
        have hM2 : h2.1 (k + 2) = xa_a 2 (F 2) := (oh2 _ (by omega)).trans hM2
        have hM3 : h2.1 (k + 3) = xa_a 18 (F 3) := (oh2 _ (by omega)).trans hM3
        have hM4 : h2.1 (k + 4) = xa_a 2 (F 4) := (oh2 _ (by omega)).trans hM4
        have hM5 : h2.1 (k + 5) = xa_a 4 (F 5) := (oh2 _ (by omega)).trans hM5
        have hM6 : h2.1 (k + 6) = xa_a 4 (F 6) := (oh2 _ (by omega)).trans hM6
        have hM7 : h2.1 (k + 7) = xa_a 2 (F 7) := (oh2 _ (by omega)).trans hM7
        have hM8 : h2.1 (k + 8) = xa_a 2 (F 8) := (oh2 _ (by omega)).trans hM8
        have hM10 : h2.1 (k + 10) = xa_a 720 (xa_upf (F 10) (((60 * w) + ((F 9) w.toNat)).toNat) m) := (oh2 _ (by omega)).trans hM10
        have hM11 : h2.1 (k + 11) = xa_a 3 (F 11) := (oh2 _ (by omega)).trans hM11
        have hM12 : h2.1 (k + 12) = xa_a 360 (F 12) := (oh2 _ (by omega)).trans hM12
        have hM13 : h2.1 (k + 13) = xa_a 3 (F 13) := (oh2 _ (by omega)).trans hM13
        have hM14 : h2.1 (k + 14) = xa_a 583200 (F 14) := (oh2 _ (by omega)).trans hM14
        have hM15 : h2.1 (k + 15) = xa_a 583200 (F 15) := (oh2 _ (by omega)).trans hM15
        have hM16 : h2.1 (k + 16) = xa_a 4 (F 16) := (oh2 _ (by omega)).trans hM16
        have hn : h2.2 = h.2 := nh2.trans hn
        have fr : ∀ i, (i < k ∨ k + 17 ≤ i) → h2.1 i = h.1 i := fun i hi => (oh2 i (by omega)).trans (fr i hi)
        refine xa_aload_n (pc := 62) dX10_move_62 rfl ?_
        refine xa_getfield (pc := 63) dX10_move_63 flRX10_34 (by omega) (by omega) hM0 rfl ?_
        refine xa_iload_n (pc := 66) dX10_move_66 rfl ?_
        refine xa_ialdw (pc := 67) w.toNat dX10_move_67 (by omega) hM9 (by omega) (by omega) rfl ?_
        refine xa_ireturn (pc := 68) dX10_move_68 rfl trivial ?_
        exact Or.inr (Or.inr ⟨by omega, by omega, congrArg (fun z => some (xa_i z)) (xa_upf_at _ _ _), ⟨hM0, hM1, hM2, hM3, hM4, hM5, hM6, hM7, hM8, hM9, hM10, hM11, hM12, hM13, hM14, hM15, hM16, by omega, by omega⟩, hn, fr⟩)
      · skip
        refine xa_bipush (pc := 32) dX10_move_32 rfl ?_
        refine xa_ireturn (pc := 34) dX10_move_34 rfl trivial ?_
        exact Or.inr (Or.inl ⟨by omega, by omega, rfl, rfl⟩)
    · have c_16 := xa_b0.mp c_16
      refine xa_iconst (pc := 19) dX10_move_19 ?_
      refine xa_ireturn (pc := 20) dX10_move_20 rfl trivial ?_
      exact Or.inl ⟨by omega, rfl, rfl⟩
theorem c_mNoWay {G : xa_G} {h : xa_H} (k : Nat) (F : Nat → Nat → Int) (s : Nat → Int) (w : Int) (hw : xa_ok w) (hM : xM h k F s)  : xa_M G mX10_noWay [xa_r k, xa_i w] h 0 0 (fun r h' => (¬ (0 ≤ w ∧ w ≤ 3) ∧ r = some (xa_i (-1)) ∧ h' = h) ∨ ((0 ≤ w ∧ w ≤ 3) ∧ r = some (xa_i (F 9 w.toNat)) ∧ xM h' k (xa_uF F 9 (xa_upf (F 9) w.toNat 0)) s ∧ h'.2 = h.2 ∧ ∀ i, (i < k ∨ k + 17 ≤ i) → h'.1 i = h.1 i)) := by
  refine xa_enter (by decide +kernel) (Nat.le_of_ble_eq_true rfl) ?_
  refine xa_locals (ls' := [some (xa_r k), some (xa_i w), none]) rfl ?_
  have hn : h.2 = h.2 := rfl
  have fr : ∀ i, (i < k ∨ k + 17 ≤ i) → h.1 i = h.1 i := fun _ _ => rfl
  obtain ⟨hM0, hM1, hM2, hM3, hM4, hM5, hM6, hM7, hM8, hM9, hM10, hM11, hM12, hM13, hM14, hM15, hM16, hMk, hMn⟩ := hM
  refine xa_iload_n (pc := 0) dX10_noWay_0 rfl ?_
  refine xa_callS (pc := 1) (as := [xa_i w]) (rest := []) dX10_noWay_1 ⟨qX10_isWay.1, qX10_isWay.2.1, qX10_isWay.2.2, by decide, by decide⟩ lkRX10_156 smX10_isWay rfl rfl (Nat.le_of_ble_eq_true rfl) (Nat.zero_le _) (Nat.zero_le _) (c_mWay _ ⟨by omega, by omega⟩) (fun r h' hq => ?_)
  obtain ⟨rfl, hq⟩ := hq
  have hq := hq.symm
  subst hq
  refine xa_if_ne (pc := 4) (tgt := 9) dX10_noWay_4 (by decide) xa_okb (fun c_4 => ?_) (fun c_4 => ?_)
  · have c_4 := xa_b1.mp c_4
    refine xa_aload_n (pc := 9) dX10_noWay_9 rfl ?_
    refine xa_getfield (pc := 10) dX10_noWay_10 flRX10_34 (by omega) (by omega) hM0 rfl ?_
    refine xa_iload_n (pc := 13) dX10_noWay_13 rfl ?_
    refine xa_ialdw (pc := 14) w.toNat dX10_noWay_14 (by omega) hM9 (by omega) (by omega) rfl ?_
    refine xa_istoren (pc := 15) [some (xa_r k), some (xa_i w), some (xa_i ((F 9) w.toNat))] dX10_noWay_15 (by decide) (Nat.le_of_ble_eq_true rfl) rfl rfl ?_
    refine xa_aload_n (pc := 16) dX10_noWay_16 rfl ?_
    refine xa_getfield (pc := 17) dX10_noWay_17 flRX10_34 (by omega) (by omega) hM0 rfl ?_
    refine xa_iload_n (pc := 20) dX10_noWay_20 rfl ?_
    refine xa_iconst (pc := 21) dX10_noWay_21 ?_
    refine xa_iastw (pc := 22) w.toNat dX10_noWay_22 (by omega) (by omega) hM9 (by omega) (by omega) rfl (fun h1 nh1 ch1 oh1 => ?_)
    have hM9 : h1.1 (k + 9) = xa_a 12 (xa_upf (F 9) w.toNat 0) := ch1
    have hM0 : h1.1 k = xa_o 10 [xa_i (s 0), xa_r (k + 1), xa_r (k + 2), xa_r (k + 3), xa_r (k + 4), xa_r (k + 5), xa_r (k + 6), xa_r (k + 7), xa_r (k + 8), xa_r (k + 9), xa_r (k + 10), xa_r (k + 11), xa_r (k + 12), xa_i (s 13), xa_i (s 14), xa_i (s 15), xa_r (k + 13), xa_i (s 17), xa_i (s 18), xa_i (s 19), xa_i (s 20), xa_r (k + 14), xa_r (k + 15), xa_i (s 23), xa_r (k + 16)] := (oh1 _ (by omega)).trans hM0
    have hM1 : h1.1 (k + 1) = xa_a 120 (F 1) := (oh1 _ (by omega)).trans hM1
    have hM2 : h1.1 (k + 2) = xa_a 2 (F 2) := (oh1 _ (by omega)).trans hM2
    have hM3 : h1.1 (k + 3) = xa_a 18 (F 3) := (oh1 _ (by omega)).trans hM3
    have hM4 : h1.1 (k + 4) = xa_a 2 (F 4) := (oh1 _ (by omega)).trans hM4
    have hM5 : h1.1 (k + 5) = xa_a 4 (F 5) := (oh1 _ (by omega)).trans hM5
    have hM6 : h1.1 (k + 6) = xa_a 4 (F 6) := (oh1 _ (by omega)).trans hM6
    have hM7 : h1.1 (k + 7) = xa_a 2 (F 7) := (oh1 _ (by omega)).trans hM7
    have hM8 : h1.1 (k + 8) = xa_a 2 (F 8) := (oh1 _ (by omega)).trans hM8
    have hM10 : h1.1 (k + 10) = xa_a 720 (F 10) := (oh1 _ (by omega)).trans hM10
    have hM11 : h1.1 (k + 11) = xa_a 3 (F 11) := (oh1 _ (by omega)).trans hM11
    have hM12 : h1.1 (k + 12) = xa_a 360 (F 12) := (oh1 _ (by omega)).trans hM12
    have hM13 : h1.1 (k + 13) = xa_a 3 (F 13) := (oh1 _ (by omega)).trans hM13
    have hM14 : h1.1 (k + 14) = xa_a 583200 (F 14) := (oh1 _ (by omega)).trans hM14
    have hM15 : h1.1 (k + 15) = xa_a 583200 (F 15) := (oh1 _ (by omega)).trans hM15
    have hM16 : h1.1 (k + 16) = xa_a 4 (F 16) := (oh1 _ (by omega)).trans hM16
    have hn : h1.2 = h.2 := nh1.trans hn
    have fr : ∀ i, (i < k ∨ k + 17 ≤ i) → h1.1 i = h.1 i := fun i hi => (oh1 i (by omega)).trans (fr i hi)
    refine xa_iload_n (pc := 23) dX10_noWay_23 rfl ?_
    refine xa_ireturn (pc := 24) dX10_noWay_24 rfl trivial ?_
    exact Or.inr ⟨by omega, rfl, ⟨hM0, hM1, hM2, hM3, hM4, hM5, hM6, hM7, hM8, hM9, hM10, hM11, hM12, hM13, hM14, hM15, hM16, by omega, by omega⟩, hn, fr⟩
  · have c_4 := xa_b0.mp c_4
    refine xa_iconst (pc := 7) dX10_noWay_7 ?_
    refine xa_ireturn (pc := 8) dX10_noWay_8 rfl trivial ?_
    exact Or.inl ⟨by omega, rfl, rfl⟩
theorem c_mNoFilm {G : xa_G} {h : xa_H} (k : Nat) (F : Nat → Nat → Int) (s : Nat → Int) (hM : xM h k F s)  : xa_M G mX10_noFilm [xa_r k] h 0 0 (fun r h' => r = some (xa_i (F 11 0)) ∧ xM h' k (xa_uF F 11 (xa_upf (F 11) 0 0)) s ∧ h'.2 = h.2 ∧ ∀ i, (i < k ∨ k + 17 ≤ i) → h'.1 i = h.1 i) := by
  refine xa_enter (by decide +kernel) (Nat.le_of_ble_eq_true rfl) ?_
  refine xa_locals (ls' := [some (xa_r k), none]) rfl ?_
  have hn : h.2 = h.2 := rfl
  have fr : ∀ i, (i < k ∨ k + 17 ≤ i) → h.1 i = h.1 i := fun _ _ => rfl
  obtain ⟨hM0, hM1, hM2, hM3, hM4, hM5, hM6, hM7, hM8, hM9, hM10, hM11, hM12, hM13, hM14, hM15, hM16, hMk, hMn⟩ := hM
  refine xa_aload_n (pc := 0) dX10_noFilm_0 rfl ?_
  refine xa_getfield (pc := 1) dX10_noFilm_1 flRX10_40 (by omega) (by omega) hM0 rfl ?_
  refine xa_iconst (pc := 4) dX10_noFilm_4 ?_
  refine xa_ialdw (pc := 5) 0 dX10_noFilm_5 (by omega) hM11 (by omega) (by omega) rfl ?_
  refine xa_istoren (pc := 6) [some (xa_r k), some (xa_i ((F 11) 0))] dX10_noFilm_6 (by decide) (Nat.le_of_ble_eq_true rfl) rfl rfl ?_
  refine xa_aload_n (pc := 7) dX10_noFilm_7 rfl ?_
  refine xa_getfield (pc := 8) dX10_noFilm_8 flRX10_40 (by omega) (by omega) hM0 rfl ?_
  refine xa_iconst (pc := 11) dX10_noFilm_11 ?_
  refine xa_iconst (pc := 12) dX10_noFilm_12 ?_
  refine xa_iastw (pc := 13) 0 dX10_noFilm_13 (by omega) (by omega) hM11 (by omega) (by omega) rfl (fun h1 nh1 ch1 oh1 => ?_)
  have hM11 : h1.1 (k + 11) = xa_a 3 (xa_upf (F 11) 0 0) := ch1
  have hM0 : h1.1 k = xa_o 10 [xa_i (s 0), xa_r (k + 1), xa_r (k + 2), xa_r (k + 3), xa_r (k + 4), xa_r (k + 5), xa_r (k + 6), xa_r (k + 7), xa_r (k + 8), xa_r (k + 9), xa_r (k + 10), xa_r (k + 11), xa_r (k + 12), xa_i (s 13), xa_i (s 14), xa_i (s 15), xa_r (k + 13), xa_i (s 17), xa_i (s 18), xa_i (s 19), xa_i (s 20), xa_r (k + 14), xa_r (k + 15), xa_i (s 23), xa_r (k + 16)] := (oh1 _ (by omega)).trans hM0
  have hM1 : h1.1 (k + 1) = xa_a 120 (F 1) := (oh1 _ (by omega)).trans hM1
  have hM2 : h1.1 (k + 2) = xa_a 2 (F 2) := (oh1 _ (by omega)).trans hM2
  have hM3 : h1.1 (k + 3) = xa_a 18 (F 3) := (oh1 _ (by omega)).trans hM3
  have hM4 : h1.1 (k + 4) = xa_a 2 (F 4) := (oh1 _ (by omega)).trans hM4
  have hM5 : h1.1 (k + 5) = xa_a 4 (F 5) := (oh1 _ (by omega)).trans hM5
  have hM6 : h1.1 (k + 6) = xa_a 4 (F 6) := (oh1 _ (by omega)).trans hM6
  have hM7 : h1.1 (k + 7) = xa_a 2 (F 7) := (oh1 _ (by omega)).trans hM7
  have hM8 : h1.1 (k + 8) = xa_a 2 (F 8) := (oh1 _ (by omega)).trans hM8
  have hM9 : h1.1 (k + 9) = xa_a 12 (F 9) := (oh1 _ (by omega)).trans hM9
  have hM10 : h1.1 (k + 10) = xa_a 720 (F 10) := (oh1 _ (by omega)).trans hM10
  have hM12 : h1.1 (k + 12) = xa_a 360 (F 12) := (oh1 _ (by omega)).trans hM12
  have hM13 : h1.1 (k + 13) = xa_a 3 (F 13) := (oh1 _ (by omega)).trans hM13
  have hM14 : h1.1 (k + 14) = xa_a 583200 (F 14) := (oh1 _ (by omega)).trans hM14
  have hM15 : h1.1 (k + 15) = xa_a 583200 (F 15) := (oh1 _ (by omega)).trans hM15
  have hM16 : h1.1 (k + 16) = xa_a 4 (F 16) := (oh1 _ (by omega)).trans hM16
  have hn : h1.2 = h.2 := nh1.trans hn
  have fr : ∀ i, (i < k ∨ k + 17 ≤ i) → h1.1 i = h.1 i := fun i hi => (oh1 i (by omega)).trans (fr i hi)
  refine xa_iload_n (pc := 14) dX10_noFilm_14 rfl ?_
  refine xa_ireturn (pc := 15) dX10_noFilm_15 rfl trivial ?_
  exact ⟨rfl, ⟨hM0, hM1, hM2, hM3, hM4, hM5, hM6, hM7, hM8, hM9, hM10, hM11, hM12, hM13, hM14, hM15, hM16, by omega, by omega⟩, hn, fr⟩
