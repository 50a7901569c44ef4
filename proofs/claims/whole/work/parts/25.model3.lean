/-! The model: small calls that change it -/
def xa_uF (F : Nat → Nat → Int) (i : Nat) (f : Nat → Int) : Nat → Nat → Int := fun j => if j = i then f else F j

theorem c_mByte {G : xa_G} {h : xa_H} (k : Nat) (F : Nat → Nat → Int) (s : Nat → Int) (j : Int) (hj : 0 ≤ j ∧ j ≤ 1000) (hs : 0 ≤ s 0 ∧ s 0 ≤ 120) (hM : xM h k F s)  : xa_M G mX10_byteAt [xa_r k, xa_i j] h 0 0 (fun r h' => r = some (xa_i (if j < s 0 then F 1 j.toNat else 0)) ∧ h' = h) := by
  refine xa_enter (by decide +kernel) (Nat.le_of_ble_eq_true rfl) ?_
  refine xa_locals (ls' := [some (xa_r k), some (xa_i j)]) rfl ?_
  obtain ⟨hM0, hM1, hM2, hM3, hM4, hM5, hM6, hM7, hM8, hM9, hM10, hM11, hM12, hM13, hM14, hM15, hM16, hMk, hMn⟩ := hM
  refine xa_iload_n (pc := 0) dX10_byteAt_0 rfl ?_
  refine xa_aload_n (pc := 1) dX10_byteAt_1 rfl ?_
  refine xa_getfield (pc := 2) dX10_byteAt_2 flRX10_69 (by omega) (by omega) hM0 rfl ?_
  refine xa_icmp_ge (pc := 5) (tgt := 17) dX10_byteAt_5 (by decide) ⟨by omega, by omega⟩ ⟨by omega, by omega⟩ (fun c_5 => ?_) (fun c_5 => ?_)
  · skip
    refine xa_iconst (pc := 17) dX10_byteAt_17 ?_
    refine xa_ireturn (pc := 18) dX10_byteAt_18 rfl trivial ?_
    exact ⟨congrArg (fun z => some (xa_i z)) (show 0 = if j < s 0 then F 1 j.toNat else 0 by (first | (rw [if_pos (by omega)]; done) | (rw [if_neg (by omega)]; done))), rfl⟩
  · skip
    refine xa_aload_n (pc := 8) dX10_byteAt_8 rfl ?_
    refine xa_getfield (pc := 9) dX10_byteAt_9 flRX10_7 (by omega) (by omega) hM0 rfl ?_
    refine xa_iload_n (pc := 12) dX10_byteAt_12 rfl ?_
    refine xa_ialdw (pc := 13) j.toNat dX10_byteAt_13 (by omega) hM1 (by omega) (by omega) rfl ?_
    refine xa_goto (pc := 14) (tgt := 18) dX10_byteAt_14 (by decide) ?_
    refine xa_ireturn (pc := 18) dX10_byteAt_18 rfl trivial ?_
    exact ⟨congrArg (fun z => some (xa_i z)) (show (F 1) j.toNat = if j < s 0 then F 1 j.toNat else 0 by (first | (rw [if_pos (by omega)]; done) | (rw [if_neg (by omega)]; done))), rfl⟩
theorem c_mWipe {G : xa_G} {h : xa_H} (k : Nat) (F : Nat → Nat → Int) (s : Nat → Int) (hM : xM h k F s)  : xa_M G mX10_wipe [xa_r k] h 0 0 (fun r h' => r = some (xa_i (s 0)) ∧ xM h' k F (xa_upf s 0 0) ∧ h'.2 = h.2 ∧ ∀ i, (i < k ∨ k + 17 ≤ i) → h'.1 i = h.1 i) := by
  refine xa_enter (by decide +kernel) (Nat.le_of_ble_eq_true rfl) ?_
  refine xa_locals (ls' := [some (xa_r k), none]) rfl ?_
  have hn : h.2 = h.2 := rfl
  have fr : ∀ i, (i < k ∨ k + 17 ≤ i) → h.1 i = h.1 i := fun _ _ => rfl
  obtain ⟨hM0, hM1, hM2, hM3, hM4, hM5, hM6, hM7, hM8, hM9, hM10, hM11, hM12, hM13, hM14, hM15, hM16, hMk, hMn⟩ := hM
  refine xa_aload_n (pc := 0) dX10_wipe_0 rfl ?_
  refine xa_getfield (pc := 1) dX10_wipe_1 flRX10_69 (by omega) (by omega) hM0 rfl ?_
  refine xa_istoren (pc := 4) [some (xa_r k), some (xa_i (s 0))] dX10_wipe_4 (by decide) (Nat.le_of_ble_eq_true rfl) rfl rfl ?_
  refine xa_aload_n (pc := 5) dX10_wipe_5 rfl ?_
  refine xa_iconst (pc := 6) dX10_wipe_6 ?_
  refine xa_putw (pc := 7) [xa_i 0, xa_r (k + 1), xa_r (k + 2), xa_r (k + 3), xa_r (k + 4), xa_r (k + 5), xa_r (k + 6), xa_r (k + 7), xa_r (k + 8), xa_r (k + 9), xa_r (k + 10), xa_r (k + 11), xa_r (k + 12), xa_i (s 13), xa_i (s 14), xa_i (s 15), xa_r (k + 13), xa_i (s 17), xa_i (s 18), xa_i (s 19), xa_i (s 20), xa_r (k + 14), xa_r (k + 15), xa_i (s 23), xa_r (k + 16)] dX10_wipe_7 flRX10_69 plX10_0 (by omega) (by omega) hM0 trivial rfl (fun h1 nh1 ch1 oh1 => ?_)
  have hM0 : h1.1 k = xa_o 10 [xa_i 0, xa_r (k + 1), xa_r (k + 2), xa_r (k + 3), xa_r (k + 4), xa_r (k + 5), xa_r (k + 6), xa_r (k + 7), xa_r (k + 8), xa_r (k + 9), xa_r (k + 10), xa_r (k + 11), xa_r (k + 12), xa_i (s 13), xa_i (s 14), xa_i (s 15), xa_r (k + 13), xa_i (s 17), xa_i (s 18), xa_i (s 19), xa_i (s 20), xa_r (k + 14), xa_r (k + 15), xa_i (s 23), xa_r (k + 16)] := ch1
  have hM1 : h1.1 (k + 1) = xa_a 120 (F 1) := (oh1 _ (by omega)).trans hM1
  have hM2 : h1.1 (k + 2) = xa_a 2 (F 2) := (oh1 _ (by omega)).trans hM2
  have hM3 : h1.1 (k + 3) = xa_a 18 (F 3) := (oh1 _ (by omega)).trans hM3
  have hM4 : h1.1 (k + 4) = xa_a 2 (F 4) := (oh1 _ (by omega)).trans hM4
  have hM5 : h1.1 (k + 5) = xa_a 4 (F 5) := (oh1 _ (by omega)).trans hM5
  have hM6 : h1.1 (k + 6) = xa_a 4 (F 6) := (oh1 _ (by omega)).trans hM6
  have hM7 : h1.1 (k + 7) = xa_a 2 (F 7) := (oh1 _ (by omega)).trans hM7
  have hM8 : h1.1 (k + 8) = xa_a 2 (F 8) := (oh1 _ (by omega)).trans hM8
  have hM9 : h1.1 (k + 9) = xa_a 12 (F 9) := (oh1 _ (by omega)).trans hM9
  have hM10 : h1.1 (k + 10) = xa_a 720 (F 10) := (oh1 _ (by omega)).trans hM10
  have hM11 : h1.1 (k + 11) = xa_a 3 (F 11) := (oh1 _ (by omega)).trans hM11
  have hM12 : h1.1 (k + 12) = xa_a 360 (F 12) := (oh1 _ (by omega)).trans hM12
  have hM13 : h1.1 (k + 13) = xa_a 3 (F 13) := (oh1 _ (by omega)).trans hM13
  have hM14 : h1.1 (k + 14) = xa_a 583200 (F 14) := (oh1 _ (by omega)).trans hM14
  have hM15 : h1.1 (k + 15) = xa_a 583200 (F 15) := (oh1 _ (by omega)).trans hM15
  have hM16 : h1.1 (k + 16) = xa_a 4 (F 16) := (oh1 _ (by omega)).trans hM16
  have hn : h1.2 = h.2 := nh1.trans hn
  have fr : ∀ i, (i < k ∨ k + 17 ≤ i) → h1.1 i = h.1 i := fun i hi => (oh1 i (by omega)).trans (fr i hi)
  refine xa_iload_n (pc := 10) dX10_wipe_10 rfl ?_
  refine xa_ireturn (pc := 11) dX10_wipe_11 rfl trivial ?_
  exact ⟨rfl, ⟨hM0, hM1, hM2, hM3, hM4, hM5, hM6, hM7, hM8, hM9, hM10, hM11, hM12, hM13, hM14, hM15, hM16, by omega, by omega⟩, hn, fr⟩
theorem c_mMove {G : xa_G} {h : xa_H} (k : Nat) (F : Nat → Nat → Int) (s : Nat → Int) (w m : Int) (hw : xa_ok w) (hm : xa_ok m) (hwy : ∀ i, 0 ≤ F 9 i ∧ F 9 i ≤ 60) (hM : xM h k F s)  : xa_M G mX10_move [xa_r k, xa_i w, xa_i m] h 0 0 (fun r h' => (¬ ((0 ≤ w ∧ w ≤ 3) ∧ 0 ≤ m ∧ m ≤ 18) ∧ r = some (xa_i (-1)) ∧ h' = h) ∨ ((0 ≤ w ∧ w ≤ 3) ∧ F 9 w.toNat = 60 ∧ r = some (xa_i (-3)) ∧ h' = h) ∨ (((0 ≤ w ∧ w ≤ 3) ∧ 0 ≤ m ∧ m ≤ 18) ∧ F 9 w.toNat ≠ 60 ∧ r = some (xa_i (F 9 w.toNat + 1)) ∧ xM h' k (xa_uF (xa_uF F 10 (xa_upf (F 10) (60 * w + F 9 w.toNat).toNat m)) 9 (xa_upf (F 9) w.toNat (F 9 w.toNat + 1))) s ∧ h'.2 = h.2 ∧ ∀ i, (i < k ∨ k + 17 ≤ i) → h'.1 i = h.1 i)) := by
  refine xa_enter (by decide +kernel) (Nat.le_of_ble_eq_true rfl) ?_
  refine xa_locals (ls' := [some (xa_r k), some (xa_i w), some (xa_i m)]) rfl ?_
  have hn : h.2 = h.2 := rfl
  have fr : ∀ i, (i < k ∨ k + 17 ≤ i) → h.1 i = h.1 i := fun _ _ => rfl
  obtain ⟨hM0, hM1, hM2, hM3, hM4, hM5, hM6, hM7, hM8, hM9, hM10, hM11, hM12, hM13, hM14, hM15, hM16, hMk, hMn⟩ := hM
  refine xa_iload_n (pc := 0) dX10_move_0 rfl ?_
  refine xa_callS (pc := 1) (as := [xa_i w]) (rest := []) dX10_move_1 ⟨qX10_isWay.1, qX10_isWay.2.1, qX10_isWay.2.2, by decide, by decide⟩ lkRX10_156 smX10_isWay rfl rfl (Nat.le_of_ble_eq_true rfl) (Nat.zero_le _) (Nat.zero_le _) (c_mWay _ ⟨by omega, by omega⟩) (fun r h' hq => ?_)
  obtain ⟨rfl, hq⟩ := hq
  have hq := hq.symm
  subst hq
  refine xa_if_eq (pc := 4) (tgt := 19) dX10_move_4 (by decide) xa_okb (fun c_4 => ?_) (fun c_4 => ?_)
  · have c_4 := xa_b0.mp c_4
    refine xa_iconst (pc := 19) dX10_move_19 ?_
    refine xa_ireturn (pc := 20) dX10_move_20 rfl trivial ?_
    exact Or.inl ⟨by omega, rfl, rfl⟩
  · have c_4 := xa_b1.mp c_4
    refine xa_iload_n (pc := 7) dX10_move_7 rfl ?_
    refine xa_i2l (pc := 8) dX10_move_8 ⟨by omega, by omega⟩ ?_
    refine xa_lconst (pc := 9) (n := 0) dX10_move_9 rfl ?_
    refine xa_ldc2 (pc := 10) (n := 18) dX10_move_10 ctRX10_159 rfl ?_
    refine xa_callS (pc := 13) (as := [xa_l m, xa_l 0, xa_l 18]) (rest := []) dX10_move_13 ⟨qX10_in.1, qX10_in.2.1, qX10_in.2.2, by decide, by decide⟩ lkRX10_65 smX10_in rfl rfl (Nat.le_of_ble_eq_true rfl) (Nat.zero_le _) (Nat.zero_le _) (c_in _ _ _ ⟨by omega, by omega⟩ ⟨by omega, by omega⟩ ⟨by omega, by omega⟩) (fun r h' hq => ?_)
    obtain ⟨rfl, hq⟩ := hq
    have hq := hq.symm
    subst hq
    refine xa_if_ne (pc := 16) (tgt := 21) dX10_move_16 (by decide) xa_okb (fun c_16 => ?_) (fun c_16 => ?_)
    · have c_16 := xa_b1.mp c_16
      refine xa_aload_n (pc := 21) dX10_move_21 rfl ?_
      refine xa_getfield (pc := 22) dX10_move_22 flRX10_34 (by omega) (by omega) hM0 rfl ?_
      refine xa_iload_n (pc := 25) dX10_move_25 rfl ?_
      refine xa_ialdw (pc := 26) w.toNat dX10_move_26 (by omega) hM9 (by omega) (by omega) rfl ?_
      have b_26 := hwy (w.toNat)
      refine xa_bipush (pc := 27) dX10_move_27 rfl ?_
      refine xa_icmp_ne (pc := 29) (tgt := 35) dX10_move_29 (by decide) ⟨by omega, by omega⟩ (by decide) (fun c_29 => ?_) (fun c_29 => ?_)
      · skip
        refine xa_aload_n (pc := 35) dX10_move_35 rfl ?_
        refine xa_getfield (pc := 36) dX10_move_36 flRX10_37 (by omega) (by omega) hM0 rfl ?_
        refine xa_bipush (pc := 39) dX10_move_39 rfl ?_
        refine xa_iload_n (pc := 41) dX10_move_41 rfl ?_
        refine xa_imul (pc := 42) dX10_move_42 ?_
        refine xa_aload_n (pc := 43) dX10_move_43 rfl ?_
        refine xa_getfield (pc := 44) dX10_move_44 flRX10_34 (by omega) (by omega) hM0 rfl ?_
        refine xa_iload_n (pc := 47) dX10_move_47 rfl ?_
        refine xa_ialdw (pc := 48) w.toNat dX10_move_48 (by omega) hM9 (by omega) (by omega) rfl ?_
        have b_48 := hwy (w.toNat)
        refine xa_iadd (pc := 49) dX10_move_49 ?_
        refine xa_iload_n (pc := 50) dX10_move_50 rfl ?_
        refine xa_iastw (pc := 51) (((60 * w) + ((F 9) w.toNat)).toNat) dX10_move_51 (by omega) (by omega) hM10 (by omega) (by omega) rfl (fun h1 nh1 ch1 oh1 => ?_)
        have hM10 : h1.1 (k + 10) = xa_a 720 (xa_upf (F 10) (((60 * w) + ((F 9) w.toNat)).toNat) m) := ch1
        have hM0 : h1.1 k = xa_o 10 [xa_i (s 0), xa_r (k + 1), xa_r (k + 2), xa_r (k + 3), xa_r (k + 4), xa_r (k + 5), xa_r (k + 6), xa_r (k + 7), xa_r (k + 8), xa_r (k + 9), xa_r (k + 10), xa_r (k + 11), xa_r (k + 12), xa_i (s 13), xa_i (s 14), xa_i (s 15), xa_r (k + 13), xa_i (s 17), xa_i (s 18), xa_i (s 19), xa_i (s 20), xa_r (k + 14), xa_r (k + 15), xa_i (s 23), xa_r (k + 16)] := (oh1 _ (by omega)).trans hM0
        have hM1 : h1.1 (k + 1) = xa_a 120 (F 1) := (oh1 _ (by omega)).trans hM1
        have hM2 : h1.1 (k + 2) = xa_a 2 (F 2) := (oh1 _ (by omega)).trans hM2
        have hM3 : h1.1 (k + 3) = xa_a 18 (F 3) := (oh1 _ (by omega)).trans hM3
        have hM4 : h1.1 (k + 4) = xa_a 2 (F 4) := (oh1 _ (by omega)).trans hM4
        have hM5 : h1.1 (k + 5) = xa_a 4 (F 5) := (oh1 _ (by omega)).trans hM5
        have hM6 : h1.1 (k + 6) = xa_a 4 (F 6) := (oh1 _ (by omega)).trans hM6
        have hM7 : h1.1 (k + 7) = xa_a 2 (F 7) := (oh1 _ (by omega)).trans hM7
        have hM8 : h1.1 (k + 8) = xa_a 2 (F 8) := (oh1 _ (by omega)).trans hM8
        have hM9 : h1.1 (k + 9) = xa_a 12 (F 9) := (oh1 _ (by omega)).trans hM9
        have hM11 : h1.1 (k + 11) = xa_a 3 (F 11) := (oh1 _ (by omega)).trans hM11
        have hM12 : h1.1 (k + 12) = xa_a 360 (F 12) := (oh1 _ (by omega)).trans hM12
        have hM13 : h1.1 (k + 13) = xa_a 3 (F 13) := (oh1 _ (by omega)).trans hM13
        have hM14 : h1.1 (k + 14) = xa_a 583200 (F 14) := (oh1 _ (by omega)).trans hM14
        have hM15 : h1.1 (k + 15) = xa_a 583200 (F 15) := (oh1 _ (by omega)).trans hM15
        have hM16 : h1.1 (k + 16) = xa_a 4 (F 16) := (oh1 _ (by omega)).trans hM16
        have hn : h1.2 = h.2 := nh1.trans hn
        have fr : ∀ i, (i < k ∨ k + 17 ≤ i) → h1.1 i = h.1 i := fun i hi => (oh1 i (by omega)).trans (fr i hi)
        refine xa_aload_n (pc := 52) dX10_move_52 rfl ?_
        refine xa_getfield (pc := 53) dX10_move_53 flRX10_34 (by omega) (by omega) hM0 rfl ?_
        refine xa_iload_n (pc := 56) dX10_move_56 rfl ?_
        refine xa_dup2 (pc := 57) dX10_move_57 rfl rfl ?_
        refine xa_ialdw (pc := 58) w.toNat dX10_move_58 (by omega) hM9 (by omega) (by omega) rfl ?_
        have b_58 := hwy (w.toNat)
        refine xa_iconst (pc := 59) dX10_move_59 ?_
        refine xa_iadd (pc := 60) dX10_move_60 ?_
        refine xa_iastw (pc := 61) w.toNat dX10_move_61 (by omega) (by omega) hM9 (by omega) (by omega) rfl (fun h2 nh2 ch2 oh2 => ?_)
        have hM9 : h2.1 (k + 9) = xa_a 12 (xa_upf (F 9) w.toNat (((F 9) w.toNat) + 1)) := ch2
        have hM0 : h2.1 k = xa_o 10 [xa_i (s 0), xa_r (k + 1), xa_r (k + 2), xa_r (k + 3), xa_r (k + 4), xa_r (k + 5), xa_r (k + 6), xa_r (k + 7), xa_r (k + 8), xa_r (k + 9), xa_r (k + 10), xa_r (k + 11), xa_r (k + 12), xa_i (s 13), xa_i (s 14), xa_i (s 15), xa_r (k + 13), xa_i (s 17), xa_i (s 18), xa_i (s 19), xa_i (s 20), xa_r (k + 14), xa_r (k + 15), xa_i (s 23), xa_r (k + 16)] := (oh2 _ (by omega)).trans hM0
        have hM1 : h2.1 (k + 1) = xa_a 120 (F 1) := (oh2 _ (by omega)).trans hM1
        have hM2 : h2.1 (k + 2) = xa_a 2 (F 2) := (oh2 _ (by omega)).trans hM2
        have hM3 : h2.1 (k + 3) = xa_a 18 (F 3) := (oh2 _ (by omega)).trans hM3
        have hM4 : h2.1 (k + 4) = xa_a 2 (F 4) := (oh2 _ (by omega)).trans hM4
        have hM5 : h2.1 (k + 5) = xa_a 4 (F 5) := (oh2 _ (by omega)).trans hM5
        have hM6 : h2.1 (k + 6) = xa_a 4 (F 6) := (oh2 _ (by omega)).trans hM6
        have hM7 : h2.1 (k + 7) = xa_a 2 (F 7) := (oh2 _ (by omega)).trans hM7
        have hM8 : h2.1 (k + 8) = xa_a 2 (F 8) := (oh2 _ (by omega)).trans hM8
        have hM10 : h2.1 (k + 10) = xa_a 720 (xa_upf (F 10) (((60 * w) + ((F 9) w.toNat)).toNat) m) := (oh2 _ (by omega)).trans hM10
        have hM11 : h2.1 (k + 11) = xa_a 3 (F 11) := (oh2 _ (by omega)).trans hM11
        have hM12 : h2.1 (k + 12) = xa_a 360 (F 12) := (oh2 _ (by omega)).trans hM12
        have hM13 : h2.1 (k + 13) = xa_a 3 (F 13) := (oh2 _ (by omega)).trans hM13
        have hM14 : h2.1 (k + 14) = xa_a 583200 (F 14) := (oh2 _ (by omega)).trans hM14
        have hM15 : h2.1 (k + 15) = xa_a 583200 (F 15) := (oh2 _ (by omega)).trans hM15
        have hM16 : h2.1 (k + 16) = xa_a 4 (F 16) := (oh2 _ (by omega)).trans hM16
        have hn : h2.2 = h.2 := nh2.trans hn
        have fr : ∀ i, (i < k ∨ k + 17 ≤ i) → h2.1 i = h.1 i := fun i hi => (oh2 i (by omega)).trans (fr i hi)
        refine xa_aload_n (pc := 62) dX10_move_62 rfl ?_
        refine xa_getfield (pc := 63) dX10_move_63 flRX10_34 (by omega) (by omega) hM0 rfl ?_
        refine xa_iload_n (pc := 66) dX10_move_66 rfl ?_
        refine xa_ialdw (pc := 67) w.toNat dX10_move_67 (by omega) hM9 (by omega) (by omega) rfl ?_
        refine xa_ireturn (pc := 68) dX10_move_68 rfl trivial ?_
        exact Or.inr (Or.inr ⟨by omega, by omega, congrArg (fun z => some (xa_i z)) (xa_upf_at _ _ _), ⟨hM0, hM1, hM2, hM3, hM4, hM5, hM6, hM7, hM8, hM9, hM10, hM11, hM12, hM13, hM14, hM15, hM16, by omega, by omega⟩, hn, fr⟩)
      · skip
        refine xa_bipush (pc := 32) dX10_move_32 rfl ?_
        refine xa_ireturn (pc := 34) dX10_move_34 rfl trivial ?_
        exact Or.inr (Or.inl ⟨by omega, by omega, rfl, rfl⟩)
    · have c_16 := xa_b0.mp c_16
      refine xa_iconst (pc := 19) dX10_move_19 ?_
      refine xa_ireturn (pc := 20) dX10_move_20 rfl trivial ?_
      exact Or.inl ⟨by omega, rfl, rfl⟩
theorem c_mNoWay {G : xa_G} {h : xa_H} (k : Nat) (F : Nat → Nat → Int) (s : Nat → Int) (w : Int) (hw : xa_ok w) (hM : xM h k F s)  : xa_M G mX10_noWay [xa_r k, xa_i w] h 0 0 (fun r h' => (¬ (0 ≤ w ∧ w ≤ 3) ∧ r = some (xa_i (-1)) ∧ h' = h) ∨ ((0 ≤ w ∧ w ≤ 3) ∧ r = some (xa_i (F 9 w.toNat)) ∧ xM h' k (xa_uF F 9 (xa_upf (F 9) w.toNat 0)) s ∧ h'.2 = h.2 ∧ ∀ i, (i < k ∨ k + 17 ≤ i) → h'.1 i = h.1 i)) := by
  refine xa_enter (by decide +kernel) (Nat.le_of_ble_eq_true rfl) ?_
  refine xa_locals (ls' := [some (xa_r k), some (xa_i w), none]) rfl ?_
  have hn : h.2 = h.2 := rfl
  have fr : ∀ i, (i < k ∨ k + 17 ≤ i) → h.1 i = h.1 i := fun _ _ => rfl
  obtain ⟨hM0, hM1, hM2, hM3, hM4, hM5, hM6, hM7, hM8, hM9, hM10, hM11, hM12, hM13, hM14, hM15, hM16, hMk, hMn⟩ := hM
  refine xa_iload_n (pc := 0) dX10_noWay_0 rfl ?_
  refine xa_callS (pc := 1) (as := [xa_i w]) (rest := []) dX10_noWay_1 ⟨qX10_isWay.1, qX10_isWay.2.1, qX10_isWay.2.2, by decide, by decide⟩ lkRX10_156 smX10_isWay rfl rfl (Nat.le_of_ble_eq_true rfl) (Nat.zero_le _) (Nat.zero_le _) (c_mWay _ ⟨by omega, by omega⟩) (fun r h' hq => ?_)
  obtain ⟨rfl, hq⟩ := hq
  have hq := hq.symm
  subst hq
  refine xa_if_ne (pc := 4) (tgt := 9) dX10_noWay_4 (by decide) xa_okb (fun c_4 => ?_) (fun c_4 => ?_)
  · have c_4 := xa_b1.mp c_4
    refine xa_aload_n (pc := 9) dX10_noWay_9 rfl ?_
    refine xa_getfield (pc := 10) dX10_noWay_10 flRX10_34 (by omega) (by omega) hM0 rfl ?_
    refine xa_iload_n (pc := 13) dX10_noWay_13 rfl ?_
    refine xa_ialdw (pc := 14) w.toNat dX10_noWay_14 (by omega) hM9 (by omega) (by omega) rfl ?_
    refine xa_istoren (pc := 15) [some (xa_r k), some (xa_i w), some (xa_i ((F 9) w.toNat))] dX10_noWay_15 (by decide) (Nat.le_of_ble_eq_true rfl) rfl rfl ?_
    refine xa_aload_n (pc := 16) dX10_noWay_16 rfl ?_
    refine xa_getfield (pc := 17) dX10_noWay_17 flRX10_34 (by omega) (by omega) hM0 rfl ?_
    refine xa_iload_n (pc := 20) dX10_noWay_20 rfl ?_
    refine xa_iconst (pc := 21) dX10_noWay_21 ?_
    refine xa_iastw (pc := 22) w.toNat dX10_noWay_22 (by omega) (by omega) hM9 (by omega) (by omega) rfl (fun h1 nh1 ch1 oh1 => ?_)
    have hM9 : h1.1 (k + 9) = xa_a 12 (xa_upf (F 9) w.toNat 0) := ch1
    have hM0 : h1.1 k = xa_o 10 [xa_i (s 0), xa_r (k + 1), xa_r (k + 2), xa_r (k + 3), xa_r (k + 4), xa_r (k + 5), xa_r (k + 6), xa_r (k + 7), xa_r (k + 8), xa_r (k + 9), xa_r (k + 10), xa_r (k + 11), xa_r (k + 12), xa_i (s 13), xa_i (s 14), xa_i (s 15), xa_r (k + 13), xa_i (s 17), xa_i (s 18), xa_i (s 19), xa_i (s 20), xa_r (k + 14), xa_r (k + 15), xa_i (s 23), xa_r (k + 16)] := (oh1 _ (by omega)).trans hM0
    have hM1 : h1.1 (k + 1) = xa_a 120 (F 1) := (oh1 _ (by omega)).trans hM1
    have hM2 : h1.1 (k + 2) = xa_a 2 (F 2) := (oh1 _ (by omega)).trans hM2
    have hM3 : h1.1 (k + 3) = xa_a 18 (F 3) := (oh1 _ (by omega)).trans hM3
    have hM4 : h1.1 (k + 4) = xa_a 2 (F 4) := (oh1 _ (by omega)).trans hM4
    have hM5 : h1.1 (k + 5) = xa_a 4 (F 5) := (oh1 _ (by omega)).trans hM5
    have hM6 : h1.1 (k + 6) = xa_a 4 (F 6) := (oh1 _ (by omega)).trans hM6
    have hM7 : h1.1 (k + 7) = xa_a 2 (F 7) := (oh1 _ (by omega)).trans hM7
    have hM8 : h1.1 (k + 8) = xa_a 2 (F 8) := (oh1 _ (by omega)).trans hM8
    have hM10 : h1.1 (k + 10) = xa_a 720 (F 10) := (oh1 _ (by omega)).trans hM10
    have hM11 : h1.1 (k + 11) = xa_a 3 (F 11) := (oh1 _ (by omega)).trans hM11
    have hM12 : h1.1 (k + 12) = xa_a 360 (F 12) := (oh1 _ (by omega)).trans hM12
    have hM13 : h1.1 (k + 13) = xa_a 3 (F 13) := (oh1 _ (by omega)).trans hM13
    have hM14 : h1.1 (k + 14) = xa_a 583200 (F 14) := (oh1 _ (by omega)).trans hM14
    have hM15 : h1.1 (k + 15) = xa_a 583200 (F 15) := (oh1 _ (by omega)).trans hM15
    have hM16 : h1.1 (k + 16) = xa_a 4 (F 16) := (oh1 _ (by omega)).trans hM16
    have hn : h1.2 = h.2 := nh1.trans hn
    have fr : ∀ i, (i < k ∨ k + 17 ≤ i) → h1.1 i = h.1 i := fun i hi => (oh1 i (by omega)).trans (fr i hi)
    refine xa_iload_n (pc := 23) dX10_noWay_23 rfl ?_
    refine xa_ireturn (pc := 24) dX10_noWay_24 rfl trivial ?_
    exact Or.inr ⟨by omega, rfl, ⟨hM0, hM1, hM2, hM3, hM4, hM5, hM6, hM7, hM8, hM9, hM10, hM11, hM12, hM13, hM14, hM15, hM16, by omega, by omega⟩, hn, fr⟩
  · have c_4 := xa_b0.mp c_4
    refine xa_iconst (pc := 7) dX10_noWay_7 ?_
    refine xa_ireturn (pc := 8) dX10_noWay_8 rfl trivial ?_
    exact Or.inl ⟨by omega, rfl, rfl⟩
theorem c_mNoFilm {G : xa_G} {h : xa_H} (k : Nat) (F : Nat → Nat → Int) (s : Nat → Int) (hM : xM h k F s)  : xa_M G mX10_noFilm [xa_r k] h 0 0 (fun r h' => r = some (xa_i (F 11 0)) ∧ xM h' k (xa_uF F 11 (xa_upf (F 11) 0 0)) s ∧ h'.2 = h.2 ∧ ∀ i, (i < k ∨ k + 17 ≤ i) → h'.1 i = h.1 i) := by
  refine xa_enter (by decide +kernel) (Nat.le_of_ble_eq_true rfl) ?_
  refine xa_locals (ls' := [some (xa_r k), none]) rfl ?_
  have hn : h.2 = h.2 := rfl
  have fr : ∀ i, (i < k ∨ k + 17 ≤ i) → h.1 i = h.1 i := fun _ _ => rfl
  obtain ⟨hM0, hM1, hM2, hM3, hM4, hM5, hM6, hM7, hM8, hM9, hM10, hM11, hM12, hM13, hM14, hM15, hM16, hMk, hMn⟩ := hM
  refine xa_aload_n (pc := 0) dX10_noFilm_0 rfl ?_
  refine xa_getfield (pc := 1) dX10_noFilm_1 flRX10_40 (by omega) (by omega) hM0 rfl ?_
  refine xa_iconst (pc := 4) dX10_noFilm_4 ?_
  refine xa_ialdw (pc := 5) 0 dX10_noFilm_5 (by omega) hM11 (by omega) (by omega) rfl ?_
  refine xa_istoren (pc := 6) [some (xa_r k), some (xa_i ((F 11) 0))] dX10_noFilm_6 (by decide) (Nat.le_of_ble_eq_true rfl) rfl rfl ?_
  refine xa_aload_n (pc := 7) dX10_noFilm_7 rfl ?_
  refine xa_getfield (pc := 8) dX10_noFilm_8 flRX10_40 (by omega) (by omega) hM0 rfl ?_
  refine xa_iconst (pc := 11) dX10_noFilm_11 ?_
  refine xa_iconst (pc := 12) dX10_noFilm_12 ?_
  refine xa_iastw (pc := 13) 0 dX10_noFilm_13 (by omega) (by omega) hM11 (by omega) (by omega) rfl (fun h1 nh1 ch1 oh1 => ?_)
  have hM11 : h1.1 (k + 11) = xa_a 3 (xa_upf (F 11) 0 0) := ch1
  have hM0 : h1.1 k = xa_o 10 [xa_i (s 0), xa_r (k + 1), xa_r (k + 2), xa_r (k + 3), xa_r (k + 4), xa_r (k + 5), xa_r (k + 6), xa_r (k + 7), xa_r (k + 8), xa_r (k + 9), xa_r (k + 10), xa_r (k + 11), xa_r (k + 12), xa_i (s 13), xa_i (s 14), xa_i (s 15), xa_r (k + 13), xa_i (s 17), xa_i (s 18), xa_i (s 19), xa_i (s 20), xa_r (k + 14), xa_r (k + 15), xa_i (s 23), xa_r (k + 16)] := (oh1 _ (by omega)).trans hM0
  have hM1 : h1.1 (k + 1) = xa_a 120 (F 1) := (oh1 _ (by omega)).trans hM1
  have hM2 : h1.1 (k + 2) = xa_a 2 (F 2) := (oh1 _ (by omega)).trans hM2
  have hM3 : h1.1 (k + 3) = xa_a 18 (F 3) := (oh1 _ (by omega)).trans hM3
  have hM4 : h1.1 (k + 4) = xa_a 2 (F 4) := (oh1 _ (by omega)).trans hM4
  have hM5 : h1.1 (k + 5) = xa_a 4 (F 5) := (oh1 _ (by omega)).trans hM5
  have hM6 : h1.1 (k + 6) = xa_a 4 (F 6) := (oh1 _ (by omega)).trans hM6
  have hM7 : h1.1 (k + 7) = xa_a 2 (F 7) := (oh1 _ (by omega)).trans hM7
  have hM8 : h1.1 (k + 8) = xa_a 2 (F 8) := (oh1 _ (by omega)).trans hM8
  have hM9 : h1.1 (k + 9) = xa_a 12 (F 9) := (oh1 _ (by omega)).trans hM9
  have hM10 : h1.1 (k + 10) = xa_a 720 (F 10) := (oh1 _ (by omega)).trans hM10
  have hM12 : h1.1 (k + 12) = xa_a 360 (F 12) := (oh1 _ (by omega)).trans hM12
  have hM13 : h1.1 (k + 13) = xa_a 3 (F 13) := (oh1 _ (by omega)).trans hM13
  have hM14 : h1.1 (k + 14) = xa_a 583200 (F 14) := (oh1 _ (by omega)).trans hM14
  have hM15 : h1.1 (k + 15) = xa_a 583200 (F 15) := (oh1 _ (by omega)).trans hM15
  have hM16 : h1.1 (k + 16) = xa_a 4 (F 16) := (oh1 _ (by omega)).trans hM16
  have hn : h1.2 = h.2 := nh1.trans hn
  have fr : ∀ i, (i < k ∨ k + 17 ≤ i) → h1.1 i = h.1 i := fun i hi => (oh1 i (by omega)).trans (fr i hi)
  refine xa_iload_n (pc := 14) dX10_noFilm_14 rfl ?_
  refine xa_ireturn (pc := 15) dX10_noFilm_15 rfl trivial ?_
  exact ⟨rfl, ⟨hM0, hM1, hM2, hM3, hM4, hM5, hM6, hM7, hM8, hM9, hM10, hM11, hM12, hM13, hM14, hM15, hM16, by omega, by omega⟩, hn, fr⟩
def sm_count (F : Nat → Nat → Int) (s : Nat → Int) (q : Int) : Int := if q = 0 then F 2 0 else if q = 1 then s 0 else if q = 2 then F 9 0 + F 9 1 + F 9 2 + F 9 3 else if q = 3 then F 11 0 else if q = 4 then s 13 else -1
theorem c_mCount {G : xa_G} {h : xa_H} (k : Nat) (F : Nat → Nat → Int) (s : Nat → Int) (q : Int) (hq : xa_ok q) (hM : xM h k F s)  : xa_M G mX10_count [xa_r k, xa_i q] h 0 0 (fun r h' => r = some (xa_i (sm_count F s q)) ∧ h' = h) := by
  refine xa_enter (by decide +kernel) (Nat.le_of_ble_eq_true rfl) ?_
  refine xa_locals (ls' := [some (xa_r k), some (xa_i q)]) rfl ?_
  obtain ⟨hM0, hM1, hM2, hM3, hM4, hM5, hM6, hM7, hM8, hM9, hM10, hM11, hM12, hM13, hM14, hM15, hM16, hMk, hMn⟩ := hM
  refine xa_iload_n (pc := 0) dX10_count_0 rfl ?_
  by_cases w_1_0 : q = 0
  · refine xa_tableIn (pc := 1) (off := 35) (tgt := 36) dX10_count_1 ⟨by omega, by omega⟩ (by omega) (by omega) (by rw [w_1_0]; rfl) (by decide) ?_
    refine xa_aload_n (pc := 36) dX10_count_36 rfl ?_
    refine xa_getfield (pc := 37) dX10_count_37 flRX10_13 (by omega) (by omega) hM0 rfl ?_
    refine xa_iconst (pc := 40) dX10_count_40 ?_
    refine xa_ialdw (pc := 41) 0 dX10_count_41 (by omega) hM2 (by omega) (by omega) rfl ?_
    refine xa_ireturn (pc := 42) dX10_count_42 rfl trivial ?_
    exact ⟨congrArg (fun z => some (xa_i z)) (show (F 2) 0 = sm_count F s q by (unfold sm_count; first | (rw [if_pos (by omega)]; done) | (rw [if_neg (by omega), if_pos (by omega)]; done) | (rw [if_neg (by omega), if_neg (by omega), if_pos (by omega)]; done) | (rw [if_neg (by omega), if_neg (by omega), if_neg (by omega), if_pos (by omega)]; done) | (rw [if_neg (by omega), if_neg (by omega), if_neg (by omega), if_neg (by omega), if_pos (by omega)]; done) | (rw [if_neg (by omega), if_neg (by omega), if_neg (by omega), if_neg (by omega), if_neg (by omega)]; done))), rfl⟩
  by_cases w_1_1 : q = 1
  · refine xa_tableIn (pc := 1) (off := 42) (tgt := 43) dX10_count_1 ⟨by omega, by omega⟩ (by omega) (by omega) (by rw [w_1_1]; rfl) (by decide) ?_
    refine xa_aload_n (pc := 43) dX10_count_43 rfl ?_
    refine xa_getfield (pc := 44) dX10_count_44 flRX10_69 (by omega) (by omega) hM0 rfl ?_
    refine xa_ireturn (pc := 47) dX10_count_47 rfl trivial ?_
    exact ⟨congrArg (fun z => some (xa_i z)) (show s 0 = sm_count F s q by (unfold sm_count; first | (rw [if_pos (by omega)]; done) | (rw [if_neg (by omega), if_pos (by omega)]; done) | (rw [if_neg (by omega), if_neg (by omega), if_pos (by omega)]; done) | (rw [if_neg (by omega), if_neg (by omega), if_neg (by omega), if_pos (by omega)]; done) | (rw [if_neg (by omega), if_neg (by omega), if_neg (by omega), if_neg (by omega), if_pos (by omega)]; done) | (rw [if_neg (by omega), if_neg (by omega), if_neg (by omega), if_neg (by omega), if_neg (by omega)]; done))), rfl⟩
  by_cases w_1_2 : q = 2
  · refine xa_tableIn (pc := 1) (off := 47) (tgt := 48) dX10_count_1 ⟨by omega, by omega⟩ (by omega) (by omega) (by rw [w_1_2]; rfl) (by decide) ?_
    refine xa_aload_n (pc := 48) dX10_count_48 rfl ?_
    refine xa_getfield (pc := 49) dX10_count_49 flRX10_34 (by omega) (by omega) hM0 rfl ?_
    refine xa_iconst (pc := 52) dX10_count_52 ?_
    refine xa_ialdw (pc := 53) 0 dX10_count_53 (by omega) hM9 (by omega) (by omega) rfl ?_
    refine xa_aload_n (pc := 54) dX10_count_54 rfl ?_
    refine xa_getfield (pc := 55) dX10_count_55 flRX10_34 (by omega) (by omega) hM0 rfl ?_
    refine xa_iconst (pc := 58) dX10_count_58 ?_
    refine xa_ialdw (pc := 59) 1 dX10_count_59 (by omega) hM9 (by omega) (by omega) rfl ?_
    refine xa_iadd (pc := 60) dX10_count_60 ?_
    refine xa_aload_n (pc := 61) dX10_count_61 rfl ?_
    refine xa_getfield (pc := 62) dX10_count_62 flRX10_34 (by omega) (by omega) hM0 rfl ?_
    refine xa_iconst (pc := 65) dX10_count_65 ?_
    refine xa_ialdw (pc := 66) 2 dX10_count_66 (by omega) hM9 (by omega) (by omega) rfl ?_
    refine xa_iadd (pc := 67) dX10_count_67 ?_
    refine xa_aload_n (pc := 68) dX10_count_68 rfl ?_
    refine xa_getfield (pc := 69) dX10_count_69 flRX10_34 (by omega) (by omega) hM0 rfl ?_
    refine xa_iconst (pc := 72) dX10_count_72 ?_
    refine xa_ialdw (pc := 73) 3 dX10_count_73 (by omega) hM9 (by omega) (by omega) rfl ?_
    refine xa_iadd (pc := 74) dX10_count_74 ?_
    refine xa_ireturn (pc := 75) dX10_count_75 rfl trivial ?_
    exact ⟨congrArg (fun z => some (xa_i z)) (show ((((F 9) 0) + ((F 9) 1)) + ((F 9) 2)) + ((F 9) 3) = sm_count F s q by (unfold sm_count; first | (rw [if_pos (by omega)]; done) | (rw [if_neg (by omega), if_pos (by omega)]; done) | (rw [if_neg (by omega), if_neg (by omega), if_pos (by omega)]; done) | (rw [if_neg (by omega), if_neg (by omega), if_neg (by omega), if_pos (by omega)]; done) | (rw [if_neg (by omega), if_neg (by omega), if_neg (by omega), if_neg (by omega), if_pos (by omega)]; done) | (rw [if_neg (by omega), if_neg (by omega), if_neg (by omega), if_neg (by omega), if_neg (by omega)]; done))), rfl⟩
  by_cases w_1_3 : q = 3
  · refine xa_tableIn (pc := 1) (off := 75) (tgt := 76) dX10_count_1 ⟨by omega, by omega⟩ (by omega) (by omega) (by rw [w_1_3]; rfl) (by decide) ?_
    refine xa_aload_n (pc := 76) dX10_count_76 rfl ?_
    refine xa_getfield (pc := 77) dX10_count_77 flRX10_40 (by omega) (by omega) hM0 rfl ?_
    refine xa_iconst (pc := 80) dX10_count_80 ?_
    refine xa_ialdw (pc := 81) 0 dX10_count_81 (by omega) hM11 (by omega) (by omega) rfl ?_
    refine xa_ireturn (pc := 82) dX10_count_82 rfl trivial ?_
    exact ⟨congrArg (fun z => some (xa_i z)) (show (F 11) 0 = sm_count F s q by (unfold sm_count; first | (rw [if_pos (by omega)]; done) | (rw [if_neg (by omega), if_pos (by omega)]; done) | (rw [if_neg (by omega), if_neg (by omega), if_pos (by omega)]; done) | (rw [if_neg (by omega), if_neg (by omega), if_neg (by omega), if_pos (by omega)]; done) | (rw [if_neg (by omega), if_neg (by omega), if_neg (by omega), if_neg (by omega), if_pos (by omega)]; done) | (rw [if_neg (by omega), if_neg (by omega), if_neg (by omega), if_neg (by omega), if_neg (by omega)]; done))), rfl⟩
  by_cases w_1_4 : q = 4
  · refine xa_tableIn (pc := 1) (off := 82) (tgt := 83) dX10_count_1 ⟨by omega, by omega⟩ (by omega) (by omega) (by rw [w_1_4]; rfl) (by decide) ?_
    refine xa_aload_n (pc := 83) dX10_count_83 rfl ?_
    refine xa_getfield (pc := 84) dX10_count_84 flRX10_112 (by omega) (by omega) hM0 rfl ?_
    refine xa_ireturn (pc := 87) dX10_count_87 rfl trivial ?_
    exact ⟨congrArg (fun z => some (xa_i z)) (show s 13 = sm_count F s q by (unfold sm_count; first | (rw [if_pos (by omega)]; done) | (rw [if_neg (by omega), if_pos (by omega)]; done) | (rw [if_neg (by omega), if_neg (by omega), if_pos (by omega)]; done) | (rw [if_neg (by omega), if_neg (by omega), if_neg (by omega), if_pos (by omega)]; done) | (rw [if_neg (by omega), if_neg (by omega), if_neg (by omega), if_neg (by omega), if_pos (by omega)]; done) | (rw [if_neg (by omega), if_neg (by omega), if_neg (by omega), if_neg (by omega), if_neg (by omega)]; done))), rfl⟩
  refine xa_tableOut (pc := 1) (tgt := 88) dX10_count_1 ⟨by omega, by omega⟩ (by omega) (by decide) ?_
  refine xa_iconst (pc := 88) dX10_count_88 ?_
  refine xa_ireturn (pc := 89) dX10_count_89 rfl trivial ?_
  exact ⟨congrArg (fun z => some (xa_i z)) (show (-1) = sm_count F s q by (unfold sm_count; first | (rw [if_pos (by omega)]; done) | (rw [if_neg (by omega), if_pos (by omega)]; done) | (rw [if_neg (by omega), if_neg (by omega), if_pos (by omega)]; done) | (rw [if_neg (by omega), if_neg (by omega), if_neg (by omega), if_pos (by omega)]; done) | (rw [if_neg (by omega), if_neg (by omega), if_neg (by omega), if_neg (by omega), if_pos (by omega)]; done) | (rw [if_neg (by omega), if_neg (by omega), if_neg (by omega), if_neg (by omega), if_neg (by omega)]; done))), rfl⟩
theorem c_mPicture {G : xa_G} {h : xa_H} (k : Nat) (F : Nat → Nat → Int) (s : Nat → Int) (a b c d : Int) (ha : xa_ok a) (hb : xa_ok b) (hc : xa_ok c) (hd : xa_ok d) (hv : xMv F) (hpq : ∀ i, 0 ≤ F 11 i ∧ F 11 i ≤ 30) (hM : xM h k F s)  : xa_M G mX10_picture [xa_r k, xa_i a, xa_i b, xa_i c, xa_i d] h 0 0 (fun r h' => (¬ ((0 ≤ a ∧ a ≤ 60) ∧ (0 ≤ b ∧ b ≤ F 2 0 - 1) ∧ (0 ≤ c ∧ c ≤ 359) ∧ 0 ≤ d ∧ d ≤ 90) ∧ r = some (xa_i (-1)) ∧ h' = h) ∨ (((0 ≤ a ∧ a ≤ 60) ∧ (0 ≤ b ∧ b ≤ F 2 0 - 1) ∧ (0 ≤ c ∧ c ≤ 359) ∧ 0 ≤ d ∧ d ≤ 90) ∧ F 11 0 = 30 ∧ r = some (xa_i (-3)) ∧ h' = h) ∨ (((0 ≤ a ∧ a ≤ 60) ∧ (0 ≤ b ∧ b ≤ F 2 0 - 1) ∧ (0 ≤ c ∧ c ≤ 359) ∧ 0 ≤ d ∧ d ≤ 90) ∧ F 11 0 ≠ 30 ∧ r = some (xa_i (F 11 0 + 1)) ∧ xM h' k (xa_uF (xa_uF F 12 (xa_upf (xa_upf (xa_upf (xa_upf (F 12) (4 * F 11 0).toNat a) (4 * F 11 0 + 1).toNat b) (4 * F 11 0 + 2).toNat c) (4 * F 11 0 + 3).toNat d)) 11 (xa_upf (F 11) 0 (F 11 0 + 1))) s ∧ h'.2 = h.2 ∧ ∀ i, (i < k ∨ k + 17 ≤ i) → h'.1 i = h.1 i)) := by
  refine xa_enter (by decide +kernel) (Nat.le_of_ble_eq_true rfl) ?_
  refine xa_locals (ls' := [some (xa_r k), some (xa_i a), some (xa_i b), some (xa_i c), some (xa_i d), none]) rfl ?_
  have hn : h.2 = h.2 := rfl
  have fr : ∀ i, (i < k ∨ k + 17 ≤ i) → h.1 i = h.1 i := fun _ _ => rfl
  obtain ⟨hM0, hM1, hM2, hM3, hM4, hM5, hM6, hM7, hM8, hM9, hM10, hM11, hM12, hM13, hM14, hM15, hM16, hMk, hMn⟩ := hM
  obtain ⟨v1, v2, v3, v4, v5⟩ := id hv
  refine xa_iload_n (pc := 0) dX10_picture_0 rfl ?_
  refine xa_i2l (pc := 1) dX10_picture_1 ⟨by omega, by omega⟩ ?_
  refine xa_lconst (pc := 2) (n := 0) dX10_picture_2 rfl ?_
  refine xa_ldc2 (pc := 3) (n := 60) dX10_picture_3 ctRX10_185 rfl ?_
  refine xa_callS (pc := 6) (as := [xa_l a, xa_l 0, xa_l 60]) (rest := []) dX10_picture_6 ⟨qX10_in.1, qX10_in.2.1, qX10_in.2.2, by decide, by decide⟩ lkRX10_65 smX10_in rfl rfl (Nat.le_of_ble_eq_true rfl) (Nat.zero_le _) (Nat.zero_le _) (c_in _ _ _ ⟨by omega, by omega⟩ ⟨by omega, by omega⟩ ⟨by omega, by omega⟩) (fun r h' hq => ?_)
  obtain ⟨rfl, hq⟩ := hq
  have hq := hq.symm
  subst hq
  refine xa_if_eq (pc := 9) (tgt := 40) dX10_picture_9 (by decide) xa_okb (fun c_9 => ?_) (fun c_9 => ?_)
  · have c_9 := xa_b0.mp c_9
    refine xa_iconst (pc := 40) dX10_picture_40 ?_
    refine xa_ireturn (pc := 41) dX10_picture_41 rfl trivial ?_
    exact Or.inl ⟨by omega, rfl, rfl⟩
  · have c_9 := xa_b1.mp c_9
    refine xa_aload_n (pc := 12) dX10_picture_12 rfl ?_
    refine xa_iload_n (pc := 13) dX10_picture_13 rfl ?_
    refine xa_callV (pc := 14) (as := [xa_i b]) (rest := []) dX10_picture_14 ⟨qX10_isPart.1, qX10_isPart.2.1, qX10_isPart.2.2, by decide, by decide⟩ lkRX10_115 imX10_isPart seX10_isPart rfl rfl (by omega) (by omega) hM0 rfl (Nat.le_of_ble_eq_true rfl) (Nat.zero_le _) (Nat.zero_le _) (c_mPart _ _ _ _ ⟨by omega, by omega⟩ ⟨hM0, hM1, hM2, hM3, hM4, hM5, hM6, hM7, hM8, hM9, hM10, hM11, hM12, hM13, hM14, hM15, hM16, by omega, by omega⟩ hv) (fun r h' hq => ?_)
    obtain ⟨rfl, hq⟩ := hq
    have hq := hq.symm
    subst hq
    refine xa_if_eq (pc := 17) (tgt := 40) dX10_picture_17 (by decide) xa_okb (fun c_17 => ?_) (fun c_17 => ?_)
    · have c_17 := xa_b0.mp c_17
      refine xa_iconst (pc := 40) dX10_picture_40 ?_
      refine xa_ireturn (pc := 41) dX10_picture_41 rfl trivial ?_
      exact Or.inl ⟨by omega, rfl, rfl⟩
    · have c_17 := xa_b1.mp c_17
      refine xa_iload_n (pc := 20) dX10_picture_20 rfl ?_
      refine xa_callS (pc := 21) (as := [xa_i c]) (rest := []) dX10_picture_21 ⟨qX10_isTurn.1, qX10_isTurn.2.1, qX10_isTurn.2.2, by decide, by decide⟩ lkRX10_182 smX10_isTurn rfl rfl (Nat.le_of_ble_eq_true rfl) (Nat.zero_le _) (Nat.zero_le _) (c_mTurn _ ⟨by omega, by omega⟩) (fun r h' hq => ?_)
      obtain ⟨rfl, hq⟩ := hq
      have hq := hq.symm
      subst hq
      refine xa_if_eq (pc := 24) (tgt := 40) dX10_picture_24 (by decide) xa_okb (fun c_24 => ?_) (fun c_24 => ?_)
      · have c_24 := xa_b0.mp c_24
        refine xa_iconst (pc := 40) dX10_picture_40 ?_
        refine xa_ireturn (pc := 41) dX10_picture_41 rfl trivial ?_
        exact Or.inl ⟨by omega, rfl, rfl⟩
      · have c_24 := xa_b1.mp c_24
        refine xa_iload (pc := 27) dX10_picture_27 rfl ?_
        refine xa_i2l (pc := 29) dX10_picture_29 ⟨by omega, by omega⟩ ?_
        refine xa_lconst (pc := 30) (n := 0) dX10_picture_30 rfl ?_
        refine xa_ldc2 (pc := 31) (n := 90) dX10_picture_31 ctRX10_103 rfl ?_
        refine xa_callS (pc := 34) (as := [xa_l d, xa_l 0, xa_l 90]) (rest := []) dX10_picture_34 ⟨qX10_in.1, qX10_in.2.1, qX10_in.2.2, by decide, by decide⟩ lkRX10_65 smX10_in rfl rfl (Nat.le_of_ble_eq_true rfl) (Nat.zero_le _) (Nat.zero_le _) (c_in _ _ _ ⟨by omega, by omega⟩ ⟨by omega, by omega⟩ ⟨by omega, by omega⟩) (fun r h' hq => ?_)
        obtain ⟨rfl, hq⟩ := hq
        have hq := hq.symm
        subst hq
        refine xa_if_ne (pc := 37) (tgt := 42) dX10_picture_37 (by decide) xa_okb (fun c_37 => ?_) (fun c_37 => ?_)
        · have c_37 := xa_b1.mp c_37
          refine xa_aload_n (pc := 42) dX10_picture_42 rfl ?_
          refine xa_getfield (pc := 43) dX10_picture_43 flRX10_40 (by omega) (by omega) hM0 rfl ?_
          refine xa_iconst (pc := 46) dX10_picture_46 ?_
          refine xa_ialdw (pc := 47) 0 dX10_picture_47 (by omega) hM11 (by omega) (by omega) rfl ?_
          have b_47 := hpq (0)
          refine xa_bipush (pc := 48) dX10_picture_48 rfl ?_
          refine xa_icmp_ne (pc := 50) (tgt := 56) dX10_picture_50 (by decide) ⟨by omega, by omega⟩ (by decide) (fun c_50 => ?_) (fun c_50 => ?_)
          · skip
            refine xa_iconst (pc := 56) dX10_picture_56 ?_
            refine xa_aload_n (pc := 57) dX10_picture_57 rfl ?_
            refine xa_getfield (pc := 58) dX10_picture_58 flRX10_40 (by omega) (by omega) hM0 rfl ?_
            refine xa_iconst (pc := 61) dX10_picture_61 ?_
            refine xa_ialdw (pc := 62) 0 dX10_picture_62 (by omega) hM11 (by omega) (by omega) rfl ?_
            have b_62 := hpq (0)
            refine xa_imul (pc := 63) dX10_picture_63 ?_
            refine xa_istorew (pc := 64) [some (xa_r k), some (xa_i a), some (xa_i b), some (xa_i c), some (xa_i d), some (xa_i (4 * ((F 11) 0)))] dX10_picture_64 (by decide) (Nat.le_of_ble_eq_true rfl) rfl rfl ?_
            refine xa_aload_n (pc := 66) dX10_picture_66 rfl ?_
            refine xa_getfield (pc := 67) dX10_picture_67 flRX10_43 (by omega) (by omega) hM0 rfl ?_
            refine xa_iload (pc := 70) dX10_picture_70 rfl ?_
            refine xa_iload_n (pc := 72) dX10_picture_72 rfl ?_
            refine xa_iastw (pc := 73) ((4 * ((F 11) 0)).toNat) dX10_picture_73 (by omega) (by omega) hM12 (by omega) (by omega) rfl (fun h1 nh1 ch1 oh1 => ?_)
            have hM12 : h1.1 (k + 12) = xa_a 360 (xa_upf (F 12) ((4 * ((F 11) 0)).toNat) a) := ch1
            have hM0 : h1.1 k = xa_o 10 [xa_i (s 0), xa_r (k + 1), xa_r (k + 2), xa_r (k + 3), xa_r (k + 4), xa_r (k + 5), xa_r (k + 6), xa_r (k + 7), xa_r (k + 8), xa_r (k + 9), xa_r (k + 10), xa_r (k + 11), xa_r (k + 12), xa_i (s 13), xa_i (s 14), xa_i (s 15), xa_r (k + 13), xa_i (s 17), xa_i (s 18), xa_i (s 19), xa_i (s 20), xa_r (k + 14), xa_r (k + 15), xa_i (s 23), xa_r (k + 16)] := (oh1 _ (by omega)).trans hM0
            have hM1 : h1.1 (k + 1) = xa_a 120 (F 1) := (oh1 _ (by omega)).trans hM1
            have hM2 : h1.1 (k + 2) = xa_a 2 (F 2) := (oh1 _ (by omega)).trans hM2
            have hM3 : h1.1 (k + 3) = xa_a 18 (F 3) := (oh1 _ (by omega)).trans hM3
            have hM4 : h1.1 (k + 4) = xa_a 2 (F 4) := (oh1 _ (by omega)).trans hM4
            have hM5 : h1.1 (k + 5) = xa_a 4 (F 5) := (oh1 _ (by omega)).trans hM5
            have hM6 : h1.1 (k + 6) = xa_a 4 (F 6) := (oh1 _ (by omega)).trans hM6
            have hM7 : h1.1 (k + 7) = xa_a 2 (F 7) := (oh1 _ (by omega)).trans hM7
            have hM8 : h1.1 (k + 8) = xa_a 2 (F 8) := (oh1 _ (by omega)).trans hM8
            have hM9 : h1.1 (k + 9) = xa_a 12 (F 9) := (oh1 _ (by omega)).trans hM9
            have hM10 : h1.1 (k + 10) = xa_a 720 (F 10) := (oh1 _ (by omega)).trans hM10
            have hM11 : h1.1 (k + 11) = xa_a 3 (F 11) := (oh1 _ (by omega)).trans hM11
            have hM13 : h1.1 (k + 13) = xa_a 3 (F 13) := (oh1 _ (by omega)).trans hM13
            have hM14 : h1.1 (k + 14) = xa_a 583200 (F 14) := (oh1 _ (by omega)).trans hM14
            have hM15 : h1.1 (k + 15) = xa_a 583200 (F 15) := (oh1 _ (by omega)).trans hM15
            have hM16 : h1.1 (k + 16) = xa_a 4 (F 16) := (oh1 _ (by omega)).trans hM16
            have hn : h1.2 = h.2 := nh1.trans hn
            have fr : ∀ i, (i < k ∨ k + 17 ≤ i) → h1.1 i = h.1 i := fun i hi => (oh1 i (by omega)).trans (fr i hi)
            refine xa_aload_n (pc := 74) dX10_picture_74 rfl ?_
            refine xa_getfield (pc := 75) dX10_picture_75 flRX10_43 (by omega) (by omega) hM0 rfl ?_
            refine xa_iload (pc := 78) dX10_picture_78 rfl ?_
            refine xa_iconst (pc := 80) dX10_picture_80 ?_
            refine xa_iadd (pc := 81) dX10_picture_81 ?_
            refine xa_iload_n (pc := 82) dX10_picture_82 rfl ?_
            refine xa_iastw (pc := 83) (((4 * ((F 11) 0)) + 1).toNat) dX10_picture_83 (by omega) (by omega) hM12 (by omega) (by omega) rfl (fun h2 nh2 ch2 oh2 => ?_)
            have hM12 : h2.1 (k + 12) = xa_a 360 (xa_upf (xa_upf (F 12) ((4 * ((F 11) 0)).toNat) a) (((4 * ((F 11) 0)) + 1).toNat) b) := ch2
            have hM0 : h2.1 k = xa_o 10 [xa_i (s 0), xa_r (k + 1), xa_r (k + 2), xa_r (k + 3), xa_r (k + 4), xa_r (k + 5), xa_r (k + 6), xa_r (k + 7), xa_r (k + 8), xa_r (k + 9), xa_r (k + 10), xa_r (k + 11), xa_r (k + 12), xa_i (s 13), xa_i (s 14), xa_i (s 15), xa_r (k + 13), xa_i (s 17), xa_i (s 18), xa_i (s 19), xa_i (s 20), xa_r (k + 14), xa_r (k + 15), xa_i (s 23), xa_r (k + 16)] := (oh2 _ (by omega)).trans hM0
            have hM1 : h2.1 (k + 1) = xa_a 120 (F 1) := (oh2 _ (by omega)).trans hM1
            have hM2 : h2.1 (k + 2) = xa_a 2 (F 2) := (oh2 _ (by omega)).trans hM2
            have hM3 : h2.1 (k + 3) = xa_a 18 (F 3) := (oh2 _ (by omega)).trans hM3
            have hM4 : h2.1 (k + 4) = xa_a 2 (F 4) := (oh2 _ (by omega)).trans hM4
            have hM5 : h2.1 (k + 5) = xa_a 4 (F 5) := (oh2 _ (by omega)).trans hM5
            have hM6 : h2.1 (k + 6) = xa_a 4 (F 6) := (oh2 _ (by omega)).trans hM6
            have hM7 : h2.1 (k + 7) = xa_a 2 (F 7) := (oh2 _ (by omega)).trans hM7
            have hM8 : h2.1 (k + 8) = xa_a 2 (F 8) := (oh2 _ (by omega)).trans hM8
            have hM9 : h2.1 (k + 9) = xa_a 12 (F 9) := (oh2 _ (by omega)).trans hM9
            have hM10 : h2.1 (k + 10) = xa_a 720 (F 10) := (oh2 _ (by omega)).trans hM10
            have hM11 : h2.1 (k + 11) = xa_a 3 (F 11) := (oh2 _ (by omega)).trans hM11
            have hM13 : h2.1 (k + 13) = xa_a 3 (F 13) := (oh2 _ (by omega)).trans hM13
            have hM14 : h2.1 (k + 14) = xa_a 583200 (F 14) := (oh2 _ (by omega)).trans hM14
            have hM15 : h2.1 (k + 15) = xa_a 583200 (F 15) := (oh2 _ (by omega)).trans hM15
            have hM16 : h2.1 (k + 16) = xa_a 4 (F 16) := (oh2 _ (by omega)).trans hM16
            have hn : h2.2 = h.2 := nh2.trans hn
            have fr : ∀ i, (i < k ∨ k + 17 ≤ i) → h2.1 i = h.1 i := fun i hi => (oh2 i (by omega)).trans (fr i hi)
            refine xa_aload_n (pc := 84) dX10_picture_84 rfl ?_
            refine xa_getfield (pc := 85) dX10_picture_85 flRX10_43 (by omega) (by omega) hM0 rfl ?_
            refine xa_iload (pc := 88) dX10_picture_88 rfl ?_
            refine xa_iconst (pc := 90) dX10_picture_90 ?_
            refine xa_iadd (pc := 91) dX10_picture_91 ?_
            refine xa_iload_n (pc := 92) dX10_picture_92 rfl ?_
            refine xa_iastw (pc := 93) (((4 * ((F 11) 0)) + 2).toNat) dX10_picture_93 (by omega) (by omega) hM12 (by omega) (by omega) rfl (fun h3 nh3 ch3 oh3 => ?_)
            have hM12 : h3.1 (k + 12) = xa_a 360 (xa_upf (xa_upf (xa_upf (F 12) ((4 * ((F 11) 0)).toNat) a) (((4 * ((F 11) 0)) + 1).toNat) b) (((4 * ((F 11) 0)) + 2).toNat) c) := ch3
            have hM0 : h3.1 k = xa_o 10 [xa_i (s 0), xa_r (k + 1), xa_r (k + 2), xa_r (k + 3), xa_r (k + 4), xa_r (k + 5), xa_r (k + 6), xa_r (k + 7), xa_r (k + 8), xa_r (k + 9), xa_r (k + 10), xa_r (k + 11), xa_r (k + 12), xa_i (s 13), xa_i (s 14), xa_i (s 15), xa_r (k + 13), xa_i (s 17), xa_i (s 18), xa_i (s 19), xa_i (s 20), xa_r (k + 14), xa_r (k + 15), xa_i (s 23), xa_r (k + 16)] := (oh3 _ (by omega)).trans hM0
            have hM1 : h3.1 (k + 1) = xa_a 120 (F 1) := (oh3 _ (by omega)).trans hM1
            have hM2 : h3.1 (k + 2) = xa_a 2 (F 2) := (oh3 _ (by omega)).trans hM2
            have hM3 : h3.1 (k + 3) = xa_a 18 (F 3) := (oh3 _ (by omega)).trans hM3
            have hM4 : h3.1 (k + 4) = xa_a 2 (F 4) := (oh3 _ (by omega)).trans hM4
            have hM5 : h3.1 (k + 5) = xa_a 4 (F 5) := (oh3 _ (by omega)).trans hM5
            have hM6 : h3.1 (k + 6) = xa_a 4 (F 6) := (oh3 _ (by omega)).trans hM6
            have hM7 : h3.1 (k + 7) = xa_a 2 (F 7) := (oh3 _ (by omega)).trans hM7
            have hM8 : h3.1 (k + 8) = xa_a 2 (F 8) := (oh3 _ (by omega)).trans hM8
            have hM9 : h3.1 (k + 9) = xa_a 12 (F 9) := (oh3 _ (by omega)).trans hM9
            have hM10 : h3.1 (k + 10) = xa_a 720 (F 10) := (oh3 _ (by omega)).trans hM10
            have hM11 : h3.1 (k + 11) = xa_a 3 (F 11) := (oh3 _ (by omega)).trans hM11
            have hM13 : h3.1 (k + 13) = xa_a 3 (F 13) := (oh3 _ (by omega)).trans hM13
            have hM14 : h3.1 (k + 14) = xa_a 583200 (F 14) := (oh3 _ (by omega)).trans hM14
            have hM15 : h3.1 (k + 15) = xa_a 583200 (F 15) := (oh3 _ (by omega)).trans hM15
            have hM16 : h3.1 (k + 16) = xa_a 4 (F 16) := (oh3 _ (by omega)).trans hM16
            have hn : h3.2 = h.2 := nh3.trans hn
            have fr : ∀ i, (i < k ∨ k + 17 ≤ i) → h3.1 i = h.1 i := fun i hi => (oh3 i (by omega)).trans (fr i hi)
            refine xa_aload_n (pc := 94) dX10_picture_94 rfl ?_
            refine xa_getfield (pc := 95) dX10_picture_95 flRX10_43 (by omega) (by omega) hM0 rfl ?_
            refine xa_iload (pc := 98) dX10_picture_98 rfl ?_
            refine xa_iconst (pc := 100) dX10_picture_100 ?_
            refine xa_iadd (pc := 101) dX10_picture_101 ?_
            refine xa_iload (pc := 102) dX10_picture_102 rfl ?_
            refine xa_iastw (pc := 104) (((4 * ((F 11) 0)) + 3).toNat) dX10_picture_104 (by omega) (by omega) hM12 (by omega) (by omega) rfl (fun h4 nh4 ch4 oh4 => ?_)
            have hM12 : h4.1 (k + 12) = xa_a 360 (xa_upf (xa_upf (xa_upf (xa_upf (F 12) ((4 * ((F 11) 0)).toNat) a) (((4 * ((F 11) 0)) + 1).toNat) b) (((4 * ((F 11) 0)) + 2).toNat) c) (((4 * ((F 11) 0)) + 3).toNat) d) := ch4
            have hM0 : h4.1 k = xa_o 10 [xa_i (s 0), xa_r (k + 1), xa_r (k + 2), xa_r (k + 3), xa_r (k + 4), xa_r (k + 5), xa_r (k + 6), xa_r (k + 7), xa_r (k + 8), xa_r (k + 9), xa_r (k + 10), xa_r (k + 11), xa_r (k + 12), xa_i (s 13), xa_i (s 14), xa_i (s 15), xa_r (k + 13), xa_i (s 17), xa_i (s 18), xa_i (s 19), xa_i (s 20), xa_r (k + 14), xa_r (k + 15), xa_i (s 23), xa_r (k + 16)] := (oh4 _ (by omega)).trans hM0
            have hM1 : h4.1 (k + 1) = xa_a 120 (F 1) := (oh4 _ (by omega)).trans hM1
            have hM2 : h4.1 (k + 2) = xa_a 2 (F 2) := (oh4 _ (by omega)).trans hM2
            have hM3 : h4.1 (k + 3) = xa_a 18 (F 3) := (oh4 _ (by omega)).trans hM3
            have hM4 : h4.1 (k + 4) = xa_a 2 (F 4) := (oh4 _ (by omega)).trans hM4
            have hM5 : h4.1 (k + 5) = xa_a 4 (F 5) := (oh4 _ (by omega)).trans hM5
            have hM6 : h4.1 (k + 6) = xa_a 4 (F 6) := (oh4 _ (by omega)).trans hM6
            have hM7 : h4.1 (k + 7) = xa_a 2 (F 7) := (oh4 _ (by omega)).trans hM7
            have hM8 : h4.1 (k + 8) = xa_a 2 (F 8) := (oh4 _ (by omega)).trans hM8
            have hM9 : h4.1 (k + 9) = xa_a 12 (F 9) := (oh4 _ (by omega)).trans hM9
            have hM10 : h4.1 (k + 10) = xa_a 720 (F 10) := (oh4 _ (by omega)).trans hM10
            have hM11 : h4.1 (k + 11) = xa_a 3 (F 11) := (oh4 _ (by omega)).trans hM11
            have hM13 : h4.1 (k + 13) = xa_a 3 (F 13) := (oh4 _ (by omega)).trans hM13
            have hM14 : h4.1 (k + 14) = xa_a 583200 (F 14) := (oh4 _ (by omega)).trans hM14
            have hM15 : h4.1 (k + 15) = xa_a 583200 (F 15) := (oh4 _ (by omega)).trans hM15
            have hM16 : h4.1 (k + 16) = xa_a 4 (F 16) := (oh4 _ (by omega)).trans hM16
            have hn : h4.2 = h.2 := nh4.trans hn
            have fr : ∀ i, (i < k ∨ k + 17 ≤ i) → h4.1 i = h.1 i := fun i hi => (oh4 i (by omega)).trans (fr i hi)
            refine xa_aload_n (pc := 105) dX10_picture_105 rfl ?_
            refine xa_getfield (pc := 106) dX10_picture_106 flRX10_40 (by omega) (by omega) hM0 rfl ?_
            refine xa_iconst (pc := 109) dX10_picture_109 ?_
            refine xa_dup2 (pc := 110) dX10_picture_110 rfl rfl ?_
            refine xa_ialdw (pc := 111) 0 dX10_picture_111 (by omega) hM11 (by omega) (by omega) rfl ?_
            have b_111 := hpq (0)
            refine xa_iconst (pc := 112) dX10_picture_112 ?_
            refine xa_iadd (pc := 113) dX10_picture_113 ?_
            refine xa_iastw (pc := 114) 0 dX10_picture_114 (by omega) (by omega) hM11 (by omega) (by omega) rfl (fun h5 nh5 ch5 oh5 => ?_)
            have hM11 : h5.1 (k + 11) = xa_a 3 (xa_upf (F 11) 0 (((F 11) 0) + 1)) := ch5
            have hM0 : h5.1 k = xa_o 10 [xa_i (s 0), xa_r (k + 1), xa_r (k + 2), xa_r (k + 3), xa_r (k + 4), xa_r (k + 5), xa_r (k + 6), xa_r (k + 7), xa_r (k + 8), xa_r (k + 9), xa_r (k + 10), xa_r (k + 11), xa_r (k + 12), xa_i (s 13), xa_i (s 14), xa_i (s 15), xa_r (k + 13), xa_i (s 17), xa_i (s 18), xa_i (s 19), xa_i (s 20), xa_r (k + 14), xa_r (k + 15), xa_i (s 23), xa_r (k + 16)] := (oh5 _ (by omega)).trans hM0
            have hM1 : h5.1 (k + 1) = xa_a 120 (F 1) := (oh5 _ (by omega)).trans hM1
            have hM2 : h5.1 (k + 2) = xa_a 2 (F 2) := (oh5 _ (by omega)).trans hM2
            have hM3 : h5.1 (k + 3) = xa_a 18 (F 3) := (oh5 _ (by omega)).trans hM3
            have hM4 : h5.1 (k + 4) = xa_a 2 (F 4) := (oh5 _ (by omega)).trans hM4
            have hM5 : h5.1 (k + 5) = xa_a 4 (F 5) := (oh5 _ (by omega)).trans hM5
            have hM6 : h5.1 (k + 6) = xa_a 4 (F 6) := (oh5 _ (by omega)).trans hM6
            have hM7 : h5.1 (k + 7) = xa_a 2 (F 7) := (oh5 _ (by omega)).trans hM7
            have hM8 : h5.1 (k + 8) = xa_a 2 (F 8) := (oh5 _ (by omega)).trans hM8
            have hM9 : h5.1 (k + 9) = xa_a 12 (F 9) := (oh5 _ (by omega)).trans hM9
            have hM10 : h5.1 (k + 10) = xa_a 720 (F 10) := (oh5 _ (by omega)).trans hM10
            have hM12 : h5.1 (k + 12) = xa_a 360 (xa_upf (xa_upf (xa_upf (xa_upf (F 12) ((4 * ((F 11) 0)).toNat) a) (((4 * ((F 11) 0)) + 1).toNat) b) (((4 * ((F 11) 0)) + 2).toNat) c) (((4 * ((F 11) 0)) + 3).toNat) d) := (oh5 _ (by omega)).trans hM12
            have hM13 : h5.1 (k + 13) = xa_a 3 (F 13) := (oh5 _ (by omega)).trans hM13
            have hM14 : h5.1 (k + 14) = xa_a 583200 (F 14) := (oh5 _ (by omega)).trans hM14
            have hM15 : h5.1 (k + 15) = xa_a 583200 (F 15) := (oh5 _ (by omega)).trans hM15
            have hM16 : h5.1 (k + 16) = xa_a 4 (F 16) := (oh5 _ (by omega)).trans hM16
            have hn : h5.2 = h.2 := nh5.trans hn
            have fr : ∀ i, (i < k ∨ k + 17 ≤ i) → h5.1 i = h.1 i := fun i hi => (oh5 i (by omega)).trans (fr i hi)
            refine xa_aload_n (pc := 115) dX10_picture_115 rfl ?_
            refine xa_getfield (pc := 116) dX10_picture_116 flRX10_40 (by omega) (by omega) hM0 rfl ?_
            refine xa_iconst (pc := 119) dX10_picture_119 ?_
            refine xa_ialdw (pc := 120) 0 dX10_picture_120 (by omega) hM11 (by omega) (by omega) rfl ?_
            refine xa_ireturn (pc := 121) dX10_picture_121 rfl trivial ?_
            exact Or.inr (Or.inr ⟨by omega, by omega, congrArg (fun z => some (xa_i z)) (xa_upf_at _ _ _), ⟨hM0, hM1, hM2, hM3, hM4, hM5, hM6, hM7, hM8, hM9, hM10, hM11, hM12, hM13, hM14, hM15, hM16, by omega, by omega⟩, hn, fr⟩)
          · skip
            refine xa_bipush (pc := 53) dX10_picture_53 rfl ?_
            refine xa_ireturn (pc := 55) dX10_picture_55 rfl trivial ?_
            exact Or.inr (Or.inl ⟨by omega, by omega, rfl, rfl⟩)
        · have c_37 := xa_b0.mp c_37
          refine xa_iconst (pc := 40) dX10_picture_40 ?_
          refine xa_ireturn (pc := 41) dX10_picture_41 rfl trivial ?_
          exact Or.inl ⟨by omega, rfl, rfl⟩
