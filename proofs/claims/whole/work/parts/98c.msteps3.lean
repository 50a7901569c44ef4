/-! The model's calls, in its world: sheets -/
theorem c_mMove2 {G : xa_G} {h : xa_H} (k : Nat) (F : Nat → Nat → Int) (s : Nat → Int) (w m : Int) (hw : xa_ok w) (hm : xa_ok m) (hwy : ∀ i, 0 ≤ F 9 i ∧ F 9 i ≤ 60) (hM : xM h k F s)  : xa_M G mX10_move [xa_r k, xa_i w, xa_i m] h 0 0 (fun r h' => (¬ ((0 ≤ w ∧ w ≤ 3) ∧ 0 ≤ m ∧ m ≤ 18) ∧ r = some (xa_i (-1)) ∧ h' = h) ∨ (((0 ≤ w ∧ w ≤ 3) ∧ 0 ≤ m ∧ m ≤ 18) ∧ F 9 w.toNat = 60 ∧ r = some (xa_i (-3)) ∧ h' = h) ∨ (((0 ≤ w ∧ w ≤ 3) ∧ 0 ≤ m ∧ m ≤ 18) ∧ F 9 w.toNat ≠ 60 ∧ r = some (xa_i (F 9 w.toNat + 1)) ∧ xM h' k (xa_uF (xa_uF F 10 (xa_upf (F 10) (60 * w + F 9 w.toNat).toNat m)) 9 (xa_upf (F 9) w.toNat (F 9 w.toNat + 1))) s ∧ h'.2 = h.2 ∧ ∀ i, (i < k ∨ k + 17 ≤ i) → h'.1 i = h.1 i)) := by
  refine xa_enter (by decide +kernel) (Nat.le_of_ble_eq_true rfl) ?_
  refine xa_locals (ls' := [some (xa_r k), some (xa_i w), some (xa_i m)]) rfl ?_
  have hn : h.2 = h.2 := rfl
  have fr : ∀ i, (i < k ∨ k + 17 ≤ i) → h.1 i = h.1 i := fun _ _ => rfl
  obtain ⟨hM0, hM1, hM2, hM3, hM4, hM5, hM6, hM7, hM8, hM9, hM10, hM11, hM12, hM13, hM14, hM15, hM16, hMk, hMn⟩ := hM
  refine xa_iload_n (pc := 0) dX10_move_0 rfl ?_
  refine xa_callS (pc := 1) (as := [xa_i w]) (rest := []) dX10_move_1 ⟨qX10_isWay.1, qX10_isWay.2.1, qX10_isWay.2.2, by decide, by decide⟩ lkRX10_156 smX10_isWay rfl rfl (Nat.le_of_ble_eq_true rfl) (Nat.zero_le _) (Nat.zero_le _) (c_mWay _ ⟨by omega, by omega⟩) (fun r h' hq => ?_)
  obtain ⟨rfl, hq⟩ := hq
  have hq := hq.symm
  subst hq
  refine xa_if_eq (pc := 4) (tgt := 19) dX10_move_4 (by decide) xa_okb (fun c_4 => ?_) (fun c_4 => ?_)
  · have c_4 := xa_b0.mp c_4
    refine xa_iconst (pc := 19) dX10_move_19 ?_
    refine xa_ireturn (pc := 20) dX10_move_20 rfl trivial ?_
    exact Or.inl ⟨by omega, rfl, rfl⟩
  · have c_4 := xa_b1.mp c_4
    refine xa_iload_n (pc := 7) dX10_move_7 rfl ?_
    refine xa_i2l (pc := 8) dX10_move_8 ⟨by omega, by omega⟩ ?_
    refine xa_lconst (pc := 9) (n := 0) dX10_move_9 rfl ?_
    refine xa_ldc2 (pc := 10) (n := 18) dX10_move_10 ctRX10_159 rfl ?_
    refine xa_callS (pc := 13) (as := [xa_l m, xa_l 0, xa_l 18]) (rest := []) dX10_move_13 ⟨qX10_in.1, qX10_in.2.1, qX10_in.2.2, by decide, by decide⟩ lkRX10_65 smX10_in rfl rfl (Nat.le_of_ble_eq_true rfl) (Nat.zero_le _) (Nat.zero_le _) (c_in _ _ _ ⟨by omega, by omega⟩ ⟨by omega, by omega⟩ ⟨by omega, by omega⟩) (fun r h' hq => ?_)
    obtain ⟨rfl, hq⟩ := hq
    have hq := hq.symm
    subst hq
    refine xa_if_ne (pc := 16) (tgt := 21) dX10_move_16 (by decide) xa_okb (fun c_16 => ?_) (fun c_16 => ?_)
    · have c_16 := xa_b1.mp c_16
      refine xa_aload_n (pc := 21) dX10_move_21 rfl ?_
      refine xa_getfield (pc := 22) dX10_move_22 flRX10_34 (by omega) (by omega) hM0 rfl ?_
      refine xa_iload_n (pc := 25) dX10_move_25 rfl ?_
      refine xa_ialdw (pc := 26) w.toNat dX10_move_26 (by omega) hM9 (by omega) (by omega) rfl ?_
      have b_26 := hwy (w.toNat)
      refine xa_bipush (pc := 27) dX10_move_27 rfl ?_
      refine xa_icmp_ne (pc := 29) (tgt := 35) dX10_move_29 (by decide) ⟨by omega, by omega⟩ (by decide) (fun c_29 => ?_) (fun c_29 => ?_)
      · skip
        refine xa_aload_n (pc := 35) dX10_move_35 rfl ?_
        refine xa_getfield (pc := 36) dX10_move_36 flRX10_37 (by omega) (by omega) hM0 rfl ?_
        refine xa_bipush (pc := 39) dX10_move_39 rfl ?_
        refine xa_iload_n (pc := 41) dX10_move_41 rfl ?_
        refine xa_imul (pc := 42) dX10_move_42 ?_
        refine xa_aload_n (pc := 43) dX10_move_43 rfl ?_
        refine xa_getfield (pc := 44) dX10_move_44 flRX10_34 (by omega) (by omega) hM0 rfl ?_
        refine xa_iload_n (pc := 47) dX10_move_47 rfl ?_
        refine xa_ialdw (pc := 48) w.toNat dX10_move_48 (by omega) hM9 (by omega) (by omega) rfl ?_
        have b_48 := hwy (w.toNat)
        refine xa_iadd (pc := 49) dX10_move_49 ?_
        refine xa_iload_n (pc := 50) dX10_move_50 rfl ?_
        refine xa_iastw (pc := 51) (((60 * w) + ((F 9) w.toNat)).toNat) dX10_move_51 (by omega) (by omega) hM10 (by omega) (by omega) rfl (fun h1 nh1 ch1 oh1 => ?_)
        have hM10 : h1.1 (k + 10) = xa_a 720 (xa_upf (F 10) (((60 * w) + ((F 9) w.toNat)).toNat) m) := ch1
        have hM0 : h1.1 k = xa_o 10 [xa_i (s 0), xa_r (k + 1), xa_r (k + 2), xa_r (k + 3), xa_r (k + 4), xa_r (k + 5), xa_r (k + 6), xa_r (k + 7), xa_r (k + 8), xa_r (k + 9), xa_r (k + 10), xa_r (k + 11), xa_r (k + 12), xa_i (s 13), xa_i (s 14), xa_i (s 15), xa_r (k + 13), xa_i (s 17), xa_i (s 18), xa_i (s 19), xa_i (s 20), xa_r (k + 14), xa_r (k + 15), xa_i (s 23), xa_r (k + 16)] := (oh1 _ (by omega)).trans hM0
        have hM1 : h1.1 (k + 1) = xa_a 120 (F 1) := (oh1 _ (by omega)).trans hM1
        have hM2 : h1.1 (k + 2) = xa_a 2 (F 2) := (oh1 _ (by omega)).trans hM2
        have hM3 : h1.1 (k + 3) = xa_a 18 (F 3) := (oh1 _ (by omega)).trans hM3
        have hM4 : h1.1 (k + 4) = xa_a 2 (F 4) := (oh1 _ (by omega)).trans hM4
        have hM5 : h1.1 (k + 5) = xa_a 4 (F 5) := (oh1 _ (by omega)).trans hM5
        have hM6 : h1.1 (k + 6) = xa_a 4 (F 6) := (oh1 _ (by omega)).trans hM6
        have hM7 : h1.1 (k + 7) = xa_a 2 (F 7) := (oh1 _ (by omega)).trans hM7
        have hM8 : h1.1 (k + 8) = xa_a 2 (F 8) := (oh1 _ (by omega)).trans hM8
        have hM9 : h1.1 (k + 9) = xa_a 12 (F 9) := (oh1 _ (by omega)).trans hM9
        have hM11 : h1.1 (k + 11) = xa_a 3 (F 11) := (oh1 _ (by omega)).trans hM11
        have hM12 : h1.1 (k + 12) = xa_a 360 (F 12) := (oh1 _ (by omega)).trans hM12
        have hM13 : h1.1 (k + 13) = xa_a 3 (F 13) := (oh1 _ (by omega)).trans hM13
        have hM14 : h1.1 (k + 14) = xa_a 583200 (F 14) := (oh1 _ (by omega)).trans hM14
        have hM15 : h1.1 (k + 15) = xa_a 583200 (F 15) := (oh1 _ (by omega)).trans hM15
        have hM16 : h1.1 (k + 16) = xa_a 4 (F 16) := (oh1 _ (by omega)).trans hM16
        have hn : h1.2 = h.2 := nh1.trans hn
        have fr : ∀ i, (i < k ∨ k + 17 ≤ i) → h1.1 i = h.1 i := fun i hi => (oh1 i (by omega)).trans (fr i hi)
        refine xa_aload_n (pc := 52) dX10_move_52 rfl ?_
        refine xa_getfield (pc := 53) dX10_move_53 flRX10_34 (by omega) (by omega) hM0 rfl ?_
        refine xa_iload_n (pc := 56) dX10_move_56 rfl ?_
        refine xa_dup2 (pc := 57) dX10_move_57 rfl rfl ?_
        refine xa_ialdw (pc := 58) w.toNat dX10_move_58 (by omega) hM9 (by omega) (by omega) rfl ?_
        have b_58 := hwy (w.toNat)
        refine xa_iconst (pc := 59) dX10_move_59 ?_
        refine xa_iadd (pc := 60) dX10_move_60 ?_
        refine xa_iastw (pc := 61) w.toNat dX10_move_61 (by omega) (by omega) hM9 (by omega) (by omega) rfl (fun h2 nh2 ch2 oh2 => ?_)
        have hM9 : h2.1 (k + 9) = xa_a 12 (xa_upf (F 9) w.toNat (((F 9) w.toNat) + 1)) := ch2
        have hM0 : h2.1 k = xa_o 10 [xa_i (s 0), xa_r (k + 1), xa_r (k + 2), xa_r (k + 3), xa_r (k + 4), xa_r (k + 5), xa_r (k + 6), xa_r (k + 7), xa_r (k + 8), xa_r (k + 9), xa_r (k + 10), xa_r (k + 11), xa_r (k + 12), xa_i (s 13), xa_i (s 14), xa_i (s 15), xa_r (k + 13), xa_i (s 17), xa_i (s 18), xa_i (s 19), xa_i (s 20), xa_r (k + 14), xa_r (k + 15), xa_i (s 23), xa_r (k + 16)] := (oh2 _ (by omega)).trans hM0
        have hM1 : h2.1 (k + 1) = xa_a 120 (F 1) := (oh2 _ (by omega)).trans hM1
        have hM2 : h2.1 (k + 2) = xa_a 2 (F 2) := (oh2 _ (by omega)).trans hM2
        have hM3 : h2.1 (k + 3) = xa_a 18 (F 3) := (oh2 _ (by omega)).trans hM3
        have hM4 : h2.1 (k + 4) = xa_a 2 (F 4) := (oh2 _ (by omega)).trans hM4
        have hM5 : h2.1 (k + 5) = xa_a 4 (F 5) := (oh2 _ (by omega)).trans hM5
        have hM6 : h2.1 (k + 6) = xa_a 4 (F 6) := (oh2 _ (by omega)).trans hM6
        have hM7 : h2.1 (k + 7) = xa_a 2 (F 7) := (oh2 _ (by omega)).trans hM7
        have hM8 : h2.1 (k + 8) = xa_a 2 (F 8) := (oh2 _ (by omega)).trans hM8
        have hM10 : h2.1 (k + 10) = xa_a 720 (xa_upf (F 10) (((60 * w) + ((F 9) w.toNat)).toNat) m) := (oh2 _ (by omega)).trans hM10
        have hM11 : h2.1 (k + 11) = xa_a 3 (F 11) := (oh2 _ (by omega)).trans hM11
        have hM12 : h2.1 (k + 12) = xa_a 360 (F 12) := (oh2 _ (by omega)).trans hM12
        have hM13 : h2.1 (k + 13) = xa_a 3 (F 13) := (oh2 _ (by omega)).trans hM13
        have hM14 : h2.1 (k + 14) = xa_a 583200 (F 14) := (oh2 _ (by omega)).trans hM14
        have hM15 : h2.1 (k + 15) = xa_a 583200 (F 15) := (oh2 _ (by omega)).trans hM15
        have hM16 : h2.1 (k + 16) = xa_a 4 (F 16) := (oh2 _ (by omega)).trans hM16
        have hn : h2.2 = h.2 := nh2.trans hn
        have fr : ∀ i, (i < k ∨ k + 17 ≤ i) → h2.1 i = h.1 i := fun i hi => (oh2 i (by omega)).trans (fr i hi)
        refine xa_aload_n (pc := 62) dX10_move_62 rfl ?_
        refine xa_getfield (pc := 63) dX10_move_63 flRX10_34 (by omega) (by omega) hM0 rfl ?_
        refine xa_iload_n (pc := 66) dX10_move_66 rfl ?_
        refine xa_ialdw (pc := 67) w.toNat dX10_move_67 (by omega) hM9 (by omega) (by omega) rfl ?_
        refine xa_ireturn (pc := 68) dX10_move_68 rfl trivial ?_
        exact Or.inr (Or.inr ⟨by omega, by omega, congrArg (fun z => some (xa_i z)) (xa_upf_at _ _ _), ⟨hM0, hM1, hM2, hM3, hM4, hM5, hM6, hM7, hM8, hM9, hM10, hM11, hM12, hM13, hM14, hM15, hM16, by omega, by omega⟩, hn, fr⟩)
      · skip
        refine xa_bipush (pc := 32) dX10_move_32 rfl ?_
        refine xa_ireturn (pc := 34) dX10_move_34 rfl trivial ?_
        exact Or.inr (Or.inl ⟨by omega, by omega, rfl, rfl⟩)
    · have c_16 := xa_b0.mp c_16
      refine xa_iconst (pc := 19) dX10_move_19 ?_
      refine xa_ireturn (pc := 20) dX10_move_20 rfl trivial ?_
      exact Or.inl ⟨by omega, rfl, rfl⟩
theorem upf_ag {f g : Nat → Int} {N o p p' : Nat} {v : Int} (h : ∀ i, i < N → f i = g (o + i)) (e : p' = o + p) : ∀ i, i < N → xa_upf f p v i = xa_upf g p' v (o + i) := fun i hi => by
  subst e
  by_cases q : i = p
  · rw [q, xa_upf_at, xa_upf_at]
  · rw [xa_upf_ne _ _ q, xa_upf_ne _ _ (by omega)]
    exact h i hi
theorem upf_no {f g : Nat → Int} {N o p' : Nat} {v : Int} (h : ∀ i, i < N → f i = g (o + i)) (e : p' < o ∨ o + N ≤ p') : ∀ i, i < N → f i = xa_upf g p' v (o + i) := fun i hi => by
  rw [xa_upf_ne _ _ (by omega)]
  exact h i hi
theorem fcp_in (f : Nat → Int) {oa ob m i j : Nat} (hj : j = ob + i) (hi : i < m) : fcp f oa ob m j = f (oa + i) := by
  subst hj
  unfold fcp
  rw [if_pos (by omega), show ob + i - ob + oa = oa + i by omega]
theorem fcp_out (f : Nat → Int) {oa ob m j : Nat} (hj : j < ob ∨ ob + m ≤ j) : fcp f oa ob m j = f j := by
  unfold fcp
  rw [if_neg (by omega)]
theorem m_move {G : xa_G} {h : xa_H} {k : Nat} {n : Nat} {f ld dg : Nat → Int} {pa jo : Nat} {wa sr pu ri : Int} {mv le fi : Nat → Int} {pc kp : Nat} {mv1 le1 fi1 : Nat → Int} {pc1 : Nat} {mv2 le2 fi2 : Nat → Int} {pc2 : Nat} (w m : Int) (h1 : xa_ok w) (h2 : xa_ok m) (hW : xMW h k n f ld dg pa jo wa sr pu ri mv le fi pc kp mv1 le1 fi1 pc1 mv2 le2 fi2 pc2) : xa_M G mX10_move [xa_r k, xa_i w, xa_i m] h 0 0 (fun r h' => ((¬ ((0 ≤ w ∧ w ≤ 3) ∧ 0 ≤ m ∧ m ≤ 18) ∧ r = some (xa_i (-1)) ∧ xMW h' k n f ld dg pa jo wa sr pu ri mv le fi pc kp mv1 le1 fi1 pc1 mv2 le2 fi2 pc2) ∨ (∃ wn : Nat, w = ((wn : Nat) : Int) ∧ (wn ≤ 3 ∧ 0 ≤ m ∧ m ≤ 18) ∧ le wn = 60 ∧ r = some (xa_i (-3)) ∧ xMW h' k n f ld dg pa jo wa sr pu ri mv le fi pc kp mv1 le1 fi1 pc1 mv2 le2 fi2 pc2) ∨ (∃ wn : Nat, w = ((wn : Nat) : Int) ∧ (wn ≤ 3 ∧ 0 ≤ m ∧ m ≤ 18) ∧ le wn < 60 ∧ r = some (xa_i (le wn + 1)) ∧ xMW h' k n f ld dg pa jo wa sr pu ri (xa_upf mv (wn * 60 + (le wn).toNat) m) (xa_upf le wn (le wn + 1)) fi pc kp mv1 le1 fi1 pc1 mv2 le2 fi2 pc2)) ∧ h'.2 = h.2 ∧ ∀ i, (i < k ∨ k + 17 ≤ i) → h'.1 i = h.1 i) := by
  have hW' := hW
  obtain ⟨F, s, hM, ho, hl, hf, hr⟩ := hW
  have hag := hr.agr
  obtain ⟨R1, ⟨⟨g1, g2, g3, g4⟩, g5, g6⟩, ⟨k1, k2, k3, k4⟩, R4⟩ := hr
  obtain ⟨o1, o2, o3, o4, o5, o6, o7⟩ := ho
  refine xa_mono (c_mMove2 k F s w m h1 h2 o6 hM) ?_
  rintro r h' (⟨q1, q2, q3⟩ | ⟨q1, q2, q3, q4⟩ | ⟨q1, q2, q3, q4, q5, q6⟩)
  · subst q3
    exact ⟨Or.inl ⟨q1, q2, hW'⟩, rfl, fun _ _ => rfl⟩
  · subst q4
    exact ⟨Or.inr (Or.inl ⟨w.toNat, by omega, by omega, by rw [hag.2.1 _ (by omega)]; exact q2, q3, hW'⟩), rfl, fun _ _ => rfl⟩
  · have el := hag.2.1 w.toNat (by omega)
    have hb := o6 w.toNat
    refine ⟨Or.inr (Or.inr ⟨w.toNat, by omega, by omega, by rw [el]; omega, by rw [el]; exact q3, ⟨_, _, q4, ⟨o1, o2, o3, o4, o5, xa_upf_b o6 (by omega), xa_upf_b o7 q1.2⟩, hl, hf, R1, ⟨⟨?_, ?_, g3, g4⟩, xa_upf_b g5 (by rw [el]; omega), g6⟩, ⟨k1, k2, fun z => ?_, fun z => ?_⟩, R4⟩⟩), q5, q6⟩
    · exact upf_ag g1 (by rw [el]; omega)
    · rw [el]
      exact upf_ag g2 (by omega)
    · obtain ⟨⟨z1, z2, z3, z4⟩, z5⟩ := k3 z
      exact ⟨⟨upf_no z1 (by omega), upf_no z2 (by omega), z3, z4⟩, z5⟩
    · obtain ⟨⟨z1, z2, z3, z4⟩, z5⟩ := k4 z
      exact ⟨⟨upf_no z1 (by omega), upf_no z2 (by omega), z3, z4⟩, z5⟩
theorem m_noWay {G : xa_G} {h : xa_H} {k : Nat} {n : Nat} {f ld dg : Nat → Int} {pa jo : Nat} {wa sr pu ri : Int} {mv le fi : Nat → Int} {pc kp : Nat} {mv1 le1 fi1 : Nat → Int} {pc1 : Nat} {mv2 le2 fi2 : Nat → Int} {pc2 : Nat} (w : Int) (h1 : xa_ok w) (hW : xMW h k n f ld dg pa jo wa sr pu ri mv le fi pc kp mv1 le1 fi1 pc1 mv2 le2 fi2 pc2) : xa_M G mX10_noWay [xa_r k, xa_i w] h 0 0 (fun r h' => ((¬ (0 ≤ w ∧ w ≤ 3) ∧ r = some (xa_i (-1)) ∧ xMW h' k n f ld dg pa jo wa sr pu ri mv le fi pc kp mv1 le1 fi1 pc1 mv2 le2 fi2 pc2) ∨ (∃ wn : Nat, w = ((wn : Nat) : Int) ∧ wn ≤ 3 ∧ r = some (xa_i (le wn)) ∧ xMW h' k n f ld dg pa jo wa sr pu ri mv (xa_upf le wn 0) fi pc kp mv1 le1 fi1 pc1 mv2 le2 fi2 pc2)) ∧ h'.2 = h.2 ∧ ∀ i, (i < k ∨ k + 17 ≤ i) → h'.1 i = h.1 i) := by
  have hW' := hW
  obtain ⟨F, s, hM, ho, hl, hf, hr⟩ := hW
  have hag := hr.agr
  obtain ⟨R1, ⟨⟨g1, g2, g3, g4⟩, g5, g6⟩, ⟨k1, k2, k3, k4⟩, R4⟩ := hr
  obtain ⟨o1, o2, o3, o4, o5, o6, o7⟩ := ho
  refine xa_mono (c_mNoWay k F s w h1 hM) ?_
  rintro r h' (⟨q1, q2, q3⟩ | ⟨q1, q3, q4, q5, q6⟩)
  · subst q3
    exact ⟨Or.inl ⟨q1, q2, hW'⟩, rfl, fun _ _ => rfl⟩
  · have el := hag.2.1 w.toNat (by omega)
    refine ⟨Or.inr ⟨w.toNat, by omega, by omega, by rw [el]; exact q3, ⟨_, _, q4, ⟨o1, o2, o3, o4, o5, xa_upf_b o6 (by omega), o7⟩, hl, hf, R1, ⟨⟨g1, upf_ag g2 (by omega), g3, g4⟩, xa_upf_b g5 (by omega), g6⟩, ⟨k1, k2, fun z => ?_, fun z => ?_⟩, R4⟩⟩, q5, q6⟩
    · obtain ⟨⟨z1, z2, z3, z4⟩, z5⟩ := k3 z
      exact ⟨⟨z1, upf_no z2 (by omega), z3, z4⟩, z5⟩
    · obtain ⟨⟨z1, z2, z3, z4⟩, z5⟩ := k4 z
      exact ⟨⟨z1, upf_no z2 (by omega), z3, z4⟩, z5⟩
theorem m_noFilm {G : xa_G} {h : xa_H} {k : Nat} {n : Nat} {f ld dg : Nat → Int} {pa jo : Nat} {wa sr pu ri : Int} {mv le fi : Nat → Int} {pc kp : Nat} {mv1 le1 fi1 : Nat → Int} {pc1 : Nat} {mv2 le2 fi2 : Nat → Int} {pc2 : Nat}  (hW : xMW h k n f ld dg pa jo wa sr pu ri mv le fi pc kp mv1 le1 fi1 pc1 mv2 le2 fi2 pc2) : xa_M G mX10_noFilm [xa_r k] h 0 0 (fun r h' => r = some (xa_i ((pc : Nat) : Int)) ∧ xMW h' k n f ld dg pa jo wa sr pu ri mv le fi 0 kp mv1 le1 fi1 pc1 mv2 le2 fi2 pc2 ∧ h'.2 = h.2 ∧ ∀ i, (i < k ∨ k + 17 ≤ i) → h'.1 i = h.1 i) := by
  have hW' := hW
  obtain ⟨F, s, hM, ho, hl, hf, hr⟩ := hW
  have hpc := hr.pcs
  obtain ⟨R1, ⟨⟨g1, g2, g3, g4⟩, g5, g6⟩, ⟨k1, k2, k3, k4⟩, R4⟩ := hr
  obtain ⟨o1, o2, o3, o4, o5, o6, o7⟩ := ho
  refine xa_mono (c_mNoFilm k F s hM) ?_
  rintro r h' ⟨q1, q4, q5, q6⟩
  refine ⟨by rw [q1, hpc], ⟨_, _, q4, ⟨o1, o2, o3, o4, o5, o6, o7⟩, hl, hf, R1, ⟨⟨g1, g2, g3, by show xa_upf (F 11) 0 0 0 = _; exact xa_upf_at _ _ _⟩, g5, fiOk_0 _ _⟩, ⟨k1, k2, fun z => ?_, fun z => ?_⟩, xa_upf_b R4 (by omega)⟩, q5, q6⟩
  · obtain ⟨⟨z1, z2, z3, z4⟩, z5⟩ := k3 z
    exact ⟨⟨z1, z2, z3, by show xa_upf (F 11) 0 0 1 = _; exact (xa_upf_ne _ _ (by decide)).trans z4⟩, z5⟩
  · obtain ⟨⟨z1, z2, z3, z4⟩, z5⟩ := k4 z
    exact ⟨⟨z1, z2, z3, by show xa_upf (F 11) 0 0 2 = _; exact (xa_upf_ne _ _ (by decide)).trans z4⟩, z5⟩
theorem m_picture {G : xa_G} {h : xa_H} {k : Nat} {n : Nat} {f ld dg : Nat → Int} {pa jo : Nat} {wa sr pu ri : Int} {mv le fi : Nat → Int} {pc kp : Nat} {mv1 le1 fi1 : Nat → Int} {pc1 : Nat} {mv2 le2 fi2 : Nat → Int} {pc2 : Nat} (a b c d : Int) (h1 : xa_ok a) (h2 : xa_ok b) (h3 : xa_ok c) (h4 : xa_ok d) (hW : xMW h k n f ld dg pa jo wa sr pu ri mv le fi pc kp mv1 le1 fi1 pc1 mv2 le2 fi2 pc2) : xa_M G mX10_picture [xa_r k, xa_i a, xa_i b, xa_i c, xa_i d] h 0 0 (fun r h' => ((¬ ((0 ≤ a ∧ a ≤ 60) ∧ (0 ≤ b ∧ b ≤ (pa : Int) - 1) ∧ (0 ≤ c ∧ c ≤ 359) ∧ 0 ≤ d ∧ d ≤ 90) ∧ r = some (xa_i (-1)) ∧ xMW h' k n f ld dg pa jo wa sr pu ri mv le fi pc kp mv1 le1 fi1 pc1 mv2 le2 fi2 pc2) ∨ (((0 ≤ a ∧ a ≤ 60) ∧ (0 ≤ b ∧ b ≤ (pa : Int) - 1) ∧ (0 ≤ c ∧ c ≤ 359) ∧ 0 ≤ d ∧ d ≤ 90) ∧ pc = 30 ∧ r = some (xa_i (-3)) ∧ xMW h' k n f ld dg pa jo wa sr pu ri mv le fi pc kp mv1 le1 fi1 pc1 mv2 le2 fi2 pc2) ∨ (((0 ≤ a ∧ a ≤ 60) ∧ (0 ≤ b ∧ b ≤ (pa : Int) - 1) ∧ (0 ≤ c ∧ c ≤ 359) ∧ 0 ≤ d ∧ d ≤ 90) ∧ pc < 30 ∧ r = some (xa_i ((pc + 1 : Nat) : Int)) ∧ xMW h' k n f ld dg pa jo wa sr pu ri mv le (xa_upf (xa_upf (xa_upf (xa_upf fi (pc * 4) a) (pc * 4 + 1) b) (pc * 4 + 2) c) (pc * 4 + 3) d) (pc + 1) kp mv1 le1 fi1 pc1 mv2 le2 fi2 pc2)) ∧ h'.2 = h.2 ∧ ∀ i, (i < k ∨ k + 17 ≤ i) → h'.1 i = h.1 i) := by
  have hW' := hW
  obtain ⟨F, s, hM, ho, hl, hf, hr⟩ := hW
  have hpc := hr.pcs
  have hv := ho.mv
  obtain ⟨R1, ⟨⟨g1, g2, g3, g4⟩, g5, g6⟩, ⟨k1, k2, k3, k4⟩, R4⟩ := hr
  obtain ⟨o1, o2, o3, o4, o5, o6, o7⟩ := ho
  have hp30 := g6.1
  have e2 : F 2 0 = (pa : Int) := o2.1
  have CM := c_mPicture (G := G) k F s a b c d h1 h2 h3 h4 hv R4 hM
  rw [e2, hpc] at CM
  refine xa_mono CM ?_
  rintro r h' (⟨q1, q2, q3⟩ | ⟨q1, q2, q3, q4⟩ | ⟨q1, q2, q3, q4, q5, q6⟩)
  · subst q3
    exact ⟨Or.inl ⟨q1, q2, hW'⟩, rfl, fun _ _ => rfl⟩
  · subst q4
    exact ⟨Or.inr (Or.inl ⟨q1, by omega, q3, hW'⟩), rfl, fun _ _ => rfl⟩
  · refine ⟨Or.inr (Or.inr ⟨q1, by omega, by rw [q3]; congr 1, ⟨_, _, q4, ⟨o1, o2, o3, o4, o5, o6, o7⟩, hl, hf, R1, ⟨⟨g1, g2, ?_, ?_⟩, g5, fiOk_up g6 (by omega) q1⟩, ⟨k1, k2, fun z => ?_, fun z => ?_⟩, xa_upf_b R4 (by omega)⟩⟩), q5, q6⟩
    · exact upf_ag (upf_ag (upf_ag (upf_ag g3 (by omega)) (by omega)) (by omega)) (by omega)
    · show xa_upf (F 11) 0 (((pc : Nat) : Int) + 1) 0 = _
      exact (xa_upf_at _ _ _).trans (by omega)
    · obtain ⟨⟨z1, z2, z3, z4⟩, z5⟩ := k3 z
      exact ⟨⟨z1, z2, upf_no (upf_no (upf_no (upf_no z3 (by omega)) (by omega)) (by omega)) (by omega), by show xa_upf (F 11) 0 (((pc : Nat) : Int) + 1) 1 = _; exact (xa_upf_ne _ _ (by decide)).trans z4⟩, z5⟩
    · obtain ⟨⟨z1, z2, z3, z4⟩, z5⟩ := k4 z
      exact ⟨⟨z1, z2, upf_no (upf_no (upf_no (upf_no z3 (by omega)) (by omega)) (by omega)) (by omega), by show xa_upf (F 11) 0 (((pc : Nat) : Int) + 1) 2 = _; exact (xa_upf_ne _ _ (by decide)).trans z4⟩, z5⟩
