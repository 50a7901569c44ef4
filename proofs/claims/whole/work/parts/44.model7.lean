/-! The model: an item -/
theorem xa_upf_upf (f : Nat → Int) (j : Nat) (x y : Int) : xa_upf (xa_upf f j x) j y = xa_upf f j y := by
  funext i
  unfold xa_upf
  split <;> rfl
theorem xM.p15 {h : xa_H} {k : Nat} {F : Nat → Nat → Int} {s : Nat → Int} {a b : Int} (hM : xM h k F (xa_upf (xa_upf s 15 a) 15 b)) : xM h k F (xa_upf s 15 b) := by
  rw [xa_upf_upf] at hM
  exact hM
theorem c_mItem {G : xa_G} {h : xa_H} (k n p : Nat) (F : Nat → Nat → Int) (s : Nat → Int) (b : xBt) (hs0 : s 0 = (n : Int)) (hn9 : n ≤ 120) (hf : ∀ i, 0 ≤ F 1 i ∧ F 1 i ≤ 255) (hp : s 15 = ((p : Nat) : Int)) (hpn : p < n) (hv : vD b) (hD : mD F b) (hBd : mBd F) (hM : xM h k F s)  : xa_M G mX10_item [xa_r k] h 0 0 (fun r h' => ((∃ (F' : Nat → Nat → Int) (b' : xBt) (p' : Nat), rd_item n (F 1) p b = some (p', b') ∧ r = some (xa_i 1) ∧ mD F' b' ∧ mBd F' ∧ mFr F F' ∧ xM h' k F' (xa_upf s 15 ((p' : Nat) : Int))) ∨ (rd_item n (F 1) p b = none ∧ r = some (xa_i 0) ∧ ∃ (F' : Nat → Nat → Int) (x : Int), mBd F' ∧ mFr F F' ∧ xM h' k F' (xa_upf s 15 x))) ∧ h'.2 = h.2 ∧ ∀ i, (i < k ∨ k + 17 ≤ i) → h'.1 i = h.1 i) := by
  refine xa_enter (by decide +kernel) (Nat.le_of_ble_eq_true rfl) ?_
  refine xa_locals (ls' := [some (xa_r k), none]) rfl ?_
  have hn : h.2 = h.2 := rfl
  have fr : ∀ i, (i < k ∨ k + 17 ≤ i) → h.1 i = h.1 i := fun _ _ => rfl
  obtain ⟨hM0, hM1, hM2, hM3, hM4, hM5, hM6, hM7, hM8, hM9, hM10, hM11, hM12, hM13, hM14, hM15, hM16, hMk, hMn⟩ := hM
  rw [hp] at hM0
  refine xa_aload_n (pc := 0) dX10_item_0 rfl ?_
  refine xa_aload_n (pc := 1) dX10_item_1 rfl ?_
  refine xa_getfield (pc := 2) dX10_item_2 flRX10_74 (by omega) (by omega) hM0 rfl ?_
  refine xa_callV (pc := 5) (as := [xa_i ((p : Nat) : Int)]) (rest := []) dX10_item_5 ⟨qX10_byteAt.1, qX10_byteAt.2.1, qX10_byteAt.2.2, by decide, by decide⟩ lkRX10_77 imX10_byteAt seX10_byteAt rfl rfl (by omega) (by omega) hM0 rfl (Nat.le_of_ble_eq_true rfl) (Nat.zero_le _) (Nat.zero_le _) (c_mByteN _ n p F (xa_upf s 15 ((p : Nat) : Int)) (by omega) hs0 hn9 ⟨hM0, hM1, hM2, hM3, hM4, hM5, hM6, hM7, hM8, hM9, hM10, hM11, hM12, hM13, hM14, hM15, hM16, by omega, by omega⟩) (fun r h' hq => ?_)
  obtain ⟨⟨q, rfl, bq⟩, hq⟩ := hq
  have bq : q = sp_at n (F 1) ((p : Nat) : Int) ∨ q = 0 ∧ sp_at n (F 1) ((p : Nat) : Int) = -1 := bq
  have hq := hq.symm
  subst hq
  have aq : 0 ≤ sp_at n (F 1) ((p : Nat) : Int) ∧ sp_at n (F 1) ((p : Nat) : Int) ≤ 255 := by unfold sp_at; rw [if_pos (by omega)]; exact hf _
  have eq : sp_at n (F 1) ((p : Nat) : Int) = q := by omega
  refine xa_istoren (pc := 8) [some (xa_r k), some (xa_i q)] dX10_item_8 (by decide) (Nat.le_of_ble_eq_true rfl) rfl rfl ?_
  refine xa_aload_n (pc := 9) dX10_item_9 rfl ?_
  refine xa_dup (pc := 10) dX10_item_10 rfl ?_
  refine xa_getfield (pc := 11) dX10_item_11 flRX10_74 (by omega) (by omega) hM0 rfl ?_
  refine xa_iconst (pc := 14) dX10_item_14 ?_
  refine xa_iadd (pc := 15) dX10_item_15 ?_
  refine xa_top (y := ((p + 1 : Nat) : Int)) (by omega) ?_
  refine xa_putw (pc := 16) [xa_i (s 0), xa_r (k + 1), xa_r (k + 2), xa_r (k + 3), xa_r (k + 4), xa_r (k + 5), xa_r (k + 6), xa_r (k + 7), xa_r (k + 8), xa_r (k + 9), xa_r (k + 10), xa_r (k + 11), xa_r (k + 12), xa_i (s 13), xa_i (s 14), xa_i ((p + 1 : Nat) : Int), xa_r (k + 13), xa_i (s 17), xa_i (s 18), xa_i (s 19), xa_i (s 20), xa_r (k + 14), xa_r (k + 15), xa_i (s 23), xa_r (k + 16)] dX10_item_16 flRX10_74 plX10_15 (by omega) (by omega) hM0 trivial rfl (fun h1 nh1 ch1 oh1 => ?_)
  have hM0 : h1.1 k = xa_o 10 [xa_i (s 0), xa_r (k + 1), xa_r (k + 2), xa_r (k + 3), xa_r (k + 4), xa_r (k + 5), xa_r (k + 6), xa_r (k + 7), xa_r (k + 8), xa_r (k + 9), xa_r (k + 10), xa_r (k + 11), xa_r (k + 12), xa_i (s 13), xa_i (s 14), xa_i ((p + 1 : Nat) : Int), xa_r (k + 13), xa_i (s 17), xa_i (s 18), xa_i (s 19), xa_i (s 20), xa_r (k + 14), xa_r (k + 15), xa_i (s 23), xa_r (k + 16)] := ch1
  have hM1 : h1.1 (k + 1) = xa_a 120 (F 1) := (oh1 _ (by omega)).trans hM1
  have hM2 : h1.1 (k + 2) = xa_a 2 (F 2) := (oh1 _ (by omega)).trans hM2
  have hM3 : h1.1 (k + 3) = xa_a 18 (F 3) := (oh1 _ (by omega)).trans hM3
  have hM4 : h1.1 (k + 4) = xa_a 2 (F 4) := (oh1 _ (by omega)).trans hM4
  have hM5 : h1.1 (k + 5) = xa_a 4 (F 5) := (oh1 _ (by omega)).trans hM5
  have hM6 : h1.1 (k + 6) = xa_a 4 (F 6) := (oh1 _ (by omega)).trans hM6
  have hM7 : h1.1 (k + 7) = xa_a 2 (F 7) := (oh1 _ (by omega)).trans hM7
  have hM8 : h1.1 (k + 8) = xa_a 2 (F 8) := (oh1 _ (by omega)).trans hM8
  have hM9 : h1.1 (k + 9) = xa_a 12 (F 9) := (oh1 _ (by omega)).trans hM9
  have hM10 : h1.1 (k + 10) = xa_a 720 (F 10) := (oh1 _ (by omega)).trans hM10
  have hM11 : h1.1 (k + 11) = xa_a 3 (F 11) := (oh1 _ (by omega)).trans hM11
  have hM12 : h1.1 (k + 12) = xa_a 360 (F 12) := (oh1 _ (by omega)).trans hM12
  have hM13 : h1.1 (k + 13) = xa_a 3 (F 13) := (oh1 _ (by omega)).trans hM13
  have hM14 : h1.1 (k + 14) = xa_a 583200 (F 14) := (oh1 _ (by omega)).trans hM14
  have hM15 : h1.1 (k + 15) = xa_a 583200 (F 15) := (oh1 _ (by omega)).trans hM15
  have hM16 : h1.1 (k + 16) = xa_a 4 (F 16) := (oh1 _ (by omega)).trans hM16
  have hn : h1.2 = h.2 := nh1.trans hn
  have fr : ∀ i, (i < k ∨ k + 17 ≤ i) → h1.1 i = h.1 i := fun i hi => (oh1 i (by omega)).trans (fr i hi)
  refine xa_iload_n (pc := 19) dX10_item_19 rfl ?_
  by_cases w_20_101 : q = 101
  · refine xa_lookup (pc := 20) (off := 93) (tgt := 113) dX10_item_20 rfl ⟨by omega, by omega⟩ (by rw [w_20_101]; rfl) (by decide) ?_
    refine xa_aload_n (pc := 113) dX10_item_113 rfl ?_
    refine xa_iconst (pc := 114) dX10_item_114 ?_
    refine xa_callV (pc := 115) (as := [xa_i 1]) (rest := []) dX10_item_115 ⟨qX10_figures.1, qX10_figures.2.1, qX10_figures.2.2, by decide, by decide⟩ lkRX10_87 imX10_figures seX10_figures rfl rfl (by omega) (by omega) hM0 rfl (Nat.le_of_ble_eq_true rfl) (Nat.zero_le _) (Nat.zero_le _) (c_figures1 _ n (p + 1) F (xa_upf s 15 ((p + 1 : Nat) : Int)) hs0 hn9 hf rfl (by omega) ⟨hM0, hM1, hM2, hM3, hM4, hM5, hM6, hM7, hM8, hM9, hM10, hM11, hM12, hM13, hM14, hM15, hM16, by omega, by omega⟩) (fun r h' hq => ?_)
    rcases hq with ⟨u, hu, rfl, hM, hqn, hqf⟩ | ⟨hu, rfl, nu, x, hM, hqn, hqf⟩
    · skip
      obtain ⟨hM0, hM1, hM2, hM3, hM4, hM5, hM6, hM7, hM8, hM9, hM10, hM11, hM12, hM13, hM14, hM15, hM16, hMk, hMn⟩ := hM
      have hM0 : h'.1 k = xa_o 10 [xa_i (s 0), xa_r (k + 1), xa_r (k + 2), xa_r (k + 3), xa_r (k + 4), xa_r (k + 5), xa_r (k + 6), xa_r (k + 7), xa_r (k + 8), xa_r (k + 9), xa_r (k + 10), xa_r (k + 11), xa_r (k + 12), xa_i (s 13), xa_i (s 14), xa_i ((u.2 + 1 : Nat) : Int), xa_r (k + 13), xa_i (s 17), xa_i (s 18), xa_i (s 19), xa_i (s 20), xa_r (k + 14), xa_r (k + 15), xa_i (s 23), xa_r (k + 16)] := hM0
      have hM1 : h'.1 (k + 1) = xa_a 120 (F 1) := hM1
      have hM2 : h'.1 (k + 2) = xa_a 2 (F 2) := hM2
      have hM3 : h'.1 (k + 3) = xa_a 18 (F 3) := hM3
      have hM4 : h'.1 (k + 4) = xa_a 2 (F 4) := hM4
      have hM5 : h'.1 (k + 5) = xa_a 4 (F 5) := hM5
      have hM6 : h'.1 (k + 6) = xa_a 4 (F 6) := hM6
      have hM7 : h'.1 (k + 7) = xa_a 2 (F 7) := hM7
      have hM8 : h'.1 (k + 8) = xa_a 2 (F 8) := hM8
      have hM9 : h'.1 (k + 9) = xa_a 12 (F 9) := hM9
      have hM10 : h'.1 (k + 10) = xa_a 720 (F 10) := hM10
      have hM11 : h'.1 (k + 11) = xa_a 3 (F 11) := hM11
      have hM12 : h'.1 (k + 12) = xa_a 360 (F 12) := hM12
      have hM13 : h'.1 (k + 13) = xa_a 3 (xa_upf (F 13) 0 u.1) := hM13
      have hM14 : h'.1 (k + 14) = xa_a 583200 (F 14) := hM14
      have hM15 : h'.1 (k + 15) = xa_a 583200 (F 15) := hM15
      have hM16 : h'.1 (k + 16) = xa_a 4 (F 16) := hM16
      have hn : h'.2 = h.2 := hqn.trans hn
      have fr : ∀ i, (i < k ∨ k + 17 ≤ i) → h'.1 i = h.1 i := fun i hi => (hqf i (by omega)).trans (fr i hi)
      have hub := fg1_b hu
      refine xa_if_eq (pc := 118) (tgt := 138) dX10_item_118 (by decide) (by decide) (fun c_118 => ?_) (fun c_118 => ?_)
      · skip
        exfalso; omega
      · skip
        refine xa_aload_n (pc := 121) dX10_item_121 rfl ?_
        refine xa_getfield (pc := 122) dX10_item_122 flRX10_46 (by omega) (by omega) hM0 rfl ?_
        refine xa_iconst (pc := 125) dX10_item_125 ?_
        refine xa_ialdw (pc := 126) 0 dX10_item_126 (by omega) hM13 (by omega) (by omega) rfl ?_
        refine xa_top (y := u.1) rfl ?_
        refine xa_i2l (pc := 127) dX10_item_127 ⟨by omega, by omega⟩ ?_
        refine xa_lconst (pc := 128) (n := 0) dX10_item_128 rfl ?_
        refine xa_ldc2 (pc := 129) (n := 90) dX10_item_129 ctRX10_103 rfl ?_
        refine xa_callS (pc := 132) (as := [xa_l u.1, xa_l 0, xa_l 90]) (rest := []) dX10_item_132 ⟨qX10_in.1, qX10_in.2.1, qX10_in.2.2, by decide, by decide⟩ lkRX10_65 smX10_in rfl rfl (Nat.le_of_ble_eq_true rfl) (Nat.zero_le _) (Nat.zero_le _) (c_in _ _ _ ⟨by omega, by omega⟩ ⟨by omega, by omega⟩ ⟨by omega, by omega⟩) (fun r h' hq => ?_)
        obtain ⟨rfl, hq⟩ := hq
        have hq := hq.symm
        subst hq
        refine xa_if_ne (pc := 135) (tgt := 140) dX10_item_135 (by decide) xa_okb (fun c_135 => ?_) (fun c_135 => ?_)
        · have c_135 := xa_b1.mp c_135
          refine xa_aload_n (pc := 140) dX10_item_140 rfl ?_
          refine xa_getfield (pc := 141) dX10_item_141 flRX10_31 (by omega) (by omega) hM0 rfl ?_
          refine xa_iconst (pc := 144) dX10_item_144 ?_
          refine xa_aload_n (pc := 145) dX10_item_145 rfl ?_
          refine xa_getfield (pc := 146) dX10_item_146 flRX10_46 (by omega) (by omega) hM0 rfl ?_
          refine xa_iconst (pc := 149) dX10_item_149 ?_
          refine xa_ialdw (pc := 150) 0 dX10_item_150 (by omega) hM13 (by omega) (by omega) rfl ?_
          refine xa_top (y := u.1) rfl ?_
          refine xa_iastw (pc := 151) 1 dX10_item_151 (by omega) (by omega) hM8 (by omega) (by omega) rfl (fun h2 nh2 ch2 oh2 => ?_)
          have hM8 : h2.1 (k + 8) = xa_a 2 (xa_upf (F 8) 1 u.1) := ch2
          have hM0 : h2.1 k = xa_o 10 [xa_i (s 0), xa_r (k + 1), xa_r (k + 2), xa_r (k + 3), xa_r (k + 4), xa_r (k + 5), xa_r (k + 6), xa_r (k + 7), xa_r (k + 8), xa_r (k + 9), xa_r (k + 10), xa_r (k + 11), xa_r (k + 12), xa_i (s 13), xa_i (s 14), xa_i ((u.2 + 1 : Nat) : Int), xa_r (k + 13), xa_i (s 17), xa_i (s 18), xa_i (s 19), xa_i (s 20), xa_r (k + 14), xa_r (k + 15), xa_i (s 23), xa_r (k + 16)] := (oh2 _ (by omega)).trans hM0
          have hM1 : h2.1 (k + 1) = xa_a 120 (F 1) := (oh2 _ (by omega)).trans hM1
          have hM2 : h2.1 (k + 2) = xa_a 2 (F 2) := (oh2 _ (by omega)).trans hM2
          have hM3 : h2.1 (k + 3) = xa_a 18 (F 3) := (oh2 _ (by omega)).trans hM3
          have hM4 : h2.1 (k + 4) = xa_a 2 (F 4) := (oh2 _ (by omega)).trans hM4
          have hM5 : h2.1 (k + 5) = xa_a 4 (F 5) := (oh2 _ (by omega)).trans hM5
          have hM6 : h2.1 (k + 6) = xa_a 4 (F 6) := (oh2 _ (by omega)).trans hM6
          have hM7 : h2.1 (k + 7) = xa_a 2 (F 7) := (oh2 _ (by omega)).trans hM7
          have hM9 : h2.1 (k + 9) = xa_a 12 (F 9) := (oh2 _ (by omega)).trans hM9
          have hM10 : h2.1 (k + 10) = xa_a 720 (F 10) := (oh2 _ (by omega)).trans hM10
          have hM11 : h2.1 (k + 11) = xa_a 3 (F 11) := (oh2 _ (by omega)).trans hM11
          have hM12 : h2.1 (k + 12) = xa_a 360 (F 12) := (oh2 _ (by omega)).trans hM12
          have hM13 : h2.1 (k + 13) = xa_a 3 (xa_upf (F 13) 0 u.1) := (oh2 _ (by omega)).trans hM13
          have hM14 : h2.1 (k + 14) = xa_a 583200 (F 14) := (oh2 _ (by omega)).trans hM14
          have hM15 : h2.1 (k + 15) = xa_a 583200 (F 15) := (oh2 _ (by omega)).trans hM15
          have hM16 : h2.1 (k + 16) = xa_a 4 (F 16) := (oh2 _ (by omega)).trans hM16
          have hn : h2.2 = h.2 := nh2.trans hn
          have fr : ∀ i, (i < k ∨ k + 17 ≤ i) → h2.1 i = h.1 i := fun i hi => (oh2 i (by omega)).trans (fr i hi)
          refine xa_iconst (pc := 152) dX10_item_152 ?_
          refine xa_ireturn (pc := 153) dX10_item_153 rfl (Or.inr rfl) ?_
          obtain ⟨b', e1, e2, e3, e4⟩ := mD_e (v := u.1) (nu := xa_upf (F 13) 0 u.1) hD hBd ⟨by omega, by omega⟩
          exact ⟨Or.inl ⟨_, b', _, by rw [rd_item1 (eq.trans w_20_101) (by decide), hu]; show (Option.map _ _) = _; rw [e1]; rfl, rfl, e2, e3, e4, ⟨hM0, hM1, hM2, hM3, hM4, hM5, hM6, hM7, hM8, hM9, hM10, hM11, hM12, hM13, hM14, hM15, hM16, by omega, by omega⟩⟩, hn, fr⟩
        · have c_135 := xa_b0.mp c_135
          refine xa_iconst (pc := 138) dX10_item_138 ?_
          refine xa_ireturn (pc := 139) dX10_item_139 rfl (Or.inl rfl) ?_
          exact ⟨Or.inr ⟨by rw [rd_item1 (eq.trans w_20_101) (by decide), hu]; show (Option.map _ _) = _; rw [mD_e_no (by omega)]; rfl, rfl, xa_uF F 13 (xa_upf (F 13) 0 u.1), _, hBd, mFr_num F _, ⟨hM0, hM1, hM2, hM3, hM4, hM5, hM6, hM7, hM8, hM9, hM10, hM11, hM12, hM13, hM14, hM15, hM16, by omega, by omega⟩⟩, hn, fr⟩
    · skip
      have hn : h'.2 = h.2 := hqn.trans hn
      have fr : ∀ i, (i < k ∨ k + 17 ≤ i) → h'.1 i = h.1 i := fun i hi => (hqf i (by omega)).trans (fr i hi)
      refine xa_if_eq (pc := 118) (tgt := 138) dX10_item_118 (by decide) (by decide) (fun c_118 => ?_) (fun c_118 => ?_)
      · skip
        refine xa_iconst (pc := 138) dX10_item_138 ?_
        refine xa_ireturn (pc := 139) dX10_item_139 rfl (Or.inl rfl) ?_
        exact ⟨Or.inr ⟨by rw [rd_item1 (eq.trans w_20_101) (by decide), hu]; rfl, rfl, xa_uF F 13 nu, _, hBd, mFr_num F nu, hM.p15⟩, hn, fr⟩
      · skip
        exfalso; omega
  by_cases w_20_106 : q = 106
  · refine xa_lookup (pc := 20) (off := 57) (tgt := 77) dX10_item_20 rfl ⟨by omega, by omega⟩ (by rw [w_20_106]; rfl) (by decide) ?_
    refine xa_aload_n (pc := 77) dX10_item_77 rfl ?_
    refine xa_iconst (pc := 78) dX10_item_78 ?_
    refine xa_callV (pc := 79) (as := [xa_i 0]) (rest := []) dX10_item_79 ⟨qX10_jointItem.1, qX10_jointItem.2.1, qX10_jointItem.2.2, by decide, by decide⟩ lkRX10_99 imX10_jointItem seX10_jointItem rfl rfl (by omega) (by omega) hM0 rfl (Nat.le_of_ble_eq_true rfl) (Nat.zero_le _) (Nat.zero_le _) (c_jointItem0 _ n (p + 1) F (xa_upf s 15 ((p + 1 : Nat) : Int)) hs0 hn9 hf rfl (by omega) hBd.2.1 hBd.2.2.1 hBd.2.2.2.1 ⟨hM0, hM1, hM2, hM3, hM4, hM5, hM6, hM7, hM8, hM9, hM10, hM11, hM12, hM13, hM14, hM15, hM16, by omega, by omega⟩) (fun r h' hq => ?_)
    obtain ⟨hq, hq2⟩ := hq
    rcases hq with ⟨u, hu, hc, rfl, hM⟩ | ⟨hu, rfl, nu, d5, w6, j4, x, g1, g2, hM⟩
    · skip
      obtain ⟨hqn, hqf⟩ := hq2
      have hn : h'.2 = h.2 := hqn.trans hn
      have fr : ∀ i, (i < k ∨ k + 17 ≤ i) → h'.1 i = h.1 i := fun i hi => (hqf i (by omega)).trans (fr i hi)
      refine xa_ireturn (pc := 82) dX10_item_82 rfl (Or.inr rfl) ?_
      obtain ⟨b', e1, e2, e3, e4⟩ := mD_joint0 (nu := _) hv hD hBd hc
      exact ⟨Or.inl ⟨_, b', _, by rw [rd_item1 (eq.trans w_20_106) (by decide), hu]; show (Option.map _ _) = _; rw [e1]; rfl, rfl, e2, e3, e4, hM.p15⟩, hn, fr⟩
    · skip
      obtain ⟨hqn, hqf⟩ := hq2
      have hn : h'.2 = h.2 := hqn.trans hn
      have fr : ∀ i, (i < k ∨ k + 17 ≤ i) → h'.1 i = h.1 i := fun i hi => (hqf i (by omega)).trans (fr i hi)
      refine xa_ireturn (pc := 82) dX10_item_82 rfl (Or.inl rfl) ?_
      have en : rd_item n (F 1) p b = none := by
        rw [rd_item1 (eq.trans w_20_106) (by decide)]
        rcases hu with hu | ⟨u, hu, hc⟩
        · rw [show fg1 n (F 1) (p + 1) = none from hu]; rfl
        · rw [show fg1 n (F 1) (p + 1) = some u from hu]; show (Option.map _ _) = _; rw [mD_joint0_no hv hD hc]; rfl
      exact ⟨Or.inr ⟨en, rfl, xa_uF (xa_uF (xa_uF (xa_uF F 13 nu) 5 d5) 6 w6) 4 j4, _, ⟨hBd.1, g1.1, g1.2.1, g1.2.2, hBd.2.2.2.2⟩, ⟨⟨rfl, rfl, rfl, rfl, rfl, rfl, rfl, rfl⟩, rfl, g2.2.2, fun _ _ => rfl, g2.1, g2.2.1, rfl, rfl⟩, hM.p15⟩, hn, fr⟩
  by_cases w_20_108 : q = 108
  · refine xa_lookup (pc := 20) (off := 69) (tgt := 89) dX10_item_20 rfl ⟨by omega, by omega⟩ (by rw [w_20_108]; rfl) (by decide) ?_
    refine xa_aload_n (pc := 89) dX10_item_89 rfl ?_
    refine xa_iconst (pc := 90) dX10_item_90 ?_
    refine xa_callV (pc := 91) (as := [xa_i 1]) (rest := []) dX10_item_91 ⟨qX10_figures.1, qX10_figures.2.1, qX10_figures.2.2, by decide, by decide⟩ lkRX10_87 imX10_figures seX10_figures rfl rfl (by omega) (by omega) hM0 rfl (Nat.le_of_ble_eq_true rfl) (Nat.zero_le _) (Nat.zero_le _) (c_figures1 _ n (p + 1) F (xa_upf s 15 ((p + 1 : Nat) : Int)) hs0 hn9 hf rfl (by omega) ⟨hM0, hM1, hM2, hM3, hM4, hM5, hM6, hM7, hM8, hM9, hM10, hM11, hM12, hM13, hM14, hM15, hM16, by omega, by omega⟩) (fun r h' hq => ?_)
    rcases hq with ⟨u, hu, rfl, hM, hqn, hqf⟩ | ⟨hu, rfl, nu, x, hM, hqn, hqf⟩
    · skip
      obtain ⟨hM0, hM1, hM2, hM3, hM4, hM5, hM6, hM7, hM8, hM9, hM10, hM11, hM12, hM13, hM14, hM15, hM16, hMk, hMn⟩ := hM
      have hM0 : h'.1 k = xa_o 10 [xa_i (s 0), xa_r (k + 1), xa_r (k + 2), xa_r (k + 3), xa_r (k + 4), xa_r (k + 5), xa_r (k + 6), xa_r (k + 7), xa_r (k + 8), xa_r (k + 9), xa_r (k + 10), xa_r (k + 11), xa_r (k + 12), xa_i (s 13), xa_i (s 14), xa_i ((u.2 + 1 : Nat) : Int), xa_r (k + 13), xa_i (s 17), xa_i (s 18), xa_i (s 19), xa_i (s 20), xa_r (k + 14), xa_r (k + 15), xa_i (s 23), xa_r (k + 16)] := hM0
      have hM1 : h'.1 (k + 1) = xa_a 120 (F 1) := hM1
      have hM2 : h'.1 (k + 2) = xa_a 2 (F 2) := hM2
      have hM3 : h'.1 (k + 3) = xa_a 18 (F 3) := hM3
      have hM4 : h'.1 (k + 4) = xa_a 2 (F 4) := hM4
      have hM5 : h'.1 (k + 5) = xa_a 4 (F 5) := hM5
      have hM6 : h'.1 (k + 6) = xa_a 4 (F 6) := hM6
      have hM7 : h'.1 (k + 7) = xa_a 2 (F 7) := hM7
      have hM8 : h'.1 (k + 8) = xa_a 2 (F 8) := hM8
      have hM9 : h'.1 (k + 9) = xa_a 12 (F 9) := hM9
      have hM10 : h'.1 (k + 10) = xa_a 720 (F 10) := hM10
      have hM11 : h'.1 (k + 11) = xa_a 3 (F 11) := hM11
      have hM12 : h'.1 (k + 12) = xa_a 360 (F 12) := hM12
      have hM13 : h'.1 (k + 13) = xa_a 3 (xa_upf (F 13) 0 u.1) := hM13
      have hM14 : h'.1 (k + 14) = xa_a 583200 (F 14) := hM14
      have hM15 : h'.1 (k + 15) = xa_a 583200 (F 15) := hM15
      have hM16 : h'.1 (k + 16) = xa_a 4 (F 16) := hM16
      have hn : h'.2 = h.2 := hqn.trans hn
      have fr : ∀ i, (i < k ∨ k + 17 ≤ i) → h'.1 i = h.1 i := fun i hi => (hqf i (by omega)).trans (fr i hi)
      have hub := fg1_b hu
      refine xa_if_ne (pc := 94) (tgt := 99) dX10_item_94 (by decide) (by decide) (fun c_94 => ?_) (fun c_94 => ?_)
      · skip
        refine xa_aload_n (pc := 99) dX10_item_99 rfl ?_
        refine xa_getfield (pc := 100) dX10_item_100 flRX10_28 (by omega) (by omega) hM0 rfl ?_
        refine xa_iconst (pc := 103) dX10_item_103 ?_
        refine xa_aload_n (pc := 104) dX10_item_104 rfl ?_
        refine xa_getfield (pc := 105) dX10_item_105 flRX10_46 (by omega) (by omega) hM0 rfl ?_
        refine xa_iconst (pc := 108) dX10_item_108 ?_
        refine xa_ialdw (pc := 109) 0 dX10_item_109 (by omega) hM13 (by omega) (by omega) rfl ?_
        refine xa_top (y := u.1) rfl ?_
        refine xa_iastw (pc := 110) 1 dX10_item_110 (by omega) (by omega) hM7 (by omega) (by omega) rfl (fun h3 nh3 ch3 oh3 => ?_)
        have hM7 : h3.1 (k + 7) = xa_a 2 (xa_upf (F 7) 1 u.1) := ch3
        have hM0 : h3.1 k = xa_o 10 [xa_i (s 0), xa_r (k + 1), xa_r (k + 2), xa_r (k + 3), xa_r (k + 4), xa_r (k + 5), xa_r (k + 6), xa_r (k + 7), xa_r (k + 8), xa_r (k + 9), xa_r (k + 10), xa_r (k + 11), xa_r (k + 12), xa_i (s 13), xa_i (s 14), xa_i ((u.2 + 1 : Nat) : Int), xa_r (k + 13), xa_i (s 17), xa_i (s 18), xa_i (s 19), xa_i (s 20), xa_r (k + 14), xa_r (k + 15), xa_i (s 23), xa_r (k + 16)] := (oh3 _ (by omega)).trans hM0
        have hM1 : h3.1 (k + 1) = xa_a 120 (F 1) := (oh3 _ (by omega)).trans hM1
        have hM2 : h3.1 (k + 2) = xa_a 2 (F 2) := (oh3 _ (by omega)).trans hM2
        have hM3 : h3.1 (k + 3) = xa_a 18 (F 3) := (oh3 _ (by omega)).trans hM3
        have hM4 : h3.1 (k + 4) = xa_a 2 (F 4) := (oh3 _ (by omega)).trans hM4
        have hM5 : h3.1 (k + 5) = xa_a 4 (F 5) := (oh3 _ (by omega)).trans hM5
        have hM6 : h3.1 (k + 6) = xa_a 4 (F 6) := (oh3 _ (by omega)).trans hM6
        have hM8 : h3.1 (k + 8) = xa_a 2 (F 8) := (oh3 _ (by omega)).trans hM8
        have hM9 : h3.1 (k + 9) = xa_a 12 (F 9) := (oh3 _ (by omega)).trans hM9
        have hM10 : h3.1 (k + 10) = xa_a 720 (F 10) := (oh3 _ (by omega)).trans hM10
        have hM11 : h3.1 (k + 11) = xa_a 3 (F 11) := (oh3 _ (by omega)).trans hM11
        have hM12 : h3.1 (k + 12) = xa_a 360 (F 12) := (oh3 _ (by omega)).trans hM12
        have hM13 : h3.1 (k + 13) = xa_a 3 (xa_upf (F 13) 0 u.1) := (oh3 _ (by omega)).trans hM13
        have hM14 : h3.1 (k + 14) = xa_a 583200 (F 14) := (oh3 _ (by omega)).trans hM14
        have hM15 : h3.1 (k + 15) = xa_a 583200 (F 15) := (oh3 _ (by omega)).trans hM15
        have hM16 : h3.1 (k + 16) = xa_a 4 (F 16) := (oh3 _ (by omega)).trans hM16
        have hn : h3.2 = h.2 := nh3.trans hn
        have fr : ∀ i, (i < k ∨ k + 17 ≤ i) → h3.1 i = h.1 i := fun i hi => (oh3 i (by omega)).trans (fr i hi)
        refine xa_iconst (pc := 111) dX10_item_111 ?_
        refine xa_ireturn (pc := 112) dX10_item_112 rfl (Or.inr rfl) ?_
        obtain ⟨b', e1, e2, e3, e4⟩ := mD_l (v := u.1) (nu := xa_upf (F 13) 0 u.1) hD hBd hub.1
        exact ⟨Or.inl ⟨_, b', _, by rw [rd_item1 (eq.trans w_20_108) (by decide), hu]; exact congrArg (Option.map fun b2 => (u.2 + 1, b2)) e1, rfl, e2, e3, e4, ⟨hM0, hM1, hM2, hM3, hM4, hM5, hM6, hM7, hM8, hM9, hM10, hM11, hM12, hM13, hM14, hM15, hM16, by omega, by omega⟩⟩, hn, fr⟩
      · skip
        exfalso; omega
    · skip
      have hn : h'.2 = h.2 := hqn.trans hn
      have fr : ∀ i, (i < k ∨ k + 17 ≤ i) → h'.1 i = h.1 i := fun i hi => (hqf i (by omega)).trans (fr i hi)
      refine xa_if_ne (pc := 94) (tgt := 99) dX10_item_94 (by decide) (by decide) (fun c_94 => ?_) (fun c_94 => ?_)
      · skip
        exfalso; omega
      · skip
        refine xa_iconst (pc := 97) dX10_item_97 ?_
        refine xa_ireturn (pc := 98) dX10_item_98 rfl (Or.inl rfl) ?_
        exact ⟨Or.inr ⟨by rw [rd_item1 (eq.trans w_20_108) (by decide), hu]; rfl, rfl, xa_uF F 13 nu, _, hBd, mFr_num F nu, hM.p15⟩, hn, fr⟩
  by_cases w_20_112 : q = 112
  · refine xa_lookup (pc := 20) (off := 52) (tgt := 72) dX10_item_20 rfl ⟨by omega, by omega⟩ (by rw [w_20_112]; rfl) (by decide) ?_
    refine xa_aload_n (pc := 72) dX10_item_72 rfl ?_
    refine xa_callV (pc := 73) (as := []) (rest := []) dX10_item_73 ⟨qX10_partItem.1, qX10_partItem.2.1, qX10_partItem.2.2, by decide, by decide⟩ lkRX10_95 imX10_partItem seX10_partItem rfl rfl (by omega) (by omega) hM0 rfl (Nat.le_of_ble_eq_true rfl) (Nat.zero_le _) (Nat.zero_le _) (c_partItem _ n (p + 1) F (xa_upf s 15 ((p + 1 : Nat) : Int)) hs0 hn9 hf rfl (by omega) hBd.1 (hBd.2.2.2.2.1 1) ⟨hM0, hM1, hM2, hM3, hM4, hM5, hM6, hM7, hM8, hM9, hM10, hM11, hM12, hM13, hM14, hM15, hM16, by omega, by omega⟩) (fun r h' hq => ?_)
    obtain ⟨hq, hq2⟩ := hq
    rcases hq with ⟨u, hu, hc, rfl, hM⟩ | ⟨hu, rfl, nu, l3, x, g1, g2, hM⟩
    · skip
      obtain ⟨hqn, hqf⟩ := hq2
      have hn : h'.2 = h.2 := hqn.trans hn
      have fr : ∀ i, (i < k ∨ k + 17 ≤ i) → h'.1 i = h.1 i := fun i hi => (hqf i (by omega)).trans (fr i hi)
      refine xa_ireturn (pc := 76) dX10_item_76 rfl (Or.inr rfl) ?_
      obtain ⟨b', e1, e2, e3, e4⟩ := mD_part (nu := _) hv hD hBd hc
      exact ⟨Or.inl ⟨_, b', _, by rw [rd_item3 (eq.trans w_20_112), hu]; show (Option.map _ _) = _; rw [e1]; rfl, rfl, e2, e3, e4, hM.p15⟩, hn, fr⟩
    · skip
      obtain ⟨hqn, hqf⟩ := hq2
      have hn : h'.2 = h.2 := hqn.trans hn
      have fr : ∀ i, (i < k ∨ k + 17 ≤ i) → h'.1 i = h.1 i := fun i hi => (hqf i (by omega)).trans (fr i hi)
      refine xa_ireturn (pc := 76) dX10_item_76 rfl (Or.inl rfl) ?_
      have en : rd_item n (F 1) p b = none := by
        rw [rd_item3 (eq.trans w_20_112)]
        rcases hu with hu | ⟨u, hu, hc⟩
        · rw [show fg3 n (F 1) (p + 1) = none from hu]; rfl
        · rw [show fg3 n (F 1) (p + 1) = some u from hu]; show (Option.map _ _) = _; rw [mD_part_no hv hD hc]; rfl
      exact ⟨Or.inr ⟨en, rfl, xa_uF (xa_uF F 13 nu) 3 l3, _, ⟨g1, hBd.2⟩, ⟨⟨rfl, rfl, rfl, rfl, rfl, rfl, rfl, rfl⟩, rfl, rfl, g2, fun _ _ => rfl, fun _ _ => rfl, rfl, rfl⟩, hM.p15⟩, hn, fr⟩
  by_cases w_20_119 : q = 119
  · refine xa_lookup (pc := 20) (off := 63) (tgt := 83) dX10_item_20 rfl ⟨by omega, by omega⟩ (by rw [w_20_119]; rfl) (by decide) ?_
    refine xa_aload_n (pc := 83) dX10_item_83 rfl ?_
    refine xa_iconst (pc := 84) dX10_item_84 ?_
    refine xa_callV (pc := 85) (as := [xa_i 1]) (rest := []) dX10_item_85 ⟨qX10_jointItem.1, qX10_jointItem.2.1, qX10_jointItem.2.2, by decide, by decide⟩ lkRX10_99 imX10_jointItem seX10_jointItem rfl rfl (by omega) (by omega) hM0 rfl (Nat.le_of_ble_eq_true rfl) (Nat.zero_le _) (Nat.zero_le _) (c_jointItem1 _ n (p + 1) F (xa_upf s 15 ((p + 1 : Nat) : Int)) hs0 hn9 hf rfl (by omega) hBd.2.1 hBd.2.2.1 hBd.2.2.2.1 ⟨hM0, hM1, hM2, hM3, hM4, hM5, hM6, hM7, hM8, hM9, hM10, hM11, hM12, hM13, hM14, hM15, hM16, by omega, by omega⟩) (fun r h' hq => ?_)
    obtain ⟨hq, hq2⟩ := hq
    rcases hq with ⟨u, hu, hc, rfl, hM⟩ | ⟨hu, rfl, nu, d5, w6, j4, x, g1, g2, hM⟩
    · skip
      obtain ⟨hqn, hqf⟩ := hq2
      have hn : h'.2 = h.2 := hqn.trans hn
      have fr : ∀ i, (i < k ∨ k + 17 ≤ i) → h'.1 i = h.1 i := fun i hi => (hqf i (by omega)).trans (fr i hi)
      refine xa_ireturn (pc := 88) dX10_item_88 rfl (Or.inr rfl) ?_
      obtain ⟨b', e1, e2, e3, e4⟩ := mD_joint1 (nu := _) hv hD hBd hc
      exact ⟨Or.inl ⟨_, b', _, by rw [rd_item1 (eq.trans w_20_119) (by decide), hu]; show (Option.map _ _) = _; rw [e1]; rfl, rfl, e2, e3, e4, hM.p15⟩, hn, fr⟩
    · skip
      obtain ⟨hqn, hqf⟩ := hq2
      have hn : h'.2 = h.2 := hqn.trans hn
      have fr : ∀ i, (i < k ∨ k + 17 ≤ i) → h'.1 i = h.1 i := fun i hi => (hqf i (by omega)).trans (fr i hi)
      refine xa_ireturn (pc := 88) dX10_item_88 rfl (Or.inl rfl) ?_
      have en : rd_item n (F 1) p b = none := by
        rw [rd_item1 (eq.trans w_20_119) (by decide)]
        rcases hu with hu | ⟨u, hu, hc⟩
        · rw [show fg1 n (F 1) (p + 1) = none from hu]; rfl
        · rw [show fg1 n (F 1) (p + 1) = some u from hu]; show (Option.map _ _) = _; rw [mD_joint1_no hv hD hc]; rfl
      exact ⟨Or.inr ⟨en, rfl, xa_uF (xa_uF (xa_uF (xa_uF F 13 nu) 5 d5) 6 w6) 4 j4, _, ⟨hBd.1, g1.1, g1.2.1, g1.2.2, hBd.2.2.2.2⟩, ⟨⟨rfl, rfl, rfl, rfl, rfl, rfl, rfl, rfl⟩, rfl, g2.2.2, fun _ _ => rfl, g2.1, g2.2.1, rfl, rfl⟩, hM.p15⟩, hn, fr⟩
  refine xa_lookup (pc := 20) (off := 134) (tgt := 154) dX10_item_20 rfl ⟨by omega, by omega⟩ (by simp [Op.lookupswitch.offset, Ne.symm w_20_101, Ne.symm w_20_106, Ne.symm w_20_108, Ne.symm w_20_112, Ne.symm w_20_119]) (by decide) ?_
  refine xa_iconst (pc := 154) dX10_item_154 ?_
  refine xa_ireturn (pc := 155) dX10_item_155 rfl (Or.inl rfl) ?_
  have en : rd_item n (F 1) p b = none := by
    rw [rd_item1 eq w_20_112]
    cases fg1 n (F 1) (p + 1) with
    | none => rfl
    | some u => show (Option.map _ _) = _; rw [mD_other w_20_112 w_20_106 w_20_119 w_20_108 w_20_101]; rfl
  exact ⟨Or.inr ⟨en, rfl, F, _, hBd, mFr.rfl F, ⟨hM0, hM1, hM2, hM3, hM4, hM5, hM6, hM7, hM8, hM9, hM10, hM11, hM12, hM13, hM14, hM15, hM16, by omega, by omega⟩⟩, hn, fr⟩
