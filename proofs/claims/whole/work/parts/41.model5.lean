/-! The model: three figures -/
set_option maxHeartbeats 8000000 in
theorem c_fig3_2 {G : xa_G} {h0 h : xa_H} {g3 g4 g5 : Option xa_V} {k n p : Nat} {F : Nat → Nat → Int} {s : Nat → Int} {v0 : Int} {a0 : Nat} {v1 : Int} {a1 : Nat} (hs0 : s 0 = (n : Int)) (hn9 : n ≤ 120) (hf : ∀ i, 0 ≤ F 1 i ∧ F 1 i ≤ 255) (hp9 : p ≤ 200) (hk : 2 ≤ k) (hkn : k + 16 < h.2) (e0 : rd_num n (F 1) p = some (v0, a0)) (g0 : sp_at n (F 1) ((a0 : Nat) : Int) = 44) (l0 : a0 ≤ 220) (e1 : rd_num n (F 1) (a0 + 1) = some (v1, a1)) (g1 : sp_at n (F 1) ((a1 : Nat) : Int) = 44) (l1 : a1 ≤ 240) (hM0 : h.1 k = xa_o 10 [xa_i (s 0), xa_r (k + 1), xa_r (k + 2), xa_r (k + 3), xa_r (k + 4), xa_r (k + 5), xa_r (k + 6), xa_r (k + 7), xa_r (k + 8), xa_r (k + 9), xa_r (k + 10), xa_r (k + 11), xa_r (k + 12), xa_i (s 13), xa_i (s 14), xa_i ((a1 + 1 : Nat) : Int), xa_r (k + 13), xa_i (s 17), xa_i (s 18), xa_i (s 19), xa_i (s 20), xa_r (k + 14), xa_r (k + 15), xa_i (s 23), xa_r (k + 16)]) (hM1 : h.1 (k + 1) = xa_a 120 (F 1)) (hM2 : h.1 (k + 2) = xa_a 2 (F 2)) (hM3 : h.1 (k + 3) = xa_a 18 (F 3)) (hM4 : h.1 (k + 4) = xa_a 2 (F 4)) (hM5 : h.1 (k + 5) = xa_a 4 (F 5)) (hM6 : h.1 (k + 6) = xa_a 4 (F 6)) (hM7 : h.1 (k + 7) = xa_a 2 (F 7)) (hM8 : h.1 (k + 8) = xa_a 2 (F 8)) (hM9 : h.1 (k + 9) = xa_a 12 (F 9)) (hM10 : h.1 (k + 10) = xa_a 720 (F 10)) (hM11 : h.1 (k + 11) = xa_a 3 (F 11)) (hM12 : h.1 (k + 12) = xa_a 360 (F 12)) (hM13 : h.1 (k + 13) = xa_a 3 (xa_upf (xa_upf (F 13) 0 v0) 1 v1)) (hM14 : h.1 (k + 14) = xa_a 583200 (F 14)) (hM15 : h.1 (k + 15) = xa_a 583200 (F 15)) (hM16 : h.1 (k + 16) = xa_a 4 (F 16)) (hn : h.2 = h0.2) (fr : ∀ i, (i < k ∨ k + 17 ≤ i) → h.1 i = h0.1 i)  : xa_W G mX10_figures (xa_Z G (fun r h' => ((∃ u, fg3 n (F 1) p = some u ∧ r = some (xa_i 1) ∧ xM h' k (xa_uF F 13 (xa_upf (xa_upf (xa_upf (F 13) 0 u.1) 1 u.2.1) 2 u.2.2.1)) (xa_upf s 15 ((u.2.2.2 + 1 : Nat) : Int)) ∧ h'.2 = h0.2 ∧ ∀ i, (i < k ∨ k + 17 ≤ i) → h'.1 i = h0.1 i) ∨ (fg3 n (F 1) p = none ∧ r = some (xa_i 0) ∧ ∃ (nu : Nat → Int) (x : Int), xM h' k (xa_uF F 13 nu) (xa_upf s 15 x) ∧ h'.2 = h0.2 ∧ ∀ i, (i < k ∨ k + 17 ≤ i) → h'.1 i = h0.1 i)))) 2 [some (xa_r k), some (xa_i 3), some (xa_i 2), g3, g4, g5] [] h 0 0 := by
  refine xa_iload_n (pc := 2) dX10_figures_2 rfl ?_
  refine xa_iload_n (pc := 3) dX10_figures_3 rfl ?_
  refine xa_icmp_ge (pc := 4) (tgt := 195) dX10_figures_4 (by decide) (by decide) (by decide) (fun c_4 => ?_) (fun c_4 => ?_)
  · skip
    exfalso; omega
  · skip
    refine xa_aload_n (pc := 7) dX10_figures_7 rfl ?_
    refine xa_aload_n (pc := 8) dX10_figures_8 rfl ?_
    refine xa_getfield (pc := 9) dX10_figures_9 flRX10_74 (by omega) (by omega) hM0 rfl ?_
    refine xa_callV (pc := 12) (as := [xa_i ((a1 + 1 : Nat) : Int)]) (rest := []) dX10_figures_12 ⟨qX10_byteAt.1, qX10_byteAt.2.1, qX10_byteAt.2.2, by decide, by decide⟩ lkRX10_77 imX10_byteAt seX10_byteAt rfl rfl (by omega) (by omega) hM0 rfl (Nat.le_of_ble_eq_true rfl) (Nat.zero_le _) (Nat.zero_le _) (c_mByteN _ n (a1 + 1) (xa_uF F 13 (xa_upf (xa_upf (F 13) 0 v0) 1 v1)) (xa_upf s 15 ((a1 + 1 : Nat) : Int)) (by omega) hs0 hn9 ⟨hM0, hM1, hM2, hM3, hM4, hM5, hM6, hM7, hM8, hM9, hM10, hM11, hM12, hM13, hM14, hM15, hM16, by omega, by omega⟩) (fun r h' hq => ?_)
    obtain ⟨⟨y12_1, rfl, by12_1⟩, hq⟩ := hq
    have by12_1 : y12_1 = sp_at n (F 1) ((a1 + 1 : Nat) : Int) ∨ y12_1 = 0 ∧ sp_at n (F 1) ((a1 + 1 : Nat) : Int) = -1 := by12_1
    have hq := hq.symm
    subst hq
    have ay12_1 := sp_at_b (n := n) hf ((a1 + 1 : Nat) : Int)
    refine xa_bipush (pc := 15) dX10_figures_15 rfl ?_
    refine xa_icmp_ne (pc := 17) (tgt := 24) dX10_figures_17 (by decide) ⟨by omega, by omega⟩ (by decide) (fun c_17 => ?_) (fun c_17 => ?_)
    · skip
      refine xa_iconst (pc := 24) dX10_figures_24 ?_
      refine xa_istoren (pc := 25) [some (xa_r k), some (xa_i 3), some (xa_i 2), some (xa_i 0), g4, g5] dX10_figures_25 (by decide) (Nat.le_of_ble_eq_true rfl) rfl rfl ?_
      refine xa_aload_n (pc := 26) dX10_figures_26 rfl ?_
      refine xa_dup (pc := 27) dX10_figures_27 rfl ?_
      refine xa_getfield (pc := 28) dX10_figures_28 flRX10_74 (by omega) (by omega) hM0 rfl ?_
      refine xa_iload_n (pc := 31) dX10_figures_31 rfl ?_
      refine xa_if_eq (pc := 32) (tgt := 39) dX10_figures_32 (by decide) (by decide) (fun c_32 => ?_) (fun c_32 => ?_)
      · skip
        refine xa_iconst (pc := 39) dX10_figures_39 ?_
        refine xa_iadd (pc := 40) dX10_figures_40 ?_
        refine xa_top (y := ((a1 + 1 + 0 : Nat) : Int)) (by omega) ?_
        refine xa_putw (pc := 41) [xa_i (s 0), xa_r (k + 1), xa_r (k + 2), xa_r (k + 3), xa_r (k + 4), xa_r (k + 5), xa_r (k + 6), xa_r (k + 7), xa_r (k + 8), xa_r (k + 9), xa_r (k + 10), xa_r (k + 11), xa_r (k + 12), xa_i (s 13), xa_i (s 14), xa_i ((a1 + 1 + 0 : Nat) : Int), xa_r (k + 13), xa_i (s 17), xa_i (s 18), xa_i (s 19), xa_i (s 20), xa_r (k + 14), xa_r (k + 15), xa_i (s 23), xa_r (k + 16)] dX10_figures_41 flRX10_74 plX10_15 (by omega) (by omega) hM0 trivial rfl (fun h2 nh2 ch2 oh2 => ?_)
        have hM0 : h2.1 k = xa_o 10 [xa_i (s 0), xa_r (k + 1), xa_r (k + 2), xa_r (k + 3), xa_r (k + 4), xa_r (k + 5), xa_r (k + 6), xa_r (k + 7), xa_r (k + 8), xa_r (k + 9), xa_r (k + 10), xa_r (k + 11), xa_r (k + 12), xa_i (s 13), xa_i (s 14), xa_i ((a1 + 1 + 0 : Nat) : Int), xa_r (k + 13), xa_i (s 17), xa_i (s 18), xa_i (s 19), xa_i (s 20), xa_r (k + 14), xa_r (k + 15), xa_i (s 23), xa_r (k + 16)] := ch2
        have hM1 : h2.1 (k + 1) = xa_a 120 (F 1) := (oh2 _ (by omega)).trans hM1
        have hM2 : h2.1 (k + 2) = xa_a 2 (F 2) := (oh2 _ (by omega)).trans hM2
        have hM3 : h2.1 (k + 3) = xa_a 18 (F 3) := (oh2 _ (by omega)).trans hM3
        have hM4 : h2.1 (k + 4) = xa_a 2 (F 4) := (oh2 _ (by omega)).trans hM4
        have hM5 : h2.1 (k + 5) = xa_a 4 (F 5) := (oh2 _ (by omega)).trans hM5
        have hM6 : h2.1 (k + 6) = xa_a 4 (F 6) := (oh2 _ (by omega)).trans hM6
        have hM7 : h2.1 (k + 7) = xa_a 2 (F 7) := (oh2 _ (by omega)).trans hM7
        have hM8 : h2.1 (k + 8) = xa_a 2 (F 8) := (oh2 _ (by omega)).trans hM8
        have hM9 : h2.1 (k + 9) = xa_a 12 (F 9) := (oh2 _ (by omega)).trans hM9
        have hM10 : h2.1 (k + 10) = xa_a 720 (F 10) := (oh2 _ (by omega)).trans hM10
        have hM11 : h2.1 (k + 11) = xa_a 3 (F 11) := (oh2 _ (by omega)).trans hM11
        have hM12 : h2.1 (k + 12) = xa_a 360 (F 12) := (oh2 _ (by omega)).trans hM12
        have hM13 : h2.1 (k + 13) = xa_a 3 (xa_upf (xa_upf (F 13) 0 v0) 1 v1) := (oh2 _ (by omega)).trans hM13
        have hM14 : h2.1 (k + 14) = xa_a 583200 (F 14) := (oh2 _ (by omega)).trans hM14
        have hM15 : h2.1 (k + 15) = xa_a 583200 (F 15) := (oh2 _ (by omega)).trans hM15
        have hM16 : h2.1 (k + 16) = xa_a 4 (F 16) := (oh2 _ (by omega)).trans hM16
        have hn : h2.2 = h0.2 := nh2.trans hn
        have fr : ∀ i, (i < k ∨ k + 17 ≤ i) → h2.1 i = h0.1 i := fun i hi => (oh2 i (by omega)).trans (fr i hi)
        refine xa_iconst (pc := 44) dX10_figures_44 ?_
        refine xa_istorew (pc := 45) [some (xa_r k), some (xa_i 3), some (xa_i 2), some (xa_i 0), some (xa_i 0), g5] dX10_figures_45 (by decide) (Nat.le_of_ble_eq_true rfl) rfl rfl ?_
        refine xa_iconst (pc := 47) dX10_figures_47 ?_
        refine xa_istorew (pc := 48) [some (xa_r k), some (xa_i 3), some (xa_i 2), some (xa_i 0), some (xa_i 0), some (xa_i 0)] dX10_figures_48 (by decide) (Nat.le_of_ble_eq_true rfl) rfl rfl ?_
        refine c_dig_loop (a := ((a1 + 1) + 0)) (F := (xa_uF F 13 (xa_upf (xa_upf (F 13) 0 v0) 1 v1))) (s := (xa_upf s 15 ((a1 + 1 + 0 : Nat) : Int))) (mn := 3) (kk := 2) (L := 0) (h0 := h2) (by omega) hs0 hn9 hf (by omega) (fun m2 hq2 hm2 hd2 ht2 hM hqn hqf => ?_) 6 0 _ (by omega) (by omega) (fun j hj => absurd hj (Nat.not_lt_zero _)) ⟨hM0, hM1, hM2, hM3, hM4, hM5, hM6, hM7, hM8, hM9, hM10, hM11, hM12, hM13, hM14, hM15, hM16, by omega, by omega⟩ rfl (fun _ _ => rfl)
        obtain ⟨hM0, hM1, hM2, hM3, hM4, hM5, hM6, hM7, hM8, hM9, hM10, hM11, hM12, hM13, hM14, hM15, hM16, hMk, hMn⟩ := hM
        have hM0 : hq2.1 k = xa_o 10 [xa_i (s 0), xa_r (k + 1), xa_r (k + 2), xa_r (k + 3), xa_r (k + 4), xa_r (k + 5), xa_r (k + 6), xa_r (k + 7), xa_r (k + 8), xa_r (k + 9), xa_r (k + 10), xa_r (k + 11), xa_r (k + 12), xa_i (s 13), xa_i (s 14), xa_i ((((a1 + 1) + 0) + m2 : Nat) : Int), xa_r (k + 13), xa_i (s 17), xa_i (s 18), xa_i (s 19), xa_i (s 20), xa_r (k + 14), xa_r (k + 15), xa_i (s 23), xa_r (k + 16)] := hM0
        have hM1 : hq2.1 (k + 1) = xa_a 120 (F 1) := hM1
        have hM2 : hq2.1 (k + 2) = xa_a 2 (F 2) := hM2
        have hM3 : hq2.1 (k + 3) = xa_a 18 (F 3) := hM3
        have hM4 : hq2.1 (k + 4) = xa_a 2 (F 4) := hM4
        have hM5 : hq2.1 (k + 5) = xa_a 4 (F 5) := hM5
        have hM6 : hq2.1 (k + 6) = xa_a 4 (F 6) := hM6
        have hM7 : hq2.1 (k + 7) = xa_a 2 (F 7) := hM7
        have hM8 : hq2.1 (k + 8) = xa_a 2 (F 8) := hM8
        have hM9 : hq2.1 (k + 9) = xa_a 12 (F 9) := hM9
        have hM10 : hq2.1 (k + 10) = xa_a 720 (F 10) := hM10
        have hM11 : hq2.1 (k + 11) = xa_a 3 (F 11) := hM11
        have hM12 : hq2.1 (k + 12) = xa_a 360 (F 12) := hM12
        have hM13 : hq2.1 (k + 13) = xa_a 3 (xa_upf (xa_upf (F 13) 0 v0) 1 v1) := hM13
        have hM14 : hq2.1 (k + 14) = xa_a 583200 (F 14) := hM14
        have hM15 : hq2.1 (k + 15) = xa_a 583200 (F 15) := hM15
        have hM16 : hq2.1 (k + 16) = xa_a 4 (F 16) := hM16
        have hn : hq2.2 = h0.2 := hqn.trans hn
        have fr : ∀ i, (i < k ∨ k + 17 ≤ i) → hq2.1 i = h0.1 i := fun i hi => (hqf i (by omega)).trans (fr i hi)
        have hd2 : ∀ j, j < m2 → sp_isd n (F 1) (((a1 + 1) + 0) + j) := hd2
        have ht2 : m2 = 5 ∨ ¬ sp_isd n (F 1) (((a1 + 1) + 0) + m2) := ht2
        refine xa_locals (ls' := [some (xa_r k), some (xa_i 3), some (xa_i 2), some (xa_i 0), some (xa_i ((m2 : Nat) : Int)), some (xa_i (sp_val n (F 1) ((a1 + 1) + 0) m2))]) rfl ?_
        have hg2 : sp_neg n (F 1) (a1 + 1) = 0 := by unfold sp_neg; first | exact if_pos (by omega) | exact if_neg (by omega)
        have z2 := rd_num_m (p := (a1 + 1)) (g := 0) hg2 hm2 hd2 ht2
        have hvp2 := sp_val_p n (F 1) ((a1 + 1) + 0) m2 hd2
        have hvm2 : m2 ≤ 4 → sp_val n (F 1) ((a1 + 1) + 0) m2 ≤ 9999 := fun q => (sp_val_b q hd2).2
        have hvx2 : (10 : Int) ^ m2 ≤ 100000 := by
          have e : m2 = 0 ∨ m2 = 1 ∨ m2 = 2 ∨ m2 = 3 ∨ m2 = 4 ∨ m2 = 5 := by omega
          rcases e with e | e | e | e | e | e <;> rw [e] <;> decide
        generalize hx2 : sp_val n (F 1) ((a1 + 1) + 0) m2 = x2 at z2 hvp2 hvm2 ⊢
        generalize ha2 : ((a1 + 1) + 0) + m2 = a2 at z2 ⊢
        have hM0 : hq2.1 k = xa_o 10 [xa_i (s 0), xa_r (k + 1), xa_r (k + 2), xa_r (k + 3), xa_r (k + 4), xa_r (k + 5), xa_r (k + 6), xa_r (k + 7), xa_r (k + 8), xa_r (k + 9), xa_r (k + 10), xa_r (k + 11), xa_r (k + 12), xa_i (s 13), xa_i (s 14), xa_i ((a2 : Nat) : Int), xa_r (k + 13), xa_i (s 17), xa_i (s 18), xa_i (s 19), xa_i (s 20), xa_r (k + 14), xa_r (k + 15), xa_i (s 23), xa_r (k + 16)] := by rw [← ha2]; exact hM0
        refine xa_iload (pc := 112) dX10_figures_112 rfl ?_
        refine xa_i2l (pc := 114) dX10_figures_114 ⟨by omega, by omega⟩ ?_
        refine xa_lconst (pc := 115) (n := 1) dX10_figures_115 rfl ?_
        refine xa_ldc2 (pc := 116) (n := 4) dX10_figures_116 ctRX10_85 rfl ?_
        refine xa_callS (pc := 119) (as := [xa_l ((m2 : Nat) : Int), xa_l 1, xa_l 4]) (rest := []) dX10_figures_119 ⟨qX10_in.1, qX10_in.2.1, qX10_in.2.2, by decide, by decide⟩ lkRX10_65 smX10_in rfl rfl (Nat.le_of_ble_eq_true rfl) (Nat.zero_le _) (Nat.zero_le _) (c_in _ _ _ ⟨by omega, by omega⟩ ⟨by omega, by omega⟩ ⟨by omega, by omega⟩) (fun r h' hq => ?_)
        obtain ⟨rfl, hq⟩ := hq
        have hq := hq.symm
        subst hq
        refine xa_if_eq (pc := 122) (tgt := 159) dX10_figures_122 (by decide) xa_okb (fun c_122 => ?_) (fun c_122 => ?_)
        · have c_122 := xa_b0.mp c_122
          refine xa_iconst (pc := 159) dX10_figures_159 ?_
          refine xa_ireturn (pc := 160) dX10_figures_160 rfl (Or.inl rfl) ?_
          have ng : nosg n (F 1) (a1 + 1) 59 := by
            by_cases hc : (1 ≤ m2 ∧ m2 ≤ 4) ∧ ¬ ((0 : Nat) = 1 ∧ x2 = 0)
            · exact Or.inr ⟨_, _, by rw [z2, if_pos hc], by omega⟩
            · exact Or.inl (by rw [z2, if_neg hc])
          exact Or.inr ⟨fg3_2 e0 (by omega) e1 (by omega) ng, rfl, _, _, ⟨hM0, hM1, hM2, hM3, hM4, hM5, hM6, hM7, hM8, hM9, hM10, hM11, hM12, hM13, hM14, hM15, hM16, by omega, by omega⟩, hn, fr⟩
        · have c_122 := xa_b1.mp c_122
          refine xa_iload_n (pc := 125) dX10_figures_125 rfl ?_
          refine xa_if_eq (pc := 126) (tgt := 134) dX10_figures_126 (by decide) (by decide) (fun c_126 => ?_) (fun c_126 => ?_)
          · skip
            refine xa_aload_n (pc := 134) dX10_figures_134 rfl ?_
            refine xa_aload_n (pc := 135) dX10_figures_135 rfl ?_
            refine xa_getfield (pc := 136) dX10_figures_136 flRX10_74 (by omega) (by omega) hM0 rfl ?_
            refine xa_callV (pc := 139) (as := [xa_i ((a2 : Nat) : Int)]) (rest := []) dX10_figures_139 ⟨qX10_byteAt.1, qX10_byteAt.2.1, qX10_byteAt.2.2, by decide, by decide⟩ lkRX10_77 imX10_byteAt seX10_byteAt rfl rfl (by omega) (by omega) hM0 rfl (Nat.le_of_ble_eq_true rfl) (Nat.zero_le _) (Nat.zero_le _) (c_mByteN _ n a2 (xa_uF F 13 (xa_upf (xa_upf (F 13) 0 v0) 1 v1)) (xa_upf s 15 ((a2 : Nat) : Int)) (by omega) hs0 hn9 ⟨hM0, hM1, hM2, hM3, hM4, hM5, hM6, hM7, hM8, hM9, hM10, hM11, hM12, hM13, hM14, hM15, hM16, by omega, by omega⟩) (fun r h' hq => ?_)
            obtain ⟨⟨y139_3, rfl, by139_3⟩, hq⟩ := hq
            have by139_3 : y139_3 = sp_at n (F 1) ((a2 : Nat) : Int) ∨ y139_3 = 0 ∧ sp_at n (F 1) ((a2 : Nat) : Int) = -1 := by139_3
            have hq := hq.symm
            subst hq
            have ay139_3 := sp_at_b (n := n) hf ((a2 : Nat) : Int)
            refine xa_iload_n (pc := 142) dX10_figures_142 rfl ?_
            refine xa_iload_n (pc := 143) dX10_figures_143 rfl ?_
            refine xa_iconst (pc := 144) dX10_figures_144 ?_
            refine xa_isub (pc := 145) dX10_figures_145 ?_
            refine xa_top (y := 2) (by decide) ?_
            refine xa_icmp_ge (pc := 146) (tgt := 154) dX10_figures_146 (by decide) (by decide) (by decide) (fun c_146 => ?_) (fun c_146 => ?_)
            · skip
              refine xa_bipush (pc := 154) dX10_figures_154 rfl ?_
              refine xa_icmp_eq (pc := 156) (tgt := 161) dX10_figures_156 (by decide) ⟨by omega, by omega⟩ (by decide) (fun c_156 => ?_) (fun c_156 => ?_)
              · skip
                refine xa_aload_n (pc := 161) dX10_figures_161 rfl ?_
                refine xa_getfield (pc := 162) dX10_figures_162 flRX10_46 (by omega) (by omega) hM0 rfl ?_
                refine xa_iload_n (pc := 165) dX10_figures_165 rfl ?_
                refine xa_iload_n (pc := 166) dX10_figures_166 rfl ?_
                refine xa_if_eq (pc := 167) (tgt := 176) dX10_figures_167 (by decide) (by decide) (fun c_167 => ?_) (fun c_167 => ?_)
                · skip
                  refine xa_iload (pc := 176) dX10_figures_176 rfl ?_
                  refine xa_iastw (pc := 178) 2 dX10_figures_178 (by omega) (by omega) hM13 (by omega) (by omega) rfl (fun h4 nh4 ch4 oh4 => ?_)
                  have hM13 : h4.1 (k + 13) = xa_a 3 (xa_upf (xa_upf (xa_upf (F 13) 0 v0) 1 v1) 2 x2) := ch4
                  have hM0 : h4.1 k = xa_o 10 [xa_i (s 0), xa_r (k + 1), xa_r (k + 2), xa_r (k + 3), xa_r (k + 4), xa_r (k + 5), xa_r (k + 6), xa_r (k + 7), xa_r (k + 8), xa_r (k + 9), xa_r (k + 10), xa_r (k + 11), xa_r (k + 12), xa_i (s 13), xa_i (s 14), xa_i ((a2 : Nat) : Int), xa_r (k + 13), xa_i (s 17), xa_i (s 18), xa_i (s 19), xa_i (s 20), xa_r (k + 14), xa_r (k + 15), xa_i (s 23), xa_r (k + 16)] := (oh4 _ (by omega)).trans hM0
                  have hM1 : h4.1 (k + 1) = xa_a 120 (F 1) := (oh4 _ (by omega)).trans hM1
                  have hM2 : h4.1 (k + 2) = xa_a 2 (F 2) := (oh4 _ (by omega)).trans hM2
                  have hM3 : h4.1 (k + 3) = xa_a 18 (F 3) := (oh4 _ (by omega)).trans hM3
                  have hM4 : h4.1 (k + 4) = xa_a 2 (F 4) := (oh4 _ (by omega)).trans hM4
                  have hM5 : h4.1 (k + 5) = xa_a 4 (F 5) := (oh4 _ (by omega)).trans hM5
                  have hM6 : h4.1 (k + 6) = xa_a 4 (F 6) := (oh4 _ (by omega)).trans hM6
                  have hM7 : h4.1 (k + 7) = xa_a 2 (F 7) := (oh4 _ (by omega)).trans hM7
                  have hM8 : h4.1 (k + 8) = xa_a 2 (F 8) := (oh4 _ (by omega)).trans hM8
                  have hM9 : h4.1 (k + 9) = xa_a 12 (F 9) := (oh4 _ (by omega)).trans hM9
                  have hM10 : h4.1 (k + 10) = xa_a 720 (F 10) := (oh4 _ (by omega)).trans hM10
                  have hM11 : h4.1 (k + 11) = xa_a 3 (F 11) := (oh4 _ (by omega)).trans hM11
                  have hM12 : h4.1 (k + 12) = xa_a 360 (F 12) := (oh4 _ (by omega)).trans hM12
                  have hM14 : h4.1 (k + 14) = xa_a 583200 (F 14) := (oh4 _ (by omega)).trans hM14
                  have hM15 : h4.1 (k + 15) = xa_a 583200 (F 15) := (oh4 _ (by omega)).trans hM15
                  have hM16 : h4.1 (k + 16) = xa_a 4 (F 16) := (oh4 _ (by omega)).trans hM16
                  have hn : h4.2 = h0.2 := nh4.trans hn
                  have fr : ∀ i, (i < k ∨ k + 17 ≤ i) → h4.1 i = h0.1 i := fun i hi => (oh4 i (by omega)).trans (fr i hi)
                  refine xa_aload_n (pc := 179) dX10_figures_179 rfl ?_
                  refine xa_dup (pc := 180) dX10_figures_180 rfl ?_
                  refine xa_getfield (pc := 181) dX10_figures_181 flRX10_74 (by omega) (by omega) hM0 rfl ?_
                  refine xa_iconst (pc := 184) dX10_figures_184 ?_
                  refine xa_iadd (pc := 185) dX10_figures_185 ?_
                  refine xa_top (y := ((a2 + 1 : Nat) : Int)) (by omega) ?_
                  refine xa_putw (pc := 186) [xa_i (s 0), xa_r (k + 1), xa_r (k + 2), xa_r (k + 3), xa_r (k + 4), xa_r (k + 5), xa_r (k + 6), xa_r (k + 7), xa_r (k + 8), xa_r (k + 9), xa_r (k + 10), xa_r (k + 11), xa_r (k + 12), xa_i (s 13), xa_i (s 14), xa_i ((a2 + 1 : Nat) : Int), xa_r (k + 13), xa_i (s 17), xa_i (s 18), xa_i (s 19), xa_i (s 20), xa_r (k + 14), xa_r (k + 15), xa_i (s 23), xa_r (k + 16)] dX10_figures_186 flRX10_74 plX10_15 (by omega) (by omega) hM0 trivial rfl (fun h5 nh5 ch5 oh5 => ?_)
                  have hM0 : h5.1 k = xa_o 10 [xa_i (s 0), xa_r (k + 1), xa_r (k + 2), xa_r (k + 3), xa_r (k + 4), xa_r (k + 5), xa_r (k + 6), xa_r (k + 7), xa_r (k + 8), xa_r (k + 9), xa_r (k + 10), xa_r (k + 11), xa_r (k + 12), xa_i (s 13), xa_i (s 14), xa_i ((a2 + 1 : Nat) : Int), xa_r (k + 13), xa_i (s 17), xa_i (s 18), xa_i (s 19), xa_i (s 20), xa_r (k + 14), xa_r (k + 15), xa_i (s 23), xa_r (k + 16)] := ch5
                  have hM1 : h5.1 (k + 1) = xa_a 120 (F 1) := (oh5 _ (by omega)).trans hM1
                  have hM2 : h5.1 (k + 2) = xa_a 2 (F 2) := (oh5 _ (by omega)).trans hM2
                  have hM3 : h5.1 (k + 3) = xa_a 18 (F 3) := (oh5 _ (by omega)).trans hM3
                  have hM4 : h5.1 (k + 4) = xa_a 2 (F 4) := (oh5 _ (by omega)).trans hM4
                  have hM5 : h5.1 (k + 5) = xa_a 4 (F 5) := (oh5 _ (by omega)).trans hM5
                  have hM6 : h5.1 (k + 6) = xa_a 4 (F 6) := (oh5 _ (by omega)).trans hM6
                  have hM7 : h5.1 (k + 7) = xa_a 2 (F 7) := (oh5 _ (by omega)).trans hM7
                  have hM8 : h5.1 (k + 8) = xa_a 2 (F 8) := (oh5 _ (by omega)).trans hM8
                  have hM9 : h5.1 (k + 9) = xa_a 12 (F 9) := (oh5 _ (by omega)).trans hM9
                  have hM10 : h5.1 (k + 10) = xa_a 720 (F 10) := (oh5 _ (by omega)).trans hM10
                  have hM11 : h5.1 (k + 11) = xa_a 3 (F 11) := (oh5 _ (by omega)).trans hM11
                  have hM12 : h5.1 (k + 12) = xa_a 360 (F 12) := (oh5 _ (by omega)).trans hM12
                  have hM13 : h5.1 (k + 13) = xa_a 3 (xa_upf (xa_upf (xa_upf (F 13) 0 v0) 1 v1) 2 x2) := (oh5 _ (by omega)).trans hM13
                  have hM14 : h5.1 (k + 14) = xa_a 583200 (F 14) := (oh5 _ (by omega)).trans hM14
                  have hM15 : h5.1 (k + 15) = xa_a 583200 (F 15) := (oh5 _ (by omega)).trans hM15
                  have hM16 : h5.1 (k + 16) = xa_a 4 (F 16) := (oh5 _ (by omega)).trans hM16
                  have hn : h5.2 = h0.2 := nh5.trans hn
                  have fr : ∀ i, (i < k ∨ k + 17 ≤ i) → h5.1 i = h0.1 i := fun i hi => (oh5 i (by omega)).trans (fr i hi)
                  refine xa_iincw (pc := 189) (y := 3) [some (xa_r k), some (xa_i 3), some (xa_i 3), some (xa_i 0), some (xa_i ((m2 : Nat) : Int)), some (xa_i x2)] dX10_figures_189 (by decide) rfl rfl rfl rfl ?_
                  refine xa_goto (pc := 192) (tgt := 2) dX10_figures_192 (by decide) ?_
                  refine xa_iload_n (pc := 2) dX10_figures_2 rfl ?_
                  refine xa_iload_n (pc := 3) dX10_figures_3 rfl ?_
                  refine xa_icmp_ge (pc := 4) (tgt := 195) dX10_figures_4 (by decide) (by decide) (by decide) (fun c_4 => ?_) (fun c_4 => ?_)
                  · skip
                    refine xa_iconst (pc := 195) dX10_figures_195 ?_
                    refine xa_ireturn (pc := 196) dX10_figures_196 rfl (Or.inr rfl) ?_
                    have e2 : rd_num n (F 1) (a1 + 1) = some (x2, a2) := by rw [z2, if_pos (by omega)]; rfl
                    exact Or.inl ⟨_, fg3_y e0 (by omega) e1 (by omega) e2 (by omega), rfl, ⟨hM0, hM1, hM2, hM3, hM4, hM5, hM6, hM7, hM8, hM9, hM10, hM11, hM12, hM13, hM14, hM15, hM16, by omega, by omega⟩, hn, fr⟩
                  · skip
                    exfalso; omega
                · skip
                  exfalso; omega
              · skip
                refine xa_iconst (pc := 159) dX10_figures_159 ?_
                refine xa_ireturn (pc := 160) dX10_figures_160 rfl (Or.inl rfl) ?_
                have ng : nosg n (F 1) (a1 + 1) 59 := by
                  by_cases hc : (1 ≤ m2 ∧ m2 ≤ 4) ∧ ¬ ((0 : Nat) = 1 ∧ x2 = 0)
                  · exact Or.inr ⟨_, _, by rw [z2, if_pos hc], by omega⟩
                  · exact Or.inl (by rw [z2, if_neg hc])
                exact Or.inr ⟨fg3_2 e0 (by omega) e1 (by omega) ng, rfl, _, _, ⟨hM0, hM1, hM2, hM3, hM4, hM5, hM6, hM7, hM8, hM9, hM10, hM11, hM12, hM13, hM14, hM15, hM16, by omega, by omega⟩, hn, fr⟩
            · skip
              exfalso; omega
          · skip
            exfalso; omega
      · skip
        exfalso; omega
    · skip
      refine xa_iconst (pc := 20) dX10_figures_20 ?_
      refine xa_goto (pc := 21) (tgt := 25) dX10_figures_21 (by decide) ?_
      refine xa_istoren (pc := 25) [some (xa_r k), some (xa_i 3), some (xa_i 2), some (xa_i 1), g4, g5] dX10_figures_25 (by decide) (Nat.le_of_ble_eq_true rfl) rfl rfl ?_
      refine xa_aload_n (pc := 26) dX10_figures_26 rfl ?_
      refine xa_dup (pc := 27) dX10_figures_27 rfl ?_
      refine xa_getfield (pc := 28) dX10_figures_28 flRX10_74 (by omega) (by omega) hM0 rfl ?_
      refine xa_iload_n (pc := 31) dX10_figures_31 rfl ?_
      refine xa_if_eq (pc := 32) (tgt := 39) dX10_figures_32 (by decide) (by decide) (fun c_32 => ?_) (fun c_32 => ?_)
      · skip
        exfalso; omega
      · skip
        refine xa_iconst (pc := 35) dX10_figures_35 ?_
        refine xa_goto (pc := 36) (tgt := 40) dX10_figures_36 (by decide) ?_
        refine xa_iadd (pc := 40) dX10_figures_40 ?_
        refine xa_top (y := ((a1 + 1 + 1 : Nat) : Int)) (by omega) ?_
        refine xa_putw (pc := 41) [xa_i (s 0), xa_r (k + 1), xa_r (k + 2), xa_r (k + 3), xa_r (k + 4), xa_r (k + 5), xa_r (k + 6), xa_r (k + 7), xa_r (k + 8), xa_r (k + 9), xa_r (k + 10), xa_r (k + 11), xa_r (k + 12), xa_i (s 13), xa_i (s 14), xa_i ((a1 + 1 + 1 : Nat) : Int), xa_r (k + 13), xa_i (s 17), xa_i (s 18), xa_i (s 19), xa_i (s 20), xa_r (k + 14), xa_r (k + 15), xa_i (s 23), xa_r (k + 16)] dX10_figures_41 flRX10_74 plX10_15 (by omega) (by omega) hM0 trivial rfl (fun h6 nh6 ch6 oh6 => ?_)
        have hM0 : h6.1 k = xa_o 10 [xa_i (s 0), xa_r (k + 1), xa_r (k + 2), xa_r (k + 3), xa_r (k + 4), xa_r (k + 5), xa_r (k + 6), xa_r (k + 7), xa_r (k + 8), xa_r (k + 9), xa_r (k + 10), xa_r (k + 11), xa_r (k + 12), xa_i (s 13), xa_i (s 14), xa_i ((a1 + 1 + 1 : Nat) : Int), xa_r (k + 13), xa_i (s 17), xa_i (s 18), xa_i (s 19), xa_i (s 20), xa_r (k + 14), xa_r (k + 15), xa_i (s 23), xa_r (k + 16)] := ch6
        have hM1 : h6.1 (k + 1) = xa_a 120 (F 1) := (oh6 _ (by omega)).trans hM1
        have hM2 : h6.1 (k + 2) = xa_a 2 (F 2) := (oh6 _ (by omega)).trans hM2
        have hM3 : h6.1 (k + 3) = xa_a 18 (F 3) := (oh6 _ (by omega)).trans hM3
        have hM4 : h6.1 (k + 4) = xa_a 2 (F 4) := (oh6 _ (by omega)).trans hM4
        have hM5 : h6.1 (k + 5) = xa_a 4 (F 5) := (oh6 _ (by omega)).trans hM5
        have hM6 : h6.1 (k + 6) = xa_a 4 (F 6) := (oh6 _ (by omega)).trans hM6
        have hM7 : h6.1 (k + 7) = xa_a 2 (F 7) := (oh6 _ (by omega)).trans hM7
        have hM8 : h6.1 (k + 8) = xa_a 2 (F 8) := (oh6 _ (by omega)).trans hM8
        have hM9 : h6.1 (k + 9) = xa_a 12 (F 9) := (oh6 _ (by omega)).trans hM9
        have hM10 : h6.1 (k + 10) = xa_a 720 (F 10) := (oh6 _ (by omega)).trans hM10
        have hM11 : h6.1 (k + 11) = xa_a 3 (F 11) := (oh6 _ (by omega)).trans hM11
        have hM12 : h6.1 (k + 12) = xa_a 360 (F 12) := (oh6 _ (by omega)).trans hM12
        have hM13 : h6.1 (k + 13) = xa_a 3 (xa_upf (xa_upf (F 13) 0 v0) 1 v1) := (oh6 _ (by omega)).trans hM13
        have hM14 : h6.1 (k + 14) = xa_a 583200 (F 14) := (oh6 _ (by omega)).trans hM14
        have hM15 : h6.1 (k + 15) = xa_a 583200 (F 15) := (oh6 _ (by omega)).trans hM15
        have hM16 : h6.1 (k + 16) = xa_a 4 (F 16) := (oh6 _ (by omega)).trans hM16
        have hn : h6.2 = h0.2 := nh6.trans hn
        have fr : ∀ i, (i < k ∨ k + 17 ≤ i) → h6.1 i = h0.1 i := fun i hi => (oh6 i (by omega)).trans (fr i hi)
        refine xa_iconst (pc := 44) dX10_figures_44 ?_
        refine xa_istorew (pc := 45) [some (xa_r k), some (xa_i 3), some (xa_i 2), some (xa_i 1), some (xa_i 0), g5] dX10_figures_45 (by decide) (Nat.le_of_ble_eq_true rfl) rfl rfl ?_
        refine xa_iconst (pc := 47) dX10_figures_47 ?_
        refine xa_istorew (pc := 48) [some (xa_r k), some (xa_i 3), some (xa_i 2), some (xa_i 1), some (xa_i 0), some (xa_i 0)] dX10_figures_48 (by decide) (Nat.le_of_ble_eq_true rfl) rfl rfl ?_
        refine c_dig_loop (a := ((a1 + 1) + 1)) (F := (xa_uF F 13 (xa_upf (xa_upf (F 13) 0 v0) 1 v1))) (s := (xa_upf s 15 ((a1 + 1 + 1 : Nat) : Int))) (mn := 3) (kk := 2) (L := 1) (h0 := h6) (by omega) hs0 hn9 hf (by omega) (fun m2 hq2 hm2 hd2 ht2 hM hqn hqf => ?_) 6 0 _ (by omega) (by omega) (fun j hj => absurd hj (Nat.not_lt_zero _)) ⟨hM0, hM1, hM2, hM3, hM4, hM5, hM6, hM7, hM8, hM9, hM10, hM11, hM12, hM13, hM14, hM15, hM16, by omega, by omega⟩ rfl (fun _ _ => rfl)
        obtain ⟨hM0, hM1, hM2, hM3, hM4, hM5, hM6, hM7, hM8, hM9, hM10, hM11, hM12, hM13, hM14, hM15, hM16, hMk, hMn⟩ := hM
        have hM0 : hq2.1 k = xa_o 10 [xa_i (s 0), xa_r (k + 1), xa_r (k + 2), xa_r (k + 3), xa_r (k + 4), xa_r (k + 5), xa_r (k + 6), xa_r (k + 7), xa_r (k + 8), xa_r (k + 9), xa_r (k + 10), xa_r (k + 11), xa_r (k + 12), xa_i (s 13), xa_i (s 14), xa_i ((((a1 + 1) + 1) + m2 : Nat) : Int), xa_r (k + 13), xa_i (s 17), xa_i (s 18), xa_i (s 19), xa_i (s 20), xa_r (k + 14), xa_r (k + 15), xa_i (s 23), xa_r (k + 16)] := hM0
        have hM1 : hq2.1 (k + 1) = xa_a 120 (F 1) := hM1
        have hM2 : hq2.1 (k + 2) = xa_a 2 (F 2) := hM2
        have hM3 : hq2.1 (k + 3) = xa_a 18 (F 3) := hM3
        have hM4 : hq2.1 (k + 4) = xa_a 2 (F 4) := hM4
        have hM5 : hq2.1 (k + 5) = xa_a 4 (F 5) := hM5
        have hM6 : hq2.1 (k + 6) = xa_a 4 (F 6) := hM6
        have hM7 : hq2.1 (k + 7) = xa_a 2 (F 7) := hM7
        have hM8 : hq2.1 (k + 8) = xa_a 2 (F 8) := hM8
        have hM9 : hq2.1 (k + 9) = xa_a 12 (F 9) := hM9
        have hM10 : hq2.1 (k + 10) = xa_a 720 (F 10) := hM10
        have hM11 : hq2.1 (k + 11) = xa_a 3 (F 11) := hM11
        have hM12 : hq2.1 (k + 12) = xa_a 360 (F 12) := hM12
        have hM13 : hq2.1 (k + 13) = xa_a 3 (xa_upf (xa_upf (F 13) 0 v0) 1 v1) := hM13
        have hM14 : hq2.1 (k + 14) = xa_a 583200 (F 14) := hM14
        have hM15 : hq2.1 (k + 15) = xa_a 583200 (F 15) := hM15
        have hM16 : hq2.1 (k + 16) = xa_a 4 (F 16) := hM16
        have hn : hq2.2 = h0.2 := hqn.trans hn
        have fr : ∀ i, (i < k ∨ k + 17 ≤ i) → hq2.1 i = h0.1 i := fun i hi => (hqf i (by omega)).trans (fr i hi)
        have hd2 : ∀ j, j < m2 → sp_isd n (F 1) (((a1 + 1) + 1) + j) := hd2
        have ht2 : m2 = 5 ∨ ¬ sp_isd n (F 1) (((a1 + 1) + 1) + m2) := ht2
        refine xa_locals (ls' := [some (xa_r k), some (xa_i 3), some (xa_i 2), some (xa_i 1), some (xa_i ((m2 : Nat) : Int)), some (xa_i (sp_val n (F 1) ((a1 + 1) + 1) m2))]) rfl ?_
        have hg2 : sp_neg n (F 1) (a1 + 1) = 1 := by unfold sp_neg; first | exact if_pos (by omega) | exact if_neg (by omega)
        have z2 := rd_num_m (p := (a1 + 1)) (g := 1) hg2 hm2 hd2 ht2
        have hvp2 := sp_val_p n (F 1) ((a1 + 1) + 1) m2 hd2
        have hvm2 : m2 ≤ 4 → sp_val n (F 1) ((a1 + 1) + 1) m2 ≤ 9999 := fun q => (sp_val_b q hd2).2
        have hvx2 : (10 : Int) ^ m2 ≤ 100000 := by
          have e : m2 = 0 ∨ m2 = 1 ∨ m2 = 2 ∨ m2 = 3 ∨ m2 = 4 ∨ m2 = 5 := by omega
          rcases e with e | e | e | e | e | e <;> rw [e] <;> decide
        generalize hx2 : sp_val n (F 1) ((a1 + 1) + 1) m2 = x2 at z2 hvp2 hvm2 ⊢
        generalize ha2 : ((a1 + 1) + 1) + m2 = a2 at z2 ⊢
        have hM0 : hq2.1 k = xa_o 10 [xa_i (s 0), xa_r (k + 1), xa_r (k + 2), xa_r (k + 3), xa_r (k + 4), xa_r (k + 5), xa_r (k + 6), xa_r (k + 7), xa_r (k + 8), xa_r (k + 9), xa_r (k + 10), xa_r (k + 11), xa_r (k + 12), xa_i (s 13), xa_i (s 14), xa_i ((a2 : Nat) : Int), xa_r (k + 13), xa_i (s 17), xa_i (s 18), xa_i (s 19), xa_i (s 20), xa_r (k + 14), xa_r (k + 15), xa_i (s 23), xa_r (k + 16)] := by rw [← ha2]; exact hM0
        refine xa_iload (pc := 112) dX10_figures_112 rfl ?_
        refine xa_i2l (pc := 114) dX10_figures_114 ⟨by omega, by omega⟩ ?_
        refine xa_lconst (pc := 115) (n := 1) dX10_figures_115 rfl ?_
        refine xa_ldc2 (pc := 116) (n := 4) dX10_figures_116 ctRX10_85 rfl ?_
        refine xa_callS (pc := 119) (as := [xa_l ((m2 : Nat) : Int), xa_l 1, xa_l 4]) (rest := []) dX10_figures_119 ⟨qX10_in.1, qX10_in.2.1, qX10_in.2.2, by decide, by decide⟩ lkRX10_65 smX10_in rfl rfl (Nat.le_of_ble_eq_true rfl) (Nat.zero_le _) (Nat.zero_le _) (c_in _ _ _ ⟨by omega, by omega⟩ ⟨by omega, by omega⟩ ⟨by omega, by omega⟩) (fun r h' hq => ?_)
        obtain ⟨rfl, hq⟩ := hq
        have hq := hq.symm
        subst hq
        refine xa_if_eq (pc := 122) (tgt := 159) dX10_figures_122 (by decide) xa_okb (fun c_122 => ?_) (fun c_122 => ?_)
        · have c_122 := xa_b0.mp c_122
          refine xa_iconst (pc := 159) dX10_figures_159 ?_
          refine xa_ireturn (pc := 160) dX10_figures_160 rfl (Or.inl rfl) ?_
          have ng : nosg n (F 1) (a1 + 1) 59 := by
            by_cases hc : (1 ≤ m2 ∧ m2 ≤ 4) ∧ ¬ ((1 : Nat) = 1 ∧ x2 = 0)
            · exact Or.inr ⟨_, _, by rw [z2, if_pos hc], by omega⟩
            · exact Or.inl (by rw [z2, if_neg hc])
          exact Or.inr ⟨fg3_2 e0 (by omega) e1 (by omega) ng, rfl, _, _, ⟨hM0, hM1, hM2, hM3, hM4, hM5, hM6, hM7, hM8, hM9, hM10, hM11, hM12, hM13, hM14, hM15, hM16, by omega, by omega⟩, hn, fr⟩
        · have c_122 := xa_b1.mp c_122
          refine xa_iload_n (pc := 125) dX10_figures_125 rfl ?_
          refine xa_if_eq (pc := 126) (tgt := 134) dX10_figures_126 (by decide) (by decide) (fun c_126 => ?_) (fun c_126 => ?_)
          · skip
            exfalso; omega
          · skip
            refine xa_iload (pc := 129) dX10_figures_129 rfl ?_
            refine xa_if_eq (pc := 131) (tgt := 159) dX10_figures_131 (by decide) ⟨by omega, by omega⟩ (fun c_131 => ?_) (fun c_131 => ?_)
            · skip
              refine xa_iconst (pc := 159) dX10_figures_159 ?_
              refine xa_ireturn (pc := 160) dX10_figures_160 rfl (Or.inl rfl) ?_
              have ng : nosg n (F 1) (a1 + 1) 59 := by
                by_cases hc : (1 ≤ m2 ∧ m2 ≤ 4) ∧ ¬ ((1 : Nat) = 1 ∧ x2 = 0)
                · exact Or.inr ⟨_, _, by rw [z2, if_pos hc], by omega⟩
                · exact Or.inl (by rw [z2, if_neg hc])
              exact Or.inr ⟨fg3_2 e0 (by omega) e1 (by omega) ng, rfl, _, _, ⟨hM0, hM1, hM2, hM3, hM4, hM5, hM6, hM7, hM8, hM9, hM10, hM11, hM12, hM13, hM14, hM15, hM16, by omega, by omega⟩, hn, fr⟩
            · skip
              refine xa_aload_n (pc := 134) dX10_figures_134 rfl ?_
              refine xa_aload_n (pc := 135) dX10_figures_135 rfl ?_
              refine xa_getfield (pc := 136) dX10_figures_136 flRX10_74 (by omega) (by omega) hM0 rfl ?_
              refine xa_callV (pc := 139) (as := [xa_i ((a2 : Nat) : Int)]) (rest := []) dX10_figures_139 ⟨qX10_byteAt.1, qX10_byteAt.2.1, qX10_byteAt.2.2, by decide, by decide⟩ lkRX10_77 imX10_byteAt seX10_byteAt rfl rfl (by omega) (by omega) hM0 rfl (Nat.le_of_ble_eq_true rfl) (Nat.zero_le _) (Nat.zero_le _) (c_mByteN _ n a2 (xa_uF F 13 (xa_upf (xa_upf (F 13) 0 v0) 1 v1)) (xa_upf s 15 ((a2 : Nat) : Int)) (by omega) hs0 hn9 ⟨hM0, hM1, hM2, hM3, hM4, hM5, hM6, hM7, hM8, hM9, hM10, hM11, hM12, hM13, hM14, hM15, hM16, by omega, by omega⟩) (fun r h' hq => ?_)
              obtain ⟨⟨y139_7, rfl, by139_7⟩, hq⟩ := hq
              have by139_7 : y139_7 = sp_at n (F 1) ((a2 : Nat) : Int) ∨ y139_7 = 0 ∧ sp_at n (F 1) ((a2 : Nat) : Int) = -1 := by139_7
              have hq := hq.symm
              subst hq
              have ay139_7 := sp_at_b (n := n) hf ((a2 : Nat) : Int)
              refine xa_iload_n (pc := 142) dX10_figures_142 rfl ?_
              refine xa_iload_n (pc := 143) dX10_figures_143 rfl ?_
              refine xa_iconst (pc := 144) dX10_figures_144 ?_
              refine xa_isub (pc := 145) dX10_figures_145 ?_
              refine xa_top (y := 2) (by decide) ?_
              refine xa_icmp_ge (pc := 146) (tgt := 154) dX10_figures_146 (by decide) (by decide) (by decide) (fun c_146 => ?_) (fun c_146 => ?_)
              · skip
                refine xa_bipush (pc := 154) dX10_figures_154 rfl ?_
                refine xa_icmp_eq (pc := 156) (tgt := 161) dX10_figures_156 (by decide) ⟨by omega, by omega⟩ (by decide) (fun c_156 => ?_) (fun c_156 => ?_)
                · skip
                  refine xa_aload_n (pc := 161) dX10_figures_161 rfl ?_
                  refine xa_getfield (pc := 162) dX10_figures_162 flRX10_46 (by omega) (by omega) hM0 rfl ?_
                  refine xa_iload_n (pc := 165) dX10_figures_165 rfl ?_
                  refine xa_iload_n (pc := 166) dX10_figures_166 rfl ?_
                  refine xa_if_eq (pc := 167) (tgt := 176) dX10_figures_167 (by decide) (by decide) (fun c_167 => ?_) (fun c_167 => ?_)
                  · skip
                    exfalso; omega
                  · skip
                    refine xa_iload (pc := 170) dX10_figures_170 rfl ?_
                    refine xa_ineg (pc := 172) dX10_figures_172 ?_
                    refine xa_goto (pc := 173) (tgt := 178) dX10_figures_173 (by decide) ?_
                    refine xa_iastw (pc := 178) 2 dX10_figures_178 (by omega) (by omega) hM13 (by omega) (by omega) rfl (fun h8 nh8 ch8 oh8 => ?_)
                    have hM13 : h8.1 (k + 13) = xa_a 3 (xa_upf (xa_upf (xa_upf (F 13) 0 v0) 1 v1) 2 (-x2)) := ch8
                    have hM0 : h8.1 k = xa_o 10 [xa_i (s 0), xa_r (k + 1), xa_r (k + 2), xa_r (k + 3), xa_r (k + 4), xa_r (k + 5), xa_r (k + 6), xa_r (k + 7), xa_r (k + 8), xa_r (k + 9), xa_r (k + 10), xa_r (k + 11), xa_r (k + 12), xa_i (s 13), xa_i (s 14), xa_i ((a2 : Nat) : Int), xa_r (k + 13), xa_i (s 17), xa_i (s 18), xa_i (s 19), xa_i (s 20), xa_r (k + 14), xa_r (k + 15), xa_i (s 23), xa_r (k + 16)] := (oh8 _ (by omega)).trans hM0
                    have hM1 : h8.1 (k + 1) = xa_a 120 (F 1) := (oh8 _ (by omega)).trans hM1
                    have hM2 : h8.1 (k + 2) = xa_a 2 (F 2) := (oh8 _ (by omega)).trans hM2
                    have hM3 : h8.1 (k + 3) = xa_a 18 (F 3) := (oh8 _ (by omega)).trans hM3
                    have hM4 : h8.1 (k + 4) = xa_a 2 (F 4) := (oh8 _ (by omega)).trans hM4
                    have hM5 : h8.1 (k + 5) = xa_a 4 (F 5) := (oh8 _ (by omega)).trans hM5
                    have hM6 : h8.1 (k + 6) = xa_a 4 (F 6) := (oh8 _ (by omega)).trans hM6
                    have hM7 : h8.1 (k + 7) = xa_a 2 (F 7) := (oh8 _ (by omega)).trans hM7
                    have hM8 : h8.1 (k + 8) = xa_a 2 (F 8) := (oh8 _ (by omega)).trans hM8
                    have hM9 : h8.1 (k + 9) = xa_a 12 (F 9) := (oh8 _ (by omega)).trans hM9
                    have hM10 : h8.1 (k + 10) = xa_a 720 (F 10) := (oh8 _ (by omega)).trans hM10
                    have hM11 : h8.1 (k + 11) = xa_a 3 (F 11) := (oh8 _ (by omega)).trans hM11
                    have hM12 : h8.1 (k + 12) = xa_a 360 (F 12) := (oh8 _ (by omega)).trans hM12
                    have hM14 : h8.1 (k + 14) = xa_a 583200 (F 14) := (oh8 _ (by omega)).trans hM14
                    have hM15 : h8.1 (k + 15) = xa_a 583200 (F 15) := (oh8 _ (by omega)).trans hM15
                    have hM16 : h8.1 (k + 16) = xa_a 4 (F 16) := (oh8 _ (by omega)).trans hM16
                    have hn : h8.2 = h0.2 := nh8.trans hn
                    have fr : ∀ i, (i < k ∨ k + 17 ≤ i) → h8.1 i = h0.1 i := fun i hi => (oh8 i (by omega)).trans (fr i hi)
                    refine xa_aload_n (pc := 179) dX10_figures_179 rfl ?_
                    refine xa_dup (pc := 180) dX10_figures_180 rfl ?_
                    refine xa_getfield (pc := 181) dX10_figures_181 flRX10_74 (by omega) (by omega) hM0 rfl ?_
                    refine xa_iconst (pc := 184) dX10_figures_184 ?_
                    refine xa_iadd (pc := 185) dX10_figures_185 ?_
                    refine xa_top (y := ((a2 + 1 : Nat) : Int)) (by omega) ?_
                    refine xa_putw (pc := 186) [xa_i (s 0), xa_r (k + 1), xa_r (k + 2), xa_r (k + 3), xa_r (k + 4), xa_r (k + 5), xa_r (k + 6), xa_r (k + 7), xa_r (k + 8), xa_r (k + 9), xa_r (k + 10), xa_r (k + 11), xa_r (k + 12), xa_i (s 13), xa_i (s 14), xa_i ((a2 + 1 : Nat) : Int), xa_r (k + 13), xa_i (s 17), xa_i (s 18), xa_i (s 19), xa_i (s 20), xa_r (k + 14), xa_r (k + 15), xa_i (s 23), xa_r (k + 16)] dX10_figures_186 flRX10_74 plX10_15 (by omega) (by omega) hM0 trivial rfl (fun h9 nh9 ch9 oh9 => ?_)
                    have hM0 : h9.1 k = xa_o 10 [xa_i (s 0), xa_r (k + 1), xa_r (k + 2), xa_r (k + 3), xa_r (k + 4), xa_r (k + 5), xa_r (k + 6), xa_r (k + 7), xa_r (k + 8), xa_r (k + 9), xa_r (k + 10), xa_r (k + 11), xa_r (k + 12), xa_i (s 13), xa_i (s 14), xa_i ((a2 + 1 : Nat) : Int), xa_r (k + 13), xa_i (s 17), xa_i (s 18), xa_i (s 19), xa_i (s 20), xa_r (k + 14), xa_r (k + 15), xa_i (s 23), xa_r (k + 16)] := ch9
                    have hM1 : h9.1 (k + 1) = xa_a 120 (F 1) := (oh9 _ (by omega)).trans hM1
                    have hM2 : h9.1 (k + 2) = xa_a 2 (F 2) := (oh9 _ (by omega)).trans hM2
                    have hM3 : h9.1 (k + 3) = xa_a 18 (F 3) := (oh9 _ (by omega)).trans hM3
                    have hM4 : h9.1 (k + 4) = xa_a 2 (F 4) := (oh9 _ (by omega)).trans hM4
                    have hM5 : h9.1 (k + 5) = xa_a 4 (F 5) := (oh9 _ (by omega)).trans hM5
                    have hM6 : h9.1 (k + 6) = xa_a 4 (F 6) := (oh9 _ (by omega)).trans hM6
                    have hM7 : h9.1 (k + 7) = xa_a 2 (F 7) := (oh9 _ (by omega)).trans hM7
                    have hM8 : h9.1 (k + 8) = xa_a 2 (F 8) := (oh9 _ (by omega)).trans hM8
                    have hM9 : h9.1 (k + 9) = xa_a 12 (F 9) := (oh9 _ (by omega)).trans hM9
                    have hM10 : h9.1 (k + 10) = xa_a 720 (F 10) := (oh9 _ (by omega)).trans hM10
                    have hM11 : h9.1 (k + 11) = xa_a 3 (F 11) := (oh9 _ (by omega)).trans hM11
                    have hM12 : h9.1 (k + 12) = xa_a 360 (F 12) := (oh9 _ (by omega)).trans hM12
                    have hM13 : h9.1 (k + 13) = xa_a 3 (xa_upf (xa_upf (xa_upf (F 13) 0 v0) 1 v1) 2 (-x2)) := (oh9 _ (by omega)).trans hM13
                    have hM14 : h9.1 (k + 14) = xa_a 583200 (F 14) := (oh9 _ (by omega)).trans hM14
                    have hM15 : h9.1 (k + 15) = xa_a 583200 (F 15) := (oh9 _ (by omega)).trans hM15
                    have hM16 : h9.1 (k + 16) = xa_a 4 (F 16) := (oh9 _ (by omega)).trans hM16
                    have hn : h9.2 = h0.2 := nh9.trans hn
                    have fr : ∀ i, (i < k ∨ k + 17 ≤ i) → h9.1 i = h0.1 i := fun i hi => (oh9 i (by omega)).trans (fr i hi)
                    refine xa_iincw (pc := 189) (y := 3) [some (xa_r k), some (xa_i 3), some (xa_i 3), some (xa_i 1), some (xa_i ((m2 : Nat) : Int)), some (xa_i x2)] dX10_figures_189 (by decide) rfl rfl rfl rfl ?_
                    refine xa_goto (pc := 192) (tgt := 2) dX10_figures_192 (by decide) ?_
                    refine xa_iload_n (pc := 2) dX10_figures_2 rfl ?_
                    refine xa_iload_n (pc := 3) dX10_figures_3 rfl ?_
                    refine xa_icmp_ge (pc := 4) (tgt := 195) dX10_figures_4 (by decide) (by decide) (by decide) (fun c_4 => ?_) (fun c_4 => ?_)
                    · skip
                      refine xa_iconst (pc := 195) dX10_figures_195 ?_
                      refine xa_ireturn (pc := 196) dX10_figures_196 rfl (Or.inr rfl) ?_
                      have e2 : rd_num n (F 1) (a1 + 1) = some ((-x2), a2) := by rw [z2, if_pos (by omega)]; rfl
                      exact Or.inl ⟨_, fg3_y e0 (by omega) e1 (by omega) e2 (by omega), rfl, ⟨hM0, hM1, hM2, hM3, hM4, hM5, hM6, hM7, hM8, hM9, hM10, hM11, hM12, hM13, hM14, hM15, hM16, by omega, by omega⟩, hn, fr⟩
                    · skip
                      exfalso; omega
                · skip
                  refine xa_iconst (pc := 159) dX10_figures_159 ?_
                  refine xa_ireturn (pc := 160) dX10_figures_160 rfl (Or.inl rfl) ?_
                  have ng : nosg n (F 1) (a1 + 1) 59 := by
                    by_cases hc : (1 ≤ m2 ∧ m2 ≤ 4) ∧ ¬ ((1 : Nat) = 1 ∧ x2 = 0)
                    · exact Or.inr ⟨_, _, by rw [z2, if_pos hc], by omega⟩
                    · exact Or.inl (by rw [z2, if_neg hc])
                  exact Or.inr ⟨fg3_2 e0 (by omega) e1 (by omega) ng, rfl, _, _, ⟨hM0, hM1, hM2, hM3, hM4, hM5, hM6, hM7, hM8, hM9, hM10, hM11, hM12, hM13, hM14, hM15, hM16, by omega, by omega⟩, hn, fr⟩
              · skip
                exfalso; omega
set_option maxHeartbeats 8000000 in
theorem c_fig3_1 {G : xa_G} {h0 h : xa_H} {g3 g4 g5 : Option xa_V} {k n p : Nat} {F : Nat → Nat → Int} {s : Nat → Int} {v0 : Int} {a0 : Nat} (hs0 : s 0 = (n : Int)) (hn9 : n ≤ 120) (hf : ∀ i, 0 ≤ F 1 i ∧ F 1 i ≤ 255) (hp9 : p ≤ 200) (hk : 2 ≤ k) (hkn : k + 16 < h.2) (e0 : rd_num n (F 1) p = some (v0, a0)) (g0 : sp_at n (F 1) ((a0 : Nat) : Int) = 44) (l0 : a0 ≤ 220) (hM0 : h.1 k = xa_o 10 [xa_i (s 0), xa_r (k + 1), xa_r (k + 2), xa_r (k + 3), xa_r (k + 4), xa_r (k + 5), xa_r (k + 6), xa_r (k + 7), xa_r (k + 8), xa_r (k + 9), xa_r (k + 10), xa_r (k + 11), xa_r (k + 12), xa_i (s 13), xa_i (s 14), xa_i ((a0 + 1 : Nat) : Int), xa_r (k + 13), xa_i (s 17), xa_i (s 18), xa_i (s 19), xa_i (s 20), xa_r (k + 14), xa_r (k + 15), xa_i (s 23), xa_r (k + 16)]) (hM1 : h.1 (k + 1) = xa_a 120 (F 1)) (hM2 : h.1 (k + 2) = xa_a 2 (F 2)) (hM3 : h.1 (k + 3) = xa_a 18 (F 3)) (hM4 : h.1 (k + 4) = xa_a 2 (F 4)) (hM5 : h.1 (k + 5) = xa_a 4 (F 5)) (hM6 : h.1 (k + 6) = xa_a 4 (F 6)) (hM7 : h.1 (k + 7) = xa_a 2 (F 7)) (hM8 : h.1 (k + 8) = xa_a 2 (F 8)) (hM9 : h.1 (k + 9) = xa_a 12 (F 9)) (hM10 : h.1 (k + 10) = xa_a 720 (F 10)) (hM11 : h.1 (k + 11) = xa_a 3 (F 11)) (hM12 : h.1 (k + 12) = xa_a 360 (F 12)) (hM13 : h.1 (k + 13) = xa_a 3 (xa_upf (F 13) 0 v0)) (hM14 : h.1 (k + 14) = xa_a 583200 (F 14)) (hM15 : h.1 (k + 15) = xa_a 583200 (F 15)) (hM16 : h.1 (k + 16) = xa_a 4 (F 16)) (hn : h.2 = h0.2) (fr : ∀ i, (i < k ∨ k + 17 ≤ i) → h.1 i = h0.1 i)  : xa_W G mX10_figures (xa_Z G (fun r h' => ((∃ u, fg3 n (F 1) p = some u ∧ r = some (xa_i 1) ∧ xM h' k (xa_uF F 13 (xa_upf (xa_upf (xa_upf (F 13) 0 u.1) 1 u.2.1) 2 u.2.2.1)) (xa_upf s 15 ((u.2.2.2 + 1 : Nat) : Int)) ∧ h'.2 = h0.2 ∧ ∀ i, (i < k ∨ k + 17 ≤ i) → h'.1 i = h0.1 i) ∨ (fg3 n (F 1) p = none ∧ r = some (xa_i 0) ∧ ∃ (nu : Nat → Int) (x : Int), xM h' k (xa_uF F 13 nu) (xa_upf s 15 x) ∧ h'.2 = h0.2 ∧ ∀ i, (i < k ∨ k + 17 ≤ i) → h'.1 i = h0.1 i)))) 2 [some (xa_r k), some (xa_i 3), some (xa_i 1), g3, g4, g5] [] h 0 0 := by
  refine xa_iload_n (pc := 2) dX10_figures_2 rfl ?_
  refine xa_iload_n (pc := 3) dX10_figures_3 rfl ?_
  refine xa_icmp_ge (pc := 4) (tgt := 195) dX10_figures_4 (by decide) (by decide) (by decide) (fun c_4 => ?_) (fun c_4 => ?_)
  · skip
    exfalso; omega
  · skip
    refine xa_aload_n (pc := 7) dX10_figures_7 rfl ?_
    refine xa_aload_n (pc := 8) dX10_figures_8 rfl ?_
    refine xa_getfield (pc := 9) dX10_figures_9 flRX10_74 (by omega) (by omega) hM0 rfl ?_
    refine xa_callV (pc := 12) (as := [xa_i ((a0 + 1 : Nat) : Int)]) (rest := []) dX10_figures_12 ⟨qX10_byteAt.1, qX10_byteAt.2.1, qX10_byteAt.2.2, by decide, by decide⟩ lkRX10_77 imX10_byteAt seX10_byteAt rfl rfl (by omega) (by omega) hM0 rfl (Nat.le_of_ble_eq_true rfl) (Nat.zero_le _) (Nat.zero_le _) (c_mByteN _ n (a0 + 1) (xa_uF F 13 (xa_upf (F 13) 0 v0)) (xa_upf s 15 ((a0 + 1 : Nat) : Int)) (by omega) hs0 hn9 ⟨hM0, hM1, hM2, hM3, hM4, hM5, hM6, hM7, hM8, hM9, hM10, hM11, hM12, hM13, hM14, hM15, hM16, by omega, by omega⟩) (fun r h' hq => ?_)
    obtain ⟨⟨y12_1, rfl, by12_1⟩, hq⟩ := hq
    have by12_1 : y12_1 = sp_at n (F 1) ((a0 + 1 : Nat) : Int) ∨ y12_1 = 0 ∧ sp_at n (F 1) ((a0 + 1 : Nat) : Int) = -1 := by12_1
    have hq := hq.symm
    subst hq
    have ay12_1 := sp_at_b (n := n) hf ((a0 + 1 : Nat) : Int)
    refine xa_bipush (pc := 15) dX10_figures_15 rfl ?_
    refine xa_icmp_ne (pc := 17) (tgt := 24) dX10_figures_17 (by decide) ⟨by omega, by omega⟩ (by decide) (fun c_17 => ?_) (fun c_17 => ?_)
    · skip
      refine xa_iconst (pc := 24) dX10_figures_24 ?_
      refine xa_istoren (pc := 25) [some (xa_r k), some (xa_i 3), some (xa_i 1), some (xa_i 0), g4, g5] dX10_figures_25 (by decide) (Nat.le_of_ble_eq_true rfl) rfl rfl ?_
      refine xa_aload_n (pc := 26) dX10_figures_26 rfl ?_
      refine xa_dup (pc := 27) dX10_figures_27 rfl ?_
      refine xa_getfield (pc := 28) dX10_figures_28 flRX10_74 (by omega) (by omega) hM0 rfl ?_
      refine xa_iload_n (pc := 31) dX10_figures_31 rfl ?_
      refine xa_if_eq (pc := 32) (tgt := 39) dX10_figures_32 (by decide) (by decide) (fun c_32 => ?_) (fun c_32 => ?_)
      · skip
        refine xa_iconst (pc := 39) dX10_figures_39 ?_
        refine xa_iadd (pc := 40) dX10_figures_40 ?_
        refine xa_top (y := ((a0 + 1 + 0 : Nat) : Int)) (by omega) ?_
        refine xa_putw (pc := 41) [xa_i (s 0), xa_r (k + 1), xa_r (k + 2), xa_r (k + 3), xa_r (k + 4), xa_r (k + 5), xa_r (k + 6), xa_r (k + 7), xa_r (k + 8), xa_r (k + 9), xa_r (k + 10), xa_r (k + 11), xa_r (k + 12), xa_i (s 13), xa_i (s 14), xa_i ((a0 + 1 + 0 : Nat) : Int), xa_r (k + 13), xa_i (s 17), xa_i (s 18), xa_i (s 19), xa_i (s 20), xa_r (k + 14), xa_r (k + 15), xa_i (s 23), xa_r (k + 16)] dX10_figures_41 flRX10_74 plX10_15 (by omega) (by omega) hM0 trivial rfl (fun h2 nh2 ch2 oh2 => ?_)
        have hM0 : h2.1 k = xa_o 10 [xa_i (s 0), xa_r (k + 1), xa_r (k + 2), xa_r (k + 3), xa_r (k + 4), xa_r (k + 5), xa_r (k + 6), xa_r (k + 7), xa_r (k + 8), xa_r (k + 9), xa_r (k + 10), xa_r (k + 11), xa_r (k + 12), xa_i (s 13), xa_i (s 14), xa_i ((a0 + 1 + 0 : Nat) : Int), xa_r (k + 13), xa_i (s 17), xa_i (s 18), xa_i (s 19), xa_i (s 20), xa_r (k + 14), xa_r (k + 15), xa_i (s 23), xa_r (k + 16)] := ch2
        have hM1 : h2.1 (k + 1) = xa_a 120 (F 1) := (oh2 _ (by omega)).trans hM1
        have hM2 : h2.1 (k + 2) = xa_a 2 (F 2) := (oh2 _ (by omega)).trans hM2
        have hM3 : h2.1 (k + 3) = xa_a 18 (F 3) := (oh2 _ (by omega)).trans hM3
        have hM4 : h2.1 (k + 4) = xa_a 2 (F 4) := (oh2 _ (by omega)).trans hM4
        have hM5 : h2.1 (k + 5) = xa_a 4 (F 5) := (oh2 _ (by omega)).trans hM5
        have hM6 : h2.1 (k + 6) = xa_a 4 (F 6) := (oh2 _ (by omega)).trans hM6
        have hM7 : h2.1 (k + 7) = xa_a 2 (F 7) := (oh2 _ (by omega)).trans hM7
        have hM8 : h2.1 (k + 8) = xa_a 2 (F 8) := (oh2 _ (by omega)).trans hM8
        have hM9 : h2.1 (k + 9) = xa_a 12 (F 9) := (oh2 _ (by omega)).trans hM9
        have hM10 : h2.1 (k + 10) = xa_a 720 (F 10) := (oh2 _ (by omega)).trans hM10
        have hM11 : h2.1 (k + 11) = xa_a 3 (F 11) := (oh2 _ (by omega)).trans hM11
        have hM12 : h2.1 (k + 12) = xa_a 360 (F 12) := (oh2 _ (by omega)).trans hM12
        have hM13 : h2.1 (k + 13) = xa_a 3 (xa_upf (F 13) 0 v0) := (oh2 _ (by omega)).trans hM13
        have hM14 : h2.1 (k + 14) = xa_a 583200 (F 14) := (oh2 _ (by omega)).trans hM14
        have hM15 : h2.1 (k + 15) = xa_a 583200 (F 15) := (oh2 _ (by omega)).trans hM15
        have hM16 : h2.1 (k + 16) = xa_a 4 (F 16) := (oh2 _ (by omega)).trans hM16
        have hn : h2.2 = h0.2 := nh2.trans hn
        have fr : ∀ i, (i < k ∨ k + 17 ≤ i) → h2.1 i = h0.1 i := fun i hi => (oh2 i (by omega)).trans (fr i hi)
        refine xa_iconst (pc := 44) dX10_figures_44 ?_
        refine xa_istorew (pc := 45) [some (xa_r k), some (xa_i 3), some (xa_i 1), some (xa_i 0), some (xa_i 0), g5] dX10_figures_45 (by decide) (Nat.le_of_ble_eq_true rfl) rfl rfl ?_
        refine xa_iconst (pc := 47) dX10_figures_47 ?_
        refine xa_istorew (pc := 48) [some (xa_r k), some (xa_i 3), some (xa_i 1), some (xa_i 0), some (xa_i 0), some (xa_i 0)] dX10_figures_48 (by decide) (Nat.le_of_ble_eq_true rfl) rfl rfl ?_
        refine c_dig_loop (a := ((a0 + 1) + 0)) (F := (xa_uF F 13 (xa_upf (F 13) 0 v0))) (s := (xa_upf s 15 ((a0 + 1 + 0 : Nat) : Int))) (mn := 3) (kk := 1) (L := 0) (h0 := h2) (by omega) hs0 hn9 hf (by omega) (fun m1 hq1 hm1 hd1 ht1 hM hqn hqf => ?_) 6 0 _ (by omega) (by omega) (fun j hj => absurd hj (Nat.not_lt_zero _)) ⟨hM0, hM1, hM2, hM3, hM4, hM5, hM6, hM7, hM8, hM9, hM10, hM11, hM12, hM13, hM14, hM15, hM16, by omega, by omega⟩ rfl (fun _ _ => rfl)
        obtain ⟨hM0, hM1, hM2, hM3, hM4, hM5, hM6, hM7, hM8, hM9, hM10, hM11, hM12, hM13, hM14, hM15, hM16, hMk, hMn⟩ := hM
        have hM0 : hq1.1 k = xa_o 10 [xa_i (s 0), xa_r (k + 1), xa_r (k + 2), xa_r (k + 3), xa_r (k + 4), xa_r (k + 5), xa_r (k + 6), xa_r (k + 7), xa_r (k + 8), xa_r (k + 9), xa_r (k + 10), xa_r (k + 11), xa_r (k + 12), xa_i (s 13), xa_i (s 14), xa_i ((((a0 + 1) + 0) + m1 : Nat) : Int), xa_r (k + 13), xa_i (s 17), xa_i (s 18), xa_i (s 19), xa_i (s 20), xa_r (k + 14), xa_r (k + 15), xa_i (s 23), xa_r (k + 16)] := hM0
        have hM1 : hq1.1 (k + 1) = xa_a 120 (F 1) := hM1
        have hM2 : hq1.1 (k + 2) = xa_a 2 (F 2) := hM2
        have hM3 : hq1.1 (k + 3) = xa_a 18 (F 3) := hM3
        have hM4 : hq1.1 (k + 4) = xa_a 2 (F 4) := hM4
        have hM5 : hq1.1 (k + 5) = xa_a 4 (F 5) := hM5
        have hM6 : hq1.1 (k + 6) = xa_a 4 (F 6) := hM6
        have hM7 : hq1.1 (k + 7) = xa_a 2 (F 7) := hM7
        have hM8 : hq1.1 (k + 8) = xa_a 2 (F 8) := hM8
        have hM9 : hq1.1 (k + 9) = xa_a 12 (F 9) := hM9
        have hM10 : hq1.1 (k + 10) = xa_a 720 (F 10) := hM10
        have hM11 : hq1.1 (k + 11) = xa_a 3 (F 11) := hM11
        have hM12 : hq1.1 (k + 12) = xa_a 360 (F 12) := hM12
        have hM13 : hq1.1 (k + 13) = xa_a 3 (xa_upf (F 13) 0 v0) := hM13
        have hM14 : hq1.1 (k + 14) = xa_a 583200 (F 14) := hM14
        have hM15 : hq1.1 (k + 15) = xa_a 583200 (F 15) := hM15
        have hM16 : hq1.1 (k + 16) = xa_a 4 (F 16) := hM16
        have hn : hq1.2 = h0.2 := hqn.trans hn
        have fr : ∀ i, (i < k ∨ k + 17 ≤ i) → hq1.1 i = h0.1 i := fun i hi => (hqf i (by omega)).trans (fr i hi)
        have hd1 : ∀ j, j < m1 → sp_isd n (F 1) (((a0 + 1) + 0) + j) := hd1
        have ht1 : m1 = 5 ∨ ¬ sp_isd n (F 1) (((a0 + 1) + 0) + m1) := ht1
        refine xa_locals (ls' := [some (xa_r k), some (xa_i 3), some (xa_i 1), some (xa_i 0), some (xa_i ((m1 : Nat) : Int)), some (xa_i (sp_val n (F 1) ((a0 + 1) + 0) m1))]) rfl ?_
        have hg1 : sp_neg n (F 1) (a0 + 1) = 0 := by unfold sp_neg; first | exact if_pos (by omega) | exact if_neg (by omega)
        have z1 := rd_num_m (p := (a0 + 1)) (g := 0) hg1 hm1 hd1 ht1
        have hvp1 := sp_val_p n (F 1) ((a0 + 1) + 0) m1 hd1
        have hvm1 : m1 ≤ 4 → sp_val n (F 1) ((a0 + 1) + 0) m1 ≤ 9999 := fun q => (sp_val_b q hd1).2
        have hvx1 : (10 : Int) ^ m1 ≤ 100000 := by
          have e : m1 = 0 ∨ m1 = 1 ∨ m1 = 2 ∨ m1 = 3 ∨ m1 = 4 ∨ m1 = 5 := by omega
          rcases e with e | e | e | e | e | e <;> rw [e] <;> decide
        generalize hx1 : sp_val n (F 1) ((a0 + 1) + 0) m1 = x1 at z1 hvp1 hvm1 ⊢
        generalize ha1 : ((a0 + 1) + 0) + m1 = a1 at z1 ⊢
        have hM0 : hq1.1 k = xa_o 10 [xa_i (s 0), xa_r (k + 1), xa_r (k + 2), xa_r (k + 3), xa_r (k + 4), xa_r (k + 5), xa_r (k + 6), xa_r (k + 7), xa_r (k + 8), xa_r (k + 9), xa_r (k + 10), xa_r (k + 11), xa_r (k + 12), xa_i (s 13), xa_i (s 14), xa_i ((a1 : Nat) : Int), xa_r (k + 13), xa_i (s 17), xa_i (s 18), xa_i (s 19), xa_i (s 20), xa_r (k + 14), xa_r (k + 15), xa_i (s 23), xa_r (k + 16)] := by rw [← ha1]; exact hM0
        refine xa_iload (pc := 112) dX10_figures_112 rfl ?_
        refine xa_i2l (pc := 114) dX10_figures_114 ⟨by omega, by omega⟩ ?_
        refine xa_lconst (pc := 115) (n := 1) dX10_figures_115 rfl ?_
        refine xa_ldc2 (pc := 116) (n := 4) dX10_figures_116 ctRX10_85 rfl ?_
        refine xa_callS (pc := 119) (as := [xa_l ((m1 : Nat) : Int), xa_l 1, xa_l 4]) (rest := []) dX10_figures_119 ⟨qX10_in.1, qX10_in.2.1, qX10_in.2.2, by decide, by decide⟩ lkRX10_65 smX10_in rfl rfl (Nat.le_of_ble_eq_true rfl) (Nat.zero_le _) (Nat.zero_le _) (c_in _ _ _ ⟨by omega, by omega⟩ ⟨by omega, by omega⟩ ⟨by omega, by omega⟩) (fun r h' hq => ?_)
        obtain ⟨rfl, hq⟩ := hq
        have hq := hq.symm
        subst hq
        refine xa_if_eq (pc := 122) (tgt := 159) dX10_figures_122 (by decide) xa_okb (fun c_122 => ?_) (fun c_122 => ?_)
        · have c_122 := xa_b0.mp c_122
          refine xa_iconst (pc := 159) dX10_figures_159 ?_
          refine xa_ireturn (pc := 160) dX10_figures_160 rfl (Or.inl rfl) ?_
          have ng : nosg n (F 1) (a0 + 1) 44 := by
            by_cases hc : (1 ≤ m1 ∧ m1 ≤ 4) ∧ ¬ ((0 : Nat) = 1 ∧ x1 = 0)
            · exact Or.inr ⟨_, _, by rw [z1, if_pos hc], by omega⟩
            · exact Or.inl (by rw [z1, if_neg hc])
          exact Or.inr ⟨fg3_1 e0 (by omega) ng, rfl, _, _, ⟨hM0, hM1, hM2, hM3, hM4, hM5, hM6, hM7, hM8, hM9, hM10, hM11, hM12, hM13, hM14, hM15, hM16, by omega, by omega⟩, hn, fr⟩
        · have c_122 := xa_b1.mp c_122
          refine xa_iload_n (pc := 125) dX10_figures_125 rfl ?_
          refine xa_if_eq (pc := 126) (tgt := 134) dX10_figures_126 (by decide) (by decide) (fun c_126 => ?_) (fun c_126 => ?_)
          · skip
            refine xa_aload_n (pc := 134) dX10_figures_134 rfl ?_
            refine xa_aload_n (pc := 135) dX10_figures_135 rfl ?_
            refine xa_getfield (pc := 136) dX10_figures_136 flRX10_74 (by omega) (by omega) hM0 rfl ?_
            refine xa_callV (pc := 139) (as := [xa_i ((a1 : Nat) : Int)]) (rest := []) dX10_figures_139 ⟨qX10_byteAt.1, qX10_byteAt.2.1, qX10_byteAt.2.2, by decide, by decide⟩ lkRX10_77 imX10_byteAt seX10_byteAt rfl rfl (by omega) (by omega) hM0 rfl (Nat.le_of_ble_eq_true rfl) (Nat.zero_le _) (Nat.zero_le _) (c_mByteN _ n a1 (xa_uF F 13 (xa_upf (F 13) 0 v0)) (xa_upf s 15 ((a1 : Nat) : Int)) (by omega) hs0 hn9 ⟨hM0, hM1, hM2, hM3, hM4, hM5, hM6, hM7, hM8, hM9, hM10, hM11, hM12, hM13, hM14, hM15, hM16, by omega, by omega⟩) (fun r h' hq => ?_)
            obtain ⟨⟨y139_3, rfl, by139_3⟩, hq⟩ := hq
            have by139_3 : y139_3 = sp_at n (F 1) ((a1 : Nat) : Int) ∨ y139_3 = 0 ∧ sp_at n (F 1) ((a1 : Nat) : Int) = -1 := by139_3
            have hq := hq.symm
            subst hq
            have ay139_3 := sp_at_b (n := n) hf ((a1 : Nat) : Int)
            refine xa_iload_n (pc := 142) dX10_figures_142 rfl ?_
            refine xa_iload_n (pc := 143) dX10_figures_143 rfl ?_
            refine xa_iconst (pc := 144) dX10_figures_144 ?_
            refine xa_isub (pc := 145) dX10_figures_145 ?_
            refine xa_top (y := 2) (by decide) ?_
            refine xa_icmp_ge (pc := 146) (tgt := 154) dX10_figures_146 (by decide) (by decide) (by decide) (fun c_146 => ?_) (fun c_146 => ?_)
            · skip
              exfalso; omega
            · skip
              refine xa_bipush (pc := 149) dX10_figures_149 rfl ?_
              refine xa_goto (pc := 151) (tgt := 156) dX10_figures_151 (by decide) ?_
              refine xa_icmp_eq (pc := 156) (tgt := 161) dX10_figures_156 (by decide) ⟨by omega, by omega⟩ (by decide) (fun c_156 => ?_) (fun c_156 => ?_)
              · skip
                refine xa_aload_n (pc := 161) dX10_figures_161 rfl ?_
                refine xa_getfield (pc := 162) dX10_figures_162 flRX10_46 (by omega) (by omega) hM0 rfl ?_
                refine xa_iload_n (pc := 165) dX10_figures_165 rfl ?_
                refine xa_iload_n (pc := 166) dX10_figures_166 rfl ?_
                refine xa_if_eq (pc := 167) (tgt := 176) dX10_figures_167 (by decide) (by decide) (fun c_167 => ?_) (fun c_167 => ?_)
                · skip
                  refine xa_iload (pc := 176) dX10_figures_176 rfl ?_
                  refine xa_iastw (pc := 178) 1 dX10_figures_178 (by omega) (by omega) hM13 (by omega) (by omega) rfl (fun h4 nh4 ch4 oh4 => ?_)
                  have hM13 : h4.1 (k + 13) = xa_a 3 (xa_upf (xa_upf (F 13) 0 v0) 1 x1) := ch4
                  have hM0 : h4.1 k = xa_o 10 [xa_i (s 0), xa_r (k + 1), xa_r (k + 2), xa_r (k + 3), xa_r (k + 4), xa_r (k + 5), xa_r (k + 6), xa_r (k + 7), xa_r (k + 8), xa_r (k + 9), xa_r (k + 10), xa_r (k + 11), xa_r (k + 12), xa_i (s 13), xa_i (s 14), xa_i ((a1 : Nat) : Int), xa_r (k + 13), xa_i (s 17), xa_i (s 18), xa_i (s 19), xa_i (s 20), xa_r (k + 14), xa_r (k + 15), xa_i (s 23), xa_r (k + 16)] := (oh4 _ (by omega)).trans hM0
                  have hM1 : h4.1 (k + 1) = xa_a 120 (F 1) := (oh4 _ (by omega)).trans hM1
                  have hM2 : h4.1 (k + 2) = xa_a 2 (F 2) := (oh4 _ (by omega)).trans hM2
                  have hM3 : h4.1 (k + 3) = xa_a 18 (F 3) := (oh4 _ (by omega)).trans hM3
                  have hM4 : h4.1 (k + 4) = xa_a 2 (F 4) := (oh4 _ (by omega)).trans hM4
                  have hM5 : h4.1 (k + 5) = xa_a 4 (F 5) := (oh4 _ (by omega)).trans hM5
                  have hM6 : h4.1 (k + 6) = xa_a 4 (F 6) := (oh4 _ (by omega)).trans hM6
                  have hM7 : h4.1 (k + 7) = xa_a 2 (F 7) := (oh4 _ (by omega)).trans hM7
                  have hM8 : h4.1 (k + 8) = xa_a 2 (F 8) := (oh4 _ (by omega)).trans hM8
                  have hM9 : h4.1 (k + 9) = xa_a 12 (F 9) := (oh4 _ (by omega)).trans hM9
                  have hM10 : h4.1 (k + 10) = xa_a 720 (F 10) := (oh4 _ (by omega)).trans hM10
                  have hM11 : h4.1 (k + 11) = xa_a 3 (F 11) := (oh4 _ (by omega)).trans hM11
                  have hM12 : h4.1 (k + 12) = xa_a 360 (F 12) := (oh4 _ (by omega)).trans hM12
                  have hM14 : h4.1 (k + 14) = xa_a 583200 (F 14) := (oh4 _ (by omega)).trans hM14
                  have hM15 : h4.1 (k + 15) = xa_a 583200 (F 15) := (oh4 _ (by omega)).trans hM15
                  have hM16 : h4.1 (k + 16) = xa_a 4 (F 16) := (oh4 _ (by omega)).trans hM16
                  have hn : h4.2 = h0.2 := nh4.trans hn
                  have fr : ∀ i, (i < k ∨ k + 17 ≤ i) → h4.1 i = h0.1 i := fun i hi => (oh4 i (by omega)).trans (fr i hi)
                  refine xa_aload_n (pc := 179) dX10_figures_179 rfl ?_
                  refine xa_dup (pc := 180) dX10_figures_180 rfl ?_
                  refine xa_getfield (pc := 181) dX10_figures_181 flRX10_74 (by omega) (by omega) hM0 rfl ?_
                  refine xa_iconst (pc := 184) dX10_figures_184 ?_
                  refine xa_iadd (pc := 185) dX10_figures_185 ?_
                  refine xa_top (y := ((a1 + 1 : Nat) : Int)) (by omega) ?_
                  refine xa_putw (pc := 186) [xa_i (s 0), xa_r (k + 1), xa_r (k + 2), xa_r (k + 3), xa_r (k + 4), xa_r (k + 5), xa_r (k + 6), xa_r (k + 7), xa_r (k + 8), xa_r (k + 9), xa_r (k + 10), xa_r (k + 11), xa_r (k + 12), xa_i (s 13), xa_i (s 14), xa_i ((a1 + 1 : Nat) : Int), xa_r (k + 13), xa_i (s 17), xa_i (s 18), xa_i (s 19), xa_i (s 20), xa_r (k + 14), xa_r (k + 15), xa_i (s 23), xa_r (k + 16)] dX10_figures_186 flRX10_74 plX10_15 (by omega) (by omega) hM0 trivial rfl (fun h5 nh5 ch5 oh5 => ?_)
                  have hM0 : h5.1 k = xa_o 10 [xa_i (s 0), xa_r (k + 1), xa_r (k + 2), xa_r (k + 3), xa_r (k + 4), xa_r (k + 5), xa_r (k + 6), xa_r (k + 7), xa_r (k + 8), xa_r (k + 9), xa_r (k + 10), xa_r (k + 11), xa_r (k + 12), xa_i (s 13), xa_i (s 14), xa_i ((a1 + 1 : Nat) : Int), xa_r (k + 13), xa_i (s 17), xa_i (s 18), xa_i (s 19), xa_i (s 20), xa_r (k + 14), xa_r (k + 15), xa_i (s 23), xa_r (k + 16)] := ch5
                  have hM1 : h5.1 (k + 1) = xa_a 120 (F 1) := (oh5 _ (by omega)).trans hM1
                  have hM2 : h5.1 (k + 2) = xa_a 2 (F 2) := (oh5 _ (by omega)).trans hM2
                  have hM3 : h5.1 (k + 3) = xa_a 18 (F 3) := (oh5 _ (by omega)).trans hM3
                  have hM4 : h5.1 (k + 4) = xa_a 2 (F 4) := (oh5 _ (by omega)).trans hM4
                  have hM5 : h5.1 (k + 5) = xa_a 4 (F 5) := (oh5 _ (by omega)).trans hM5
                  have hM6 : h5.1 (k + 6) = xa_a 4 (F 6) := (oh5 _ (by omega)).trans hM6
                  have hM7 : h5.1 (k + 7) = xa_a 2 (F 7) := (oh5 _ (by omega)).trans hM7
                  have hM8 : h5.1 (k + 8) = xa_a 2 (F 8) := (oh5 _ (by omega)).trans hM8
                  have hM9 : h5.1 (k + 9) = xa_a 12 (F 9) := (oh5 _ (by omega)).trans hM9
                  have hM10 : h5.1 (k + 10) = xa_a 720 (F 10) := (oh5 _ (by omega)).trans hM10
                  have hM11 : h5.1 (k + 11) = xa_a 3 (F 11) := (oh5 _ (by omega)).trans hM11
                  have hM12 : h5.1 (k + 12) = xa_a 360 (F 12) := (oh5 _ (by omega)).trans hM12
                  have hM13 : h5.1 (k + 13) = xa_a 3 (xa_upf (xa_upf (F 13) 0 v0) 1 x1) := (oh5 _ (by omega)).trans hM13
                  have hM14 : h5.1 (k + 14) = xa_a 583200 (F 14) := (oh5 _ (by omega)).trans hM14
                  have hM15 : h5.1 (k + 15) = xa_a 583200 (F 15) := (oh5 _ (by omega)).trans hM15
                  have hM16 : h5.1 (k + 16) = xa_a 4 (F 16) := (oh5 _ (by omega)).trans hM16
                  have hn : h5.2 = h0.2 := nh5.trans hn
                  have fr : ∀ i, (i < k ∨ k + 17 ≤ i) → h5.1 i = h0.1 i := fun i hi => (oh5 i (by omega)).trans (fr i hi)
                  refine xa_iincw (pc := 189) (y := 2) [some (xa_r k), some (xa_i 3), some (xa_i 2), some (xa_i 0), some (xa_i ((m1 : Nat) : Int)), some (xa_i x1)] dX10_figures_189 (by decide) rfl rfl rfl rfl ?_
                  refine xa_goto (pc := 192) (tgt := 2) dX10_figures_192 (by decide) ?_
                  have e1 : rd_num n (F 1) (a0 + 1) = some (x1, a1) := by rw [z1, if_pos (by omega)]; rfl
                  exact c_fig3_2 hs0 hn9 hf hp9 (by omega) (by omega) e0 (by omega) (by omega) e1 (by omega) (by omega) hM0 hM1 hM2 hM3 hM4 hM5 hM6 hM7 hM8 hM9 hM10 hM11 hM12 hM13 hM14 hM15 hM16 hn fr
                · skip
                  exfalso; omega
              · skip
                refine xa_iconst (pc := 159) dX10_figures_159 ?_
                refine xa_ireturn (pc := 160) dX10_figures_160 rfl (Or.inl rfl) ?_
                have ng : nosg n (F 1) (a0 + 1) 44 := by
                  by_cases hc : (1 ≤ m1 ∧ m1 ≤ 4) ∧ ¬ ((0 : Nat) = 1 ∧ x1 = 0)
                  · exact Or.inr ⟨_, _, by rw [z1, if_pos hc], by omega⟩
                  · exact Or.inl (by rw [z1, if_neg hc])
                exact Or.inr ⟨fg3_1 e0 (by omega) ng, rfl, _, _, ⟨hM0, hM1, hM2, hM3, hM4, hM5, hM6, hM7, hM8, hM9, hM10, hM11, hM12, hM13, hM14, hM15, hM16, by omega, by omega⟩, hn, fr⟩
          · skip
            exfalso; omega
      · skip
        exfalso; omega
    · skip
      refine xa_iconst (pc := 20) dX10_figures_20 ?_
      refine xa_goto (pc := 21) (tgt := 25) dX10_figures_21 (by decide) ?_
      refine xa_istoren (pc := 25) [some (xa_r k), some (xa_i 3), some (xa_i 1), some (xa_i 1), g4, g5] dX10_figures_25 (by decide) (Nat.le_of_ble_eq_true rfl) rfl rfl ?_
      refine xa_aload_n (pc := 26) dX10_figures_26 rfl ?_
      refine xa_dup (pc := 27) dX10_figures_27 rfl ?_
      refine xa_getfield (pc := 28) dX10_figures_28 flRX10_74 (by omega) (by omega) hM0 rfl ?_
      refine xa_iload_n (pc := 31) dX10_figures_31 rfl ?_
      refine xa_if_eq (pc := 32) (tgt := 39) dX10_figures_32 (by decide) (by decide) (fun c_32 => ?_) (fun c_32 => ?_)
      · skip
        exfalso; omega
      · skip
        refine xa_iconst (pc := 35) dX10_figures_35 ?_
        refine xa_goto (pc := 36) (tgt := 40) dX10_figures_36 (by decide) ?_
        refine xa_iadd (pc := 40) dX10_figures_40 ?_
        refine xa_top (y := ((a0 + 1 + 1 : Nat) : Int)) (by omega) ?_
        refine xa_putw (pc := 41) [xa_i (s 0), xa_r (k + 1), xa_r (k + 2), xa_r (k + 3), xa_r (k + 4), xa_r (k + 5), xa_r (k + 6), xa_r (k + 7), xa_r (k + 8), xa_r (k + 9), xa_r (k + 10), xa_r (k + 11), xa_r (k + 12), xa_i (s 13), xa_i (s 14), xa_i ((a0 + 1 + 1 : Nat) : Int), xa_r (k + 13), xa_i (s 17), xa_i (s 18), xa_i (s 19), xa_i (s 20), xa_r (k + 14), xa_r (k + 15), xa_i (s 23), xa_r (k + 16)] dX10_figures_41 flRX10_74 plX10_15 (by omega) (by omega) hM0 trivial rfl (fun h6 nh6 ch6 oh6 => ?_)
        have hM0 : h6.1 k = xa_o 10 [xa_i (s 0), xa_r (k + 1), xa_r (k + 2), xa_r (k + 3), xa_r (k + 4), xa_r (k + 5), xa_r (k + 6), xa_r (k + 7), xa_r (k + 8), xa_r (k + 9), xa_r (k + 10), xa_r (k + 11), xa_r (k + 12), xa_i (s 13), xa_i (s 14), xa_i ((a0 + 1 + 1 : Nat) : Int), xa_r (k + 13), xa_i (s 17), xa_i (s 18), xa_i (s 19), xa_i (s 20), xa_r (k + 14), xa_r (k + 15), xa_i (s 23), xa_r (k + 16)] := ch6
        have hM1 : h6.1 (k + 1) = xa_a 120 (F 1) := (oh6 _ (by omega)).trans hM1
        have hM2 : h6.1 (k + 2) = xa_a 2 (F 2) := (oh6 _ (by omega)).trans hM2
        have hM3 : h6.1 (k + 3) = xa_a 18 (F 3) := (oh6 _ (by omega)).trans hM3
        have hM4 : h6.1 (k + 4) = xa_a 2 (F 4) := (oh6 _ (by omega)).trans hM4
        have hM5 : h6.1 (k + 5) = xa_a 4 (F 5) := (oh6 _ (by omega)).trans hM5
        have hM6 : h6.1 (k + 6) = xa_a 4 (F 6) := (oh6 _ (by omega)).trans hM6
        have hM7 : h6.1 (k + 7) = xa_a 2 (F 7) := (oh6 _ (by omega)).trans hM7
        have hM8 : h6.1 (k + 8) = xa_a 2 (F 8) := (oh6 _ (by omega)).trans hM8
        have hM9 : h6.1 (k + 9) = xa_a 12 (F 9) := (oh6 _ (by omega)).trans hM9
        have hM10 : h6.1 (k + 10) = xa_a 720 (F 10) := (oh6 _ (by omega)).trans hM10
        have hM11 : h6.1 (k + 11) = xa_a 3 (F 11) := (oh6 _ (by omega)).trans hM11
        have hM12 : h6.1 (k + 12) = xa_a 360 (F 12) := (oh6 _ (by omega)).trans hM12
        have hM13 : h6.1 (k + 13) = xa_a 3 (xa_upf (F 13) 0 v0) := (oh6 _ (by omega)).trans hM13
        have hM14 : h6.1 (k + 14) = xa_a 583200 (F 14) := (oh6 _ (by omega)).trans hM14
        have hM15 : h6.1 (k + 15) = xa_a 583200 (F 15) := (oh6 _ (by omega)).trans hM15
        have hM16 : h6.1 (k + 16) = xa_a 4 (F 16) := (oh6 _ (by omega)).trans hM16
        have hn : h6.2 = h0.2 := nh6.trans hn
        have fr : ∀ i, (i < k ∨ k + 17 ≤ i) → h6.1 i = h0.1 i := fun i hi => (oh6 i (by omega)).trans (fr i hi)
        refine xa_iconst (pc := 44) dX10_figures_44 ?_
        refine xa_istorew (pc := 45) [some (xa_r k), some (xa_i 3), some (xa_i 1), some (xa_i 1), some (xa_i 0), g5] dX10_figures_45 (by decide) (Nat.le_of_ble_eq_true rfl) rfl rfl ?_
        refine xa_iconst (pc := 47) dX10_figures_47 ?_
        refine xa_istorew (pc := 48) [some (xa_r k), some (xa_i 3), some (xa_i 1), some (xa_i 1), some (xa_i 0), some (xa_i 0)] dX10_figures_48 (by decide) (Nat.le_of_ble_eq_true rfl) rfl rfl ?_
        refine c_dig_loop (a := ((a0 + 1) + 1)) (F := (xa_uF F 13 (xa_upf (F 13) 0 v0))) (s := (xa_upf s 15 ((a0 + 1 + 1 : Nat) : Int))) (mn := 3) (kk := 1) (L := 1) (h0 := h6) (by omega) hs0 hn9 hf (by omega) (fun m1 hq1 hm1 hd1 ht1 hM hqn hqf => ?_) 6 0 _ (by omega) (by omega) (fun j hj => absurd hj (Nat.not_lt_zero _)) ⟨hM0, hM1, hM2, hM3, hM4, hM5, hM6, hM7, hM8, hM9, hM10, hM11, hM12, hM13, hM14, hM15, hM16, by omega, by omega⟩ rfl (fun _ _ => rfl)
        obtain ⟨hM0, hM1, hM2, hM3, hM4, hM5, hM6, hM7, hM8, hM9, hM10, hM11, hM12, hM13, hM14, hM15, hM16, hMk, hMn⟩ := hM
        have hM0 : hq1.1 k = xa_o 10 [xa_i (s 0), xa_r (k + 1), xa_r (k + 2), xa_r (k + 3), xa_r (k + 4), xa_r (k + 5), xa_r (k + 6), xa_r (k + 7), xa_r (k + 8), xa_r (k + 9), xa_r (k + 10), xa_r (k + 11), xa_r (k + 12), xa_i (s 13), xa_i (s 14), xa_i ((((a0 + 1) + 1) + m1 : Nat) : Int), xa_r (k + 13), xa_i (s 17), xa_i (s 18), xa_i (s 19), xa_i (s 20), xa_r (k + 14), xa_r (k + 15), xa_i (s 23), xa_r (k + 16)] := hM0
        have hM1 : hq1.1 (k + 1) = xa_a 120 (F 1) := hM1
        have hM2 : hq1.1 (k + 2) = xa_a 2 (F 2) := hM2
        have hM3 : hq1.1 (k + 3) = xa_a 18 (F 3) := hM3
        have hM4 : hq1.1 (k + 4) = xa_a 2 (F 4) := hM4
        have hM5 : hq1.1 (k + 5) = xa_a 4 (F 5) := hM5
        have hM6 : hq1.1 (k + 6) = xa_a 4 (F 6) := hM6
        have hM7 : hq1.1 (k + 7) = xa_a 2 (F 7) := hM7
        have hM8 : hq1.1 (k + 8) = xa_a 2 (F 8) := hM8
        have hM9 : hq1.1 (k + 9) = xa_a 12 (F 9) := hM9
        have hM10 : hq1.1 (k + 10) = xa_a 720 (F 10) := hM10
        have hM11 : hq1.1 (k + 11) = xa_a 3 (F 11) := hM11
        have hM12 : hq1.1 (k + 12) = xa_a 360 (F 12) := hM12
        have hM13 : hq1.1 (k + 13) = xa_a 3 (xa_upf (F 13) 0 v0) := hM13
        have hM14 : hq1.1 (k + 14) = xa_a 583200 (F 14) := hM14
        have hM15 : hq1.1 (k + 15) = xa_a 583200 (F 15) := hM15
        have hM16 : hq1.1 (k + 16) = xa_a 4 (F 16) := hM16
        have hn : hq1.2 = h0.2 := hqn.trans hn
        have fr : ∀ i, (i < k ∨ k + 17 ≤ i) → hq1.1 i = h0.1 i := fun i hi => (hqf i (by omega)).trans (fr i hi)
        have hd1 : ∀ j, j < m1 → sp_isd n (F 1) (((a0 + 1) + 1) + j) := hd1
        have ht1 : m1 = 5 ∨ ¬ sp_isd n (F 1) (((a0 + 1) + 1) + m1) := ht1
        refine xa_locals (ls' := [some (xa_r k), some (xa_i 3), some (xa_i 1), some (xa_i 1), some (xa_i ((m1 : Nat) : Int)), some (xa_i (sp_val n (F 1) ((a0 + 1) + 1) m1))]) rfl ?_
        have hg1 : sp_neg n (F 1) (a0 + 1) = 1 := by unfold sp_neg; first | exact if_pos (by omega) | exact if_neg (by omega)
        have z1 := rd_num_m (p := (a0 + 1)) (g := 1) hg1 hm1 hd1 ht1
        have hvp1 := sp_val_p n (F 1) ((a0 + 1) + 1) m1 hd1
        have hvm1 : m1 ≤ 4 → sp_val n (F 1) ((a0 + 1) + 1) m1 ≤ 9999 := fun q => (sp_val_b q hd1).2
        have hvx1 : (10 : Int) ^ m1 ≤ 100000 := by
          have e : m1 = 0 ∨ m1 = 1 ∨ m1 = 2 ∨ m1 = 3 ∨ m1 = 4 ∨ m1 = 5 := by omega
          rcases e with e | e | e | e | e | e <;> rw [e] <;> decide
        generalize hx1 : sp_val n (F 1) ((a0 + 1) + 1) m1 = x1 at z1 hvp1 hvm1 ⊢
        generalize ha1 : ((a0 + 1) + 1) + m1 = a1 at z1 ⊢
        have hM0 : hq1.1 k = xa_o 10 [xa_i (s 0), xa_r (k + 1), xa_r (k + 2), xa_r (k + 3), xa_r (k + 4), xa_r (k + 5), xa_r (k + 6), xa_r (k + 7), xa_r (k + 8), xa_r (k + 9), xa_r (k + 10), xa_r (k + 11), xa_r (k + 12), xa_i (s 13), xa_i (s 14), xa_i ((a1 : Nat) : Int), xa_r (k + 13), xa_i (s 17), xa_i (s 18), xa_i (s 19), xa_i (s 20), xa_r (k + 14), xa_r (k + 15), xa_i (s 23), xa_r (k + 16)] := by rw [← ha1]; exact hM0
        refine xa_iload (pc := 112) dX10_figures_112 rfl ?_
        refine xa_i2l (pc := 114) dX10_figures_114 ⟨by omega, by omega⟩ ?_
        refine xa_lconst (pc := 115) (n := 1) dX10_figures_115 rfl ?_
        refine xa_ldc2 (pc := 116) (n := 4) dX10_figures_116 ctRX10_85 rfl ?_
        refine xa_callS (pc := 119) (as := [xa_l ((m1 : Nat) : Int), xa_l 1, xa_l 4]) (rest := []) dX10_figures_119 ⟨qX10_in.1, qX10_in.2.1, qX10_in.2.2, by decide, by decide⟩ lkRX10_65 smX10_in rfl rfl (Nat.le_of_ble_eq_true rfl) (Nat.zero_le _) (Nat.zero_le _) (c_in _ _ _ ⟨by omega, by omega⟩ ⟨by omega, by omega⟩ ⟨by omega, by omega⟩) (fun r h' hq => ?_)
        obtain ⟨rfl, hq⟩ := hq
        have hq := hq.symm
        subst hq
        refine xa_if_eq (pc := 122) (tgt := 159) dX10_figures_122 (by decide) xa_okb (fun c_122 => ?_) (fun c_122 => ?_)
        · have c_122 := xa_b0.mp c_122
          refine xa_iconst (pc := 159) dX10_figures_159 ?_
          refine xa_ireturn (pc := 160) dX10_figures_160 rfl (Or.inl rfl) ?_
          have ng : nosg n (F 1) (a0 + 1) 44 := by
            by_cases hc : (1 ≤ m1 ∧ m1 ≤ 4) ∧ ¬ ((1 : Nat) = 1 ∧ x1 = 0)
            · exact Or.inr ⟨_, _, by rw [z1, if_pos hc], by omega⟩
            · exact Or.inl (by rw [z1, if_neg hc])
          exact Or.inr ⟨fg3_1 e0 (by omega) ng, rfl, _, _, ⟨hM0, hM1, hM2, hM3, hM4, hM5, hM6, hM7, hM8, hM9, hM10, hM11, hM12, hM13, hM14, hM15, hM16, by omega, by omega⟩, hn, fr⟩
        · have c_122 := xa_b1.mp c_122
          refine xa_iload_n (pc := 125) dX10_figures_125 rfl ?_
          refine xa_if_eq (pc := 126) (tgt := 134) dX10_figures_126 (by decide) (by decide) (fun c_126 => ?_) (fun c_126 => ?_)
          · skip
            exfalso; omega
          · skip
            refine xa_iload (pc := 129) dX10_figures_129 rfl ?_
            refine xa_if_eq (pc := 131) (tgt := 159) dX10_figures_131 (by decide) ⟨by omega, by omega⟩ (fun c_131 => ?_) (fun c_131 => ?_)
            · skip
              refine xa_iconst (pc := 159) dX10_figures_159 ?_
              refine xa_ireturn (pc := 160) dX10_figures_160 rfl (Or.inl rfl) ?_
              have ng : nosg n (F 1) (a0 + 1) 44 := by
                by_cases hc : (1 ≤ m1 ∧ m1 ≤ 4) ∧ ¬ ((1 : Nat) = 1 ∧ x1 = 0)
                · exact Or.inr ⟨_, _, by rw [z1, if_pos hc], by omega⟩
                · exact Or.inl (by rw [z1, if_neg hc])
              exact Or.inr ⟨fg3_1 e0 (by omega) ng, rfl, _, _, ⟨hM0, hM1, hM2, hM3, hM4, hM5, hM6, hM7, hM8, hM9, hM10, hM11, hM12, hM13, hM14, hM15, hM16, by omega, by omega⟩, hn, fr⟩
            · skip
              refine xa_aload_n (pc := 134) dX10_figures_134 rfl ?_
              refine xa_aload_n (pc := 135) dX10_figures_135 rfl ?_
              refine xa_getfield (pc := 136) dX10_figures_136 flRX10_74 (by omega) (by omega) hM0 rfl ?_
              refine xa_callV (pc := 139) (as := [xa_i ((a1 : Nat) : Int)]) (rest := []) dX10_figures_139 ⟨qX10_byteAt.1, qX10_byteAt.2.1, qX10_byteAt.2.2, by decide, by decide⟩ lkRX10_77 imX10_byteAt seX10_byteAt rfl rfl (by omega) (by omega) hM0 rfl (Nat.le_of_ble_eq_true rfl) (Nat.zero_le _) (Nat.zero_le _) (c_mByteN _ n a1 (xa_uF F 13 (xa_upf (F 13) 0 v0)) (xa_upf s 15 ((a1 : Nat) : Int)) (by omega) hs0 hn9 ⟨hM0, hM1, hM2, hM3, hM4, hM5, hM6, hM7, hM8, hM9, hM10, hM11, hM12, hM13, hM14, hM15, hM16, by omega, by omega⟩) (fun r h' hq => ?_)
              obtain ⟨⟨y139_7, rfl, by139_7⟩, hq⟩ := hq
              have by139_7 : y139_7 = sp_at n (F 1) ((a1 : Nat) : Int) ∨ y139_7 = 0 ∧ sp_at n (F 1) ((a1 : Nat) : Int) = -1 := by139_7
              have hq := hq.symm
              subst hq
              have ay139_7 := sp_at_b (n := n) hf ((a1 : Nat) : Int)
              refine xa_iload_n (pc := 142) dX10_figures_142 rfl ?_
              refine xa_iload_n (pc := 143) dX10_figures_143 rfl ?_
              refine xa_iconst (pc := 144) dX10_figures_144 ?_
              refine xa_isub (pc := 145) dX10_figures_145 ?_
              refine xa_top (y := 2) (by decide) ?_
              refine xa_icmp_ge (pc := 146) (tgt := 154) dX10_figures_146 (by decide) (by decide) (by decide) (fun c_146 => ?_) (fun c_146 => ?_)
              · skip
                exfalso; omega
              · skip
                refine xa_bipush (pc := 149) dX10_figures_149 rfl ?_
                refine xa_goto (pc := 151) (tgt := 156) dX10_figures_151 (by decide) ?_
                refine xa_icmp_eq (pc := 156) (tgt := 161) dX10_figures_156 (by decide) ⟨by omega, by omega⟩ (by decide) (fun c_156 => ?_) (fun c_156 => ?_)
                · skip
                  refine xa_aload_n (pc := 161) dX10_figures_161 rfl ?_
                  refine xa_getfield (pc := 162) dX10_figures_162 flRX10_46 (by omega) (by omega) hM0 rfl ?_
                  refine xa_iload_n (pc := 165) dX10_figures_165 rfl ?_
                  refine xa_iload_n (pc := 166) dX10_figures_166 rfl ?_
                  refine xa_if_eq (pc := 167) (tgt := 176) dX10_figures_167 (by decide) (by decide) (fun c_167 => ?_) (fun c_167 => ?_)
                  · skip
                    exfalso; omega
                  · skip
                    refine xa_iload (pc := 170) dX10_figures_170 rfl ?_
                    refine xa_ineg (pc := 172) dX10_figures_172 ?_
                    refine xa_goto (pc := 173) (tgt := 178) dX10_figures_173 (by decide) ?_
                    refine xa_iastw (pc := 178) 1 dX10_figures_178 (by omega) (by omega) hM13 (by omega) (by omega) rfl (fun h8 nh8 ch8 oh8 => ?_)
                    have hM13 : h8.1 (k + 13) = xa_a 3 (xa_upf (xa_upf (F 13) 0 v0) 1 (-x1)) := ch8
                    have hM0 : h8.1 k = xa_o 10 [xa_i (s 0), xa_r (k + 1), xa_r (k + 2), xa_r (k + 3), xa_r (k + 4), xa_r (k + 5), xa_r (k + 6), xa_r (k + 7), xa_r (k + 8), xa_r (k + 9), xa_r (k + 10), xa_r (k + 11), xa_r (k + 12), xa_i (s 13), xa_i (s 14), xa_i ((a1 : Nat) : Int), xa_r (k + 13), xa_i (s 17), xa_i (s 18), xa_i (s 19), xa_i (s 20), xa_r (k + 14), xa_r (k + 15), xa_i (s 23), xa_r (k + 16)] := (oh8 _ (by omega)).trans hM0
                    have hM1 : h8.1 (k + 1) = xa_a 120 (F 1) := (oh8 _ (by omega)).trans hM1
                    have hM2 : h8.1 (k + 2) = xa_a 2 (F 2) := (oh8 _ (by omega)).trans hM2
                    have hM3 : h8.1 (k + 3) = xa_a 18 (F 3) := (oh8 _ (by omega)).trans hM3
                    have hM4 : h8.1 (k + 4) = xa_a 2 (F 4) := (oh8 _ (by omega)).trans hM4
                    have hM5 : h8.1 (k + 5) = xa_a 4 (F 5) := (oh8 _ (by omega)).trans hM5
                    have hM6 : h8.1 (k + 6) = xa_a 4 (F 6) := (oh8 _ (by omega)).trans hM6
                    have hM7 : h8.1 (k + 7) = xa_a 2 (F 7) := (oh8 _ (by omega)).trans hM7
                    have hM8 : h8.1 (k + 8) = xa_a 2 (F 8) := (oh8 _ (by omega)).trans hM8
                    have hM9 : h8.1 (k + 9) = xa_a 12 (F 9) := (oh8 _ (by omega)).trans hM9
                    have hM10 : h8.1 (k + 10) = xa_a 720 (F 10) := (oh8 _ (by omega)).trans hM10
                    have hM11 : h8.1 (k + 11) = xa_a 3 (F 11) := (oh8 _ (by omega)).trans hM11
                    have hM12 : h8.1 (k + 12) = xa_a 360 (F 12) := (oh8 _ (by omega)).trans hM12
                    have hM14 : h8.1 (k + 14) = xa_a 583200 (F 14) := (oh8 _ (by omega)).trans hM14
                    have hM15 : h8.1 (k + 15) = xa_a 583200 (F 15) := (oh8 _ (by omega)).trans hM15
                    have hM16 : h8.1 (k + 16) = xa_a 4 (F 16) := (oh8 _ (by omega)).trans hM16
                    have hn : h8.2 = h0.2 := nh8.trans hn
                    have fr : ∀ i, (i < k ∨ k + 17 ≤ i) → h8.1 i = h0.1 i := fun i hi => (oh8 i (by omega)).trans (fr i hi)
                    refine xa_aload_n (pc := 179) dX10_figures_179 rfl ?_
                    refine xa_dup (pc := 180) dX10_figures_180 rfl ?_
                    refine xa_getfield (pc := 181) dX10_figures_181 flRX10_74 (by omega) (by omega) hM0 rfl ?_
                    refine xa_iconst (pc := 184) dX10_figures_184 ?_
                    refine xa_iadd (pc := 185) dX10_figures_185 ?_
                    refine xa_top (y := ((a1 + 1 : Nat) : Int)) (by omega) ?_
                    refine xa_putw (pc := 186) [xa_i (s 0), xa_r (k + 1), xa_r (k + 2), xa_r (k + 3), xa_r (k + 4), xa_r (k + 5), xa_r (k + 6), xa_r (k + 7), xa_r (k + 8), xa_r (k + 9), xa_r (k + 10), xa_r (k + 11), xa_r (k + 12), xa_i (s 13), xa_i (s 14), xa_i ((a1 + 1 : Nat) : Int), xa_r (k + 13), xa_i (s 17), xa_i (s 18), xa_i (s 19), xa_i (s 20), xa_r (k + 14), xa_r (k + 15), xa_i (s 23), xa_r (k + 16)] dX10_figures_186 flRX10_74 plX10_15 (by omega) (by omega) hM0 trivial rfl (fun h9 nh9 ch9 oh9 => ?_)
                    have hM0 : h9.1 k = xa_o 10 [xa_i (s 0), xa_r (k + 1), xa_r (k + 2), xa_r (k + 3), xa_r (k + 4), xa_r (k + 5), xa_r (k + 6), xa_r (k + 7), xa_r (k + 8), xa_r (k + 9), xa_r (k + 10), xa_r (k + 11), xa_r (k + 12), xa_i (s 13), xa_i (s 14), xa_i ((a1 + 1 : Nat) : Int), xa_r (k + 13), xa_i (s 17), xa_i (s 18), xa_i (s 19), xa_i (s 20), xa_r (k + 14), xa_r (k + 15), xa_i (s 23), xa_r (k + 16)] := ch9
                    have hM1 : h9.1 (k + 1) = xa_a 120 (F 1) := (oh9 _ (by omega)).trans hM1
                    have hM2 : h9.1 (k + 2) = xa_a 2 (F 2) := (oh9 _ (by omega)).trans hM2
                    have hM3 : h9.1 (k + 3) = xa_a 18 (F 3) := (oh9 _ (by omega)).trans hM3
                    have hM4 : h9.1 (k + 4) = xa_a 2 (F 4) := (oh9 _ (by omega)).trans hM4
                    have hM5 : h9.1 (k + 5) = xa_a 4 (F 5) := (oh9 _ (by omega)).trans hM5
                    have hM6 : h9.1 (k + 6) = xa_a 4 (F 6) := (oh9 _ (by omega)).trans hM6
                    have hM7 : h9.1 (k + 7) = xa_a 2 (F 7) := (oh9 _ (by omega)).trans hM7
                    have hM8 : h9.1 (k + 8) = xa_a 2 (F 8) := (oh9 _ (by omega)).trans hM8
                    have hM9 : h9.1 (k + 9) = xa_a 12 (F 9) := (oh9 _ (by omega)).trans hM9
                    have hM10 : h9.1 (k + 10) = xa_a 720 (F 10) := (oh9 _ (by omega)).trans hM10
                    have hM11 : h9.1 (k + 11) = xa_a 3 (F 11) := (oh9 _ (by omega)).trans hM11
                    have hM12 : h9.1 (k + 12) = xa_a 360 (F 12) := (oh9 _ (by omega)).trans hM12
                    have hM13 : h9.1 (k + 13) = xa_a 3 (xa_upf (xa_upf (F 13) 0 v0) 1 (-x1)) := (oh9 _ (by omega)).trans hM13
                    have hM14 : h9.1 (k + 14) = xa_a 583200 (F 14) := (oh9 _ (by omega)).trans hM14
                    have hM15 : h9.1 (k + 15) = xa_a 583200 (F 15) := (oh9 _ (by omega)).trans hM15
                    have hM16 : h9.1 (k + 16) = xa_a 4 (F 16) := (oh9 _ (by omega)).trans hM16
                    have hn : h9.2 = h0.2 := nh9.trans hn
                    have fr : ∀ i, (i < k ∨ k + 17 ≤ i) → h9.1 i = h0.1 i := fun i hi => (oh9 i (by omega)).trans (fr i hi)
                    refine xa_iincw (pc := 189) (y := 2) [some (xa_r k), some (xa_i 3), some (xa_i 2), some (xa_i 1), some (xa_i ((m1 : Nat) : Int)), some (xa_i x1)] dX10_figures_189 (by decide) rfl rfl rfl rfl ?_
                    refine xa_goto (pc := 192) (tgt := 2) dX10_figures_192 (by decide) ?_
                    have e1 : rd_num n (F 1) (a0 + 1) = some ((-x1), a1) := by rw [z1, if_pos (by omega)]; rfl
                    exact c_fig3_2 hs0 hn9 hf hp9 (by omega) (by omega) e0 (by omega) (by omega) e1 (by omega) (by omega) hM0 hM1 hM2 hM3 hM4 hM5 hM6 hM7 hM8 hM9 hM10 hM11 hM12 hM13 hM14 hM15 hM16 hn fr
                · skip
                  refine xa_iconst (pc := 159) dX10_figures_159 ?_
                  refine xa_ireturn (pc := 160) dX10_figures_160 rfl (Or.inl rfl) ?_
                  have ng : nosg n (F 1) (a0 + 1) 44 := by
                    by_cases hc : (1 ≤ m1 ∧ m1 ≤ 4) ∧ ¬ ((1 : Nat) = 1 ∧ x1 = 0)
                    · exact Or.inr ⟨_, _, by rw [z1, if_pos hc], by omega⟩
                    · exact Or.inl (by rw [z1, if_neg hc])
                  exact Or.inr ⟨fg3_1 e0 (by omega) ng, rfl, _, _, ⟨hM0, hM1, hM2, hM3, hM4, hM5, hM6, hM7, hM8, hM9, hM10, hM11, hM12, hM13, hM14, hM15, hM16, by omega, by omega⟩, hn, fr⟩
set_option maxHeartbeats 8000000 in
theorem c_fig3_0 {G : xa_G} {h0 h : xa_H} {g3 g4 g5 : Option xa_V} {k n p : Nat} {F : Nat → Nat → Int} {s : Nat → Int} (hs0 : s 0 = (n : Int)) (hn9 : n ≤ 120) (hf : ∀ i, 0 ≤ F 1 i ∧ F 1 i ≤ 255) (hp9 : p ≤ 200) (hk : 2 ≤ k) (hkn : k + 16 < h.2) (hM0 : h.1 k = xa_o 10 [xa_i (s 0), xa_r (k + 1), xa_r (k + 2), xa_r (k + 3), xa_r (k + 4), xa_r (k + 5), xa_r (k + 6), xa_r (k + 7), xa_r (k + 8), xa_r (k + 9), xa_r (k + 10), xa_r (k + 11), xa_r (k + 12), xa_i (s 13), xa_i (s 14), xa_i ((p : Nat) : Int), xa_r (k + 13), xa_i (s 17), xa_i (s 18), xa_i (s 19), xa_i (s 20), xa_r (k + 14), xa_r (k + 15), xa_i (s 23), xa_r (k + 16)]) (hM1 : h.1 (k + 1) = xa_a 120 (F 1)) (hM2 : h.1 (k + 2) = xa_a 2 (F 2)) (hM3 : h.1 (k + 3) = xa_a 18 (F 3)) (hM4 : h.1 (k + 4) = xa_a 2 (F 4)) (hM5 : h.1 (k + 5) = xa_a 4 (F 5)) (hM6 : h.1 (k + 6) = xa_a 4 (F 6)) (hM7 : h.1 (k + 7) = xa_a 2 (F 7)) (hM8 : h.1 (k + 8) = xa_a 2 (F 8)) (hM9 : h.1 (k + 9) = xa_a 12 (F 9)) (hM10 : h.1 (k + 10) = xa_a 720 (F 10)) (hM11 : h.1 (k + 11) = xa_a 3 (F 11)) (hM12 : h.1 (k + 12) = xa_a 360 (F 12)) (hM13 : h.1 (k + 13) = xa_a 3 (F 13)) (hM14 : h.1 (k + 14) = xa_a 583200 (F 14)) (hM15 : h.1 (k + 15) = xa_a 583200 (F 15)) (hM16 : h.1 (k + 16) = xa_a 4 (F 16)) (hn : h.2 = h0.2) (fr : ∀ i, (i < k ∨ k + 17 ≤ i) → h.1 i = h0.1 i)  : xa_W G mX10_figures (xa_Z G (fun r h' => ((∃ u, fg3 n (F 1) p = some u ∧ r = some (xa_i 1) ∧ xM h' k (xa_uF F 13 (xa_upf (xa_upf (xa_upf (F 13) 0 u.1) 1 u.2.1) 2 u.2.2.1)) (xa_upf s 15 ((u.2.2.2 + 1 : Nat) : Int)) ∧ h'.2 = h0.2 ∧ ∀ i, (i < k ∨ k + 17 ≤ i) → h'.1 i = h0.1 i) ∨ (fg3 n (F 1) p = none ∧ r = some (xa_i 0) ∧ ∃ (nu : Nat → Int) (x : Int), xM h' k (xa_uF F 13 nu) (xa_upf s 15 x) ∧ h'.2 = h0.2 ∧ ∀ i, (i < k ∨ k + 17 ≤ i) → h'.1 i = h0.1 i)))) 2 [some (xa_r k), some (xa_i 3), some (xa_i 0), g3, g4, g5] [] h 0 0 := by
  refine xa_iload_n (pc := 2) dX10_figures_2 rfl ?_
  refine xa_iload_n (pc := 3) dX10_figures_3 rfl ?_
  refine xa_icmp_ge (pc := 4) (tgt := 195) dX10_figures_4 (by decide) (by decide) (by decide) (fun c_4 => ?_) (fun c_4 => ?_)
  · skip
    exfalso; omega
  · skip
    refine xa_aload_n (pc := 7) dX10_figures_7 rfl ?_
    refine xa_aload_n (pc := 8) dX10_figures_8 rfl ?_
    refine xa_getfield (pc := 9) dX10_figures_9 flRX10_74 (by omega) (by omega) hM0 rfl ?_
    refine xa_callV (pc := 12) (as := [xa_i ((p : Nat) : Int)]) (rest := []) dX10_figures_12 ⟨qX10_byteAt.1, qX10_byteAt.2.1, qX10_byteAt.2.2, by decide, by decide⟩ lkRX10_77 imX10_byteAt seX10_byteAt rfl rfl (by omega) (by omega) hM0 rfl (Nat.le_of_ble_eq_true rfl) (Nat.zero_le _) (Nat.zero_le _) (c_mByteN _ n p F (xa_upf s 15 ((p : Nat) : Int)) (by omega) hs0 hn9 ⟨hM0, hM1, hM2, hM3, hM4, hM5, hM6, hM7, hM8, hM9, hM10, hM11, hM12, hM13, hM14, hM15, hM16, by omega, by omega⟩) (fun r h' hq => ?_)
    obtain ⟨⟨y12_1, rfl, by12_1⟩, hq⟩ := hq
    have by12_1 : y12_1 = sp_at n (F 1) ((p : Nat) : Int) ∨ y12_1 = 0 ∧ sp_at n (F 1) ((p : Nat) : Int) = -1 := by12_1
    have hq := hq.symm
    subst hq
    have ay12_1 := sp_at_b (n := n) hf ((p : Nat) : Int)
    refine xa_bipush (pc := 15) dX10_figures_15 rfl ?_
    refine xa_icmp_ne (pc := 17) (tgt := 24) dX10_figures_17 (by decide) ⟨by omega, by omega⟩ (by decide) (fun c_17 => ?_) (fun c_17 => ?_)
    · skip
      refine xa_iconst (pc := 24) dX10_figures_24 ?_
      refine xa_istoren (pc := 25) [some (xa_r k), some (xa_i 3), some (xa_i 0), some (xa_i 0), g4, g5] dX10_figures_25 (by decide) (Nat.le_of_ble_eq_true rfl) rfl rfl ?_
      refine xa_aload_n (pc := 26) dX10_figures_26 rfl ?_
      refine xa_dup (pc := 27) dX10_figures_27 rfl ?_
      refine xa_getfield (pc := 28) dX10_figures_28 flRX10_74 (by omega) (by omega) hM0 rfl ?_
      refine xa_iload_n (pc := 31) dX10_figures_31 rfl ?_
      refine xa_if_eq (pc := 32) (tgt := 39) dX10_figures_32 (by decide) (by decide) (fun c_32 => ?_) (fun c_32 => ?_)
      · skip
        refine xa_iconst (pc := 39) dX10_figures_39 ?_
        refine xa_iadd (pc := 40) dX10_figures_40 ?_
        refine xa_top (y := ((p + 0 : Nat) : Int)) (by omega) ?_
        refine xa_putw (pc := 41) [xa_i (s 0), xa_r (k + 1), xa_r (k + 2), xa_r (k + 3), xa_r (k + 4), xa_r (k + 5), xa_r (k + 6), xa_r (k + 7), xa_r (k + 8), xa_r (k + 9), xa_r (k + 10), xa_r (k + 11), xa_r (k + 12), xa_i (s 13), xa_i (s 14), xa_i ((p + 0 : Nat) : Int), xa_r (k + 13), xa_i (s 17), xa_i (s 18), xa_i (s 19), xa_i (s 20), xa_r (k + 14), xa_r (k + 15), xa_i (s 23), xa_r (k + 16)] dX10_figures_41 flRX10_74 plX10_15 (by omega) (by omega) hM0 trivial rfl (fun h2 nh2 ch2 oh2 => ?_)
        have hM0 : h2.1 k = xa_o 10 [xa_i (s 0), xa_r (k + 1), xa_r (k + 2), xa_r (k + 3), xa_r (k + 4), xa_r (k + 5), xa_r (k + 6), xa_r (k + 7), xa_r (k + 8), xa_r (k + 9), xa_r (k + 10), xa_r (k + 11), xa_r (k + 12), xa_i (s 13), xa_i (s 14), xa_i ((p + 0 : Nat) : Int), xa_r (k + 13), xa_i (s 17), xa_i (s 18), xa_i (s 19), xa_i (s 20), xa_r (k + 14), xa_r (k + 15), xa_i (s 23), xa_r (k + 16)] := ch2
        have hM1 : h2.1 (k + 1) = xa_a 120 (F 1) := (oh2 _ (by omega)).trans hM1
        have hM2 : h2.1 (k + 2) = xa_a 2 (F 2) := (oh2 _ (by omega)).trans hM2
        have hM3 : h2.1 (k + 3) = xa_a 18 (F 3) := (oh2 _ (by omega)).trans hM3
        have hM4 : h2.1 (k + 4) = xa_a 2 (F 4) := (oh2 _ (by omega)).trans hM4
        have hM5 : h2.1 (k + 5) = xa_a 4 (F 5) := (oh2 _ (by omega)).trans hM5
        have hM6 : h2.1 (k + 6) = xa_a 4 (F 6) := (oh2 _ (by omega)).trans hM6
        have hM7 : h2.1 (k + 7) = xa_a 2 (F 7) := (oh2 _ (by omega)).trans hM7
        have hM8 : h2.1 (k + 8) = xa_a 2 (F 8) := (oh2 _ (by omega)).trans hM8
        have hM9 : h2.1 (k + 9) = xa_a 12 (F 9) := (oh2 _ (by omega)).trans hM9
        have hM10 : h2.1 (k + 10) = xa_a 720 (F 10) := (oh2 _ (by omega)).trans hM10
        have hM11 : h2.1 (k + 11) = xa_a 3 (F 11) := (oh2 _ (by omega)).trans hM11
        have hM12 : h2.1 (k + 12) = xa_a 360 (F 12) := (oh2 _ (by omega)).trans hM12
        have hM13 : h2.1 (k + 13) = xa_a 3 (F 13) := (oh2 _ (by omega)).trans hM13
        have hM14 : h2.1 (k + 14) = xa_a 583200 (F 14) := (oh2 _ (by omega)).trans hM14
        have hM15 : h2.1 (k + 15) = xa_a 583200 (F 15) := (oh2 _ (by omega)).trans hM15
        have hM16 : h2.1 (k + 16) = xa_a 4 (F 16) := (oh2 _ (by omega)).trans hM16
        have hn : h2.2 = h0.2 := nh2.trans hn
        have fr : ∀ i, (i < k ∨ k + 17 ≤ i) → h2.1 i = h0.1 i := fun i hi => (oh2 i (by omega)).trans (fr i hi)
        refine xa_iconst (pc := 44) dX10_figures_44 ?_
        refine xa_istorew (pc := 45) [some (xa_r k), some (xa_i 3), some (xa_i 0), some (xa_i 0), some (xa_i 0), g5] dX10_figures_45 (by decide) (Nat.le_of_ble_eq_true rfl) rfl rfl ?_
        refine xa_iconst (pc := 47) dX10_figures_47 ?_
        refine xa_istorew (pc := 48) [some (xa_r k), some (xa_i 3), some (xa_i 0), some (xa_i 0), some (xa_i 0), some (xa_i 0)] dX10_figures_48 (by decide) (Nat.le_of_ble_eq_true rfl) rfl rfl ?_
        refine c_dig_loop (a := (p + 0)) (F := F) (s := (xa_upf s 15 ((p + 0 : Nat) : Int))) (mn := 3) (kk := 0) (L := 0) (h0 := h2) (by omega) hs0 hn9 hf (by omega) (fun m0 hq0 hm0 hd0 ht0 hM hqn hqf => ?_) 6 0 _ (by omega) (by omega) (fun j hj => absurd hj (Nat.not_lt_zero _)) ⟨hM0, hM1, hM2, hM3, hM4, hM5, hM6, hM7, hM8, hM9, hM10, hM11, hM12, hM13, hM14, hM15, hM16, by omega, by omega⟩ rfl (fun _ _ => rfl)
        obtain ⟨hM0, hM1, hM2, hM3, hM4, hM5, hM6, hM7, hM8, hM9, hM10, hM11, hM12, hM13, hM14, hM15, hM16, hMk, hMn⟩ := hM
        have hM0 : hq0.1 k = xa_o 10 [xa_i (s 0), xa_r (k + 1), xa_r (k + 2), xa_r (k + 3), xa_r (k + 4), xa_r (k + 5), xa_r (k + 6), xa_r (k + 7), xa_r (k + 8), xa_r (k + 9), xa_r (k + 10), xa_r (k + 11), xa_r (k + 12), xa_i (s 13), xa_i (s 14), xa_i (((p + 0) + m0 : Nat) : Int), xa_r (k + 13), xa_i (s 17), xa_i (s 18), xa_i (s 19), xa_i (s 20), xa_r (k + 14), xa_r (k + 15), xa_i (s 23), xa_r (k + 16)] := hM0
        have hM1 : hq0.1 (k + 1) = xa_a 120 (F 1) := hM1
        have hM2 : hq0.1 (k + 2) = xa_a 2 (F 2) := hM2
        have hM3 : hq0.1 (k + 3) = xa_a 18 (F 3) := hM3
        have hM4 : hq0.1 (k + 4) = xa_a 2 (F 4) := hM4
        have hM5 : hq0.1 (k + 5) = xa_a 4 (F 5) := hM5
        have hM6 : hq0.1 (k + 6) = xa_a 4 (F 6) := hM6
        have hM7 : hq0.1 (k + 7) = xa_a 2 (F 7) := hM7
        have hM8 : hq0.1 (k + 8) = xa_a 2 (F 8) := hM8
        have hM9 : hq0.1 (k + 9) = xa_a 12 (F 9) := hM9
        have hM10 : hq0.1 (k + 10) = xa_a 720 (F 10) := hM10
        have hM11 : hq0.1 (k + 11) = xa_a 3 (F 11) := hM11
        have hM12 : hq0.1 (k + 12) = xa_a 360 (F 12) := hM12
        have hM13 : hq0.1 (k + 13) = xa_a 3 (F 13) := hM13
        have hM14 : hq0.1 (k + 14) = xa_a 583200 (F 14) := hM14
        have hM15 : hq0.1 (k + 15) = xa_a 583200 (F 15) := hM15
        have hM16 : hq0.1 (k + 16) = xa_a 4 (F 16) := hM16
        have hn : hq0.2 = h0.2 := hqn.trans hn
        have fr : ∀ i, (i < k ∨ k + 17 ≤ i) → hq0.1 i = h0.1 i := fun i hi => (hqf i (by omega)).trans (fr i hi)
        have hd0 : ∀ j, j < m0 → sp_isd n (F 1) ((p + 0) + j) := hd0
        have ht0 : m0 = 5 ∨ ¬ sp_isd n (F 1) ((p + 0) + m0) := ht0
        refine xa_locals (ls' := [some (xa_r k), some (xa_i 3), some (xa_i 0), some (xa_i 0), some (xa_i ((m0 : Nat) : Int)), some (xa_i (sp_val n (F 1) (p + 0) m0))]) rfl ?_
        have hg0 : sp_neg n (F 1) p = 0 := by unfold sp_neg; first | exact if_pos (by omega) | exact if_neg (by omega)
        have z0 := rd_num_m (p := p) (g := 0) hg0 hm0 hd0 ht0
        have hvp0 := sp_val_p n (F 1) (p + 0) m0 hd0
        have hvm0 : m0 ≤ 4 → sp_val n (F 1) (p + 0) m0 ≤ 9999 := fun q => (sp_val_b q hd0).2
        have hvx0 : (10 : Int) ^ m0 ≤ 100000 := by
          have e : m0 = 0 ∨ m0 = 1 ∨ m0 = 2 ∨ m0 = 3 ∨ m0 = 4 ∨ m0 = 5 := by omega
          rcases e with e | e | e | e | e | e <;> rw [e] <;> decide
        generalize hx0 : sp_val n (F 1) (p + 0) m0 = x0 at z0 hvp0 hvm0 ⊢
        generalize ha0 : (p + 0) + m0 = a0 at z0 ⊢
        have hM0 : hq0.1 k = xa_o 10 [xa_i (s 0), xa_r (k + 1), xa_r (k + 2), xa_r (k + 3), xa_r (k + 4), xa_r (k + 5), xa_r (k + 6), xa_r (k + 7), xa_r (k + 8), xa_r (k + 9), xa_r (k + 10), xa_r (k + 11), xa_r (k + 12), xa_i (s 13), xa_i (s 14), xa_i ((a0 : Nat) : Int), xa_r (k + 13), xa_i (s 17), xa_i (s 18), xa_i (s 19), xa_i (s 20), xa_r (k + 14), xa_r (k + 15), xa_i (s 23), xa_r (k + 16)] := by rw [← ha0]; exact hM0
        refine xa_iload (pc := 112) dX10_figures_112 rfl ?_
        refine xa_i2l (pc := 114) dX10_figures_114 ⟨by omega, by omega⟩ ?_
        refine xa_lconst (pc := 115) (n := 1) dX10_figures_115 rfl ?_
        refine xa_ldc2 (pc := 116) (n := 4) dX10_figures_116 ctRX10_85 rfl ?_
        refine xa_callS (pc := 119) (as := [xa_l ((m0 : Nat) : Int), xa_l 1, xa_l 4]) (rest := []) dX10_figures_119 ⟨qX10_in.1, qX10_in.2.1, qX10_in.2.2, by decide, by decide⟩ lkRX10_65 smX10_in rfl rfl (Nat.le_of_ble_eq_true rfl) (Nat.zero_le _) (Nat.zero_le _) (c_in _ _ _ ⟨by omega, by omega⟩ ⟨by omega, by omega⟩ ⟨by omega, by omega⟩) (fun r h' hq => ?_)
        obtain ⟨rfl, hq⟩ := hq
        have hq := hq.symm
        subst hq
        refine xa_if_eq (pc := 122) (tgt := 159) dX10_figures_122 (by decide) xa_okb (fun c_122 => ?_) (fun c_122 => ?_)
        · have c_122 := xa_b0.mp c_122
          refine xa_iconst (pc := 159) dX10_figures_159 ?_
          refine xa_ireturn (pc := 160) dX10_figures_160 rfl (Or.inl rfl) ?_
          have ng : nosg n (F 1) p 44 := by
            by_cases hc : (1 ≤ m0 ∧ m0 ≤ 4) ∧ ¬ ((0 : Nat) = 1 ∧ x0 = 0)
            · exact Or.inr ⟨_, _, by rw [z0, if_pos hc], by omega⟩
            · exact Or.inl (by rw [z0, if_neg hc])
          exact Or.inr ⟨fg3_0 ng, rfl, _, _, ⟨hM0, hM1, hM2, hM3, hM4, hM5, hM6, hM7, hM8, hM9, hM10, hM11, hM12, hM13, hM14, hM15, hM16, by omega, by omega⟩, hn, fr⟩
        · have c_122 := xa_b1.mp c_122
          refine xa_iload_n (pc := 125) dX10_figures_125 rfl ?_
          refine xa_if_eq (pc := 126) (tgt := 134) dX10_figures_126 (by decide) (by decide) (fun c_126 => ?_) (fun c_126 => ?_)
          · skip
            refine xa_aload_n (pc := 134) dX10_figures_134 rfl ?_
            refine xa_aload_n (pc := 135) dX10_figures_135 rfl ?_
            refine xa_getfield (pc := 136) dX10_figures_136 flRX10_74 (by omega) (by omega) hM0 rfl ?_
            refine xa_callV (pc := 139) (as := [xa_i ((a0 : Nat) : Int)]) (rest := []) dX10_figures_139 ⟨qX10_byteAt.1, qX10_byteAt.2.1, qX10_byteAt.2.2, by decide, by decide⟩ lkRX10_77 imX10_byteAt seX10_byteAt rfl rfl (by omega) (by omega) hM0 rfl (Nat.le_of_ble_eq_true rfl) (Nat.zero_le _) (Nat.zero_le _) (c_mByteN _ n a0 F (xa_upf s 15 ((a0 : Nat) : Int)) (by omega) hs0 hn9 ⟨hM0, hM1, hM2, hM3, hM4, hM5, hM6, hM7, hM8, hM9, hM10, hM11, hM12, hM13, hM14, hM15, hM16, by omega, by omega⟩) (fun r h' hq => ?_)
            obtain ⟨⟨y139_3, rfl, by139_3⟩, hq⟩ := hq
            have by139_3 : y139_3 = sp_at n (F 1) ((a0 : Nat) : Int) ∨ y139_3 = 0 ∧ sp_at n (F 1) ((a0 : Nat) : Int) = -1 := by139_3
            have hq := hq.symm
            subst hq
            have ay139_3 := sp_at_b (n := n) hf ((a0 : Nat) : Int)
            refine xa_iload_n (pc := 142) dX10_figures_142 rfl ?_
            refine xa_iload_n (pc := 143) dX10_figures_143 rfl ?_
            refine xa_iconst (pc := 144) dX10_figures_144 ?_
            refine xa_isub (pc := 145) dX10_figures_145 ?_
            refine xa_top (y := 2) (by decide) ?_
            refine xa_icmp_ge (pc := 146) (tgt := 154) dX10_figures_146 (by decide) (by decide) (by decide) (fun c_146 => ?_) (fun c_146 => ?_)
            · skip
              exfalso; omega
            · skip
              refine xa_bipush (pc := 149) dX10_figures_149 rfl ?_
              refine xa_goto (pc := 151) (tgt := 156) dX10_figures_151 (by decide) ?_
              refine xa_icmp_eq (pc := 156) (tgt := 161) dX10_figures_156 (by decide) ⟨by omega, by omega⟩ (by decide) (fun c_156 => ?_) (fun c_156 => ?_)
              · skip
                refine xa_aload_n (pc := 161) dX10_figures_161 rfl ?_
                refine xa_getfield (pc := 162) dX10_figures_162 flRX10_46 (by omega) (by omega) hM0 rfl ?_
                refine xa_iload_n (pc := 165) dX10_figures_165 rfl ?_
                refine xa_iload_n (pc := 166) dX10_figures_166 rfl ?_
                refine xa_if_eq (pc := 167) (tgt := 176) dX10_figures_167 (by decide) (by decide) (fun c_167 => ?_) (fun c_167 => ?_)
                · skip
                  refine xa_iload (pc := 176) dX10_figures_176 rfl ?_
                  refine xa_iastw (pc := 178) 0 dX10_figures_178 (by omega) (by omega) hM13 (by omega) (by omega) rfl (fun h4 nh4 ch4 oh4 => ?_)
                  have hM13 : h4.1 (k + 13) = xa_a 3 (xa_upf (F 13) 0 x0) := ch4
                  have hM0 : h4.1 k = xa_o 10 [xa_i (s 0), xa_r (k + 1), xa_r (k + 2), xa_r (k + 3), xa_r (k + 4), xa_r (k + 5), xa_r (k + 6), xa_r (k + 7), xa_r (k + 8), xa_r (k + 9), xa_r (k + 10), xa_r (k + 11), xa_r (k + 12), xa_i (s 13), xa_i (s 14), xa_i ((a0 : Nat) : Int), xa_r (k + 13), xa_i (s 17), xa_i (s 18), xa_i (s 19), xa_i (s 20), xa_r (k + 14), xa_r (k + 15), xa_i (s 23), xa_r (k + 16)] := (oh4 _ (by omega)).trans hM0
                  have hM1 : h4.1 (k + 1) = xa_a 120 (F 1) := (oh4 _ (by omega)).trans hM1
                  have hM2 : h4.1 (k + 2) = xa_a 2 (F 2) := (oh4 _ (by omega)).trans hM2
                  have hM3 : h4.1 (k + 3) = xa_a 18 (F 3) := (oh4 _ (by omega)).trans hM3
                  have hM4 : h4.1 (k + 4) = xa_a 2 (F 4) := (oh4 _ (by omega)).trans hM4
                  have hM5 : h4.1 (k + 5) = xa_a 4 (F 5) := (oh4 _ (by omega)).trans hM5
                  have hM6 : h4.1 (k + 6) = xa_a 4 (F 6) := (oh4 _ (by omega)).trans hM6
                  have hM7 : h4.1 (k + 7) = xa_a 2 (F 7) := (oh4 _ (by omega)).trans hM7
                  have hM8 : h4.1 (k + 8) = xa_a 2 (F 8) := (oh4 _ (by omega)).trans hM8
                  have hM9 : h4.1 (k + 9) = xa_a 12 (F 9) := (oh4 _ (by omega)).trans hM9
                  have hM10 : h4.1 (k + 10) = xa_a 720 (F 10) := (oh4 _ (by omega)).trans hM10
                  have hM11 : h4.1 (k + 11) = xa_a 3 (F 11) := (oh4 _ (by omega)).trans hM11
                  have hM12 : h4.1 (k + 12) = xa_a 360 (F 12) := (oh4 _ (by omega)).trans hM12
                  have hM14 : h4.1 (k + 14) = xa_a 583200 (F 14) := (oh4 _ (by omega)).trans hM14
                  have hM15 : h4.1 (k + 15) = xa_a 583200 (F 15) := (oh4 _ (by omega)).trans hM15
                  have hM16 : h4.1 (k + 16) = xa_a 4 (F 16) := (oh4 _ (by omega)).trans hM16
                  have hn : h4.2 = h0.2 := nh4.trans hn
                  have fr : ∀ i, (i < k ∨ k + 17 ≤ i) → h4.1 i = h0.1 i := fun i hi => (oh4 i (by omega)).trans (fr i hi)
                  refine xa_aload_n (pc := 179) dX10_figures_179 rfl ?_
                  refine xa_dup (pc := 180) dX10_figures_180 rfl ?_
                  refine xa_getfield (pc := 181) dX10_figures_181 flRX10_74 (by omega) (by omega) hM0 rfl ?_
                  refine xa_iconst (pc := 184) dX10_figures_184 ?_
                  refine xa_iadd (pc := 185) dX10_figures_185 ?_
                  refine xa_top (y := ((a0 + 1 : Nat) : Int)) (by omega) ?_
                  refine xa_putw (pc := 186) [xa_i (s 0), xa_r (k + 1), xa_r (k + 2), xa_r (k + 3), xa_r (k + 4), xa_r (k + 5), xa_r (k + 6), xa_r (k + 7), xa_r (k + 8), xa_r (k + 9), xa_r (k + 10), xa_r (k + 11), xa_r (k + 12), xa_i (s 13), xa_i (s 14), xa_i ((a0 + 1 : Nat) : Int), xa_r (k + 13), xa_i (s 17), xa_i (s 18), xa_i (s 19), xa_i (s 20), xa_r (k + 14), xa_r (k + 15), xa_i (s 23), xa_r (k + 16)] dX10_figures_186 flRX10_74 plX10_15 (by omega) (by omega) hM0 trivial rfl (fun h5 nh5 ch5 oh5 => ?_)
                  have hM0 : h5.1 k = xa_o 10 [xa_i (s 0), xa_r (k + 1), xa_r (k + 2), xa_r (k + 3), xa_r (k + 4), xa_r (k + 5), xa_r (k + 6), xa_r (k + 7), xa_r (k + 8), xa_r (k + 9), xa_r (k + 10), xa_r (k + 11), xa_r (k + 12), xa_i (s 13), xa_i (s 14), xa_i ((a0 + 1 : Nat) : Int), xa_r (k + 13), xa_i (s 17), xa_i (s 18), xa_i (s 19), xa_i (s 20), xa_r (k + 14), xa_r (k + 15), xa_i (s 23), xa_r (k + 16)] := ch5
                  have hM1 : h5.1 (k + 1) = xa_a 120 (F 1) := (oh5 _ (by omega)).trans hM1
                  have hM2 : h5.1 (k + 2) = xa_a 2 (F 2) := (oh5 _ (by omega)).trans hM2
                  have hM3 : h5.1 (k + 3) = xa_a 18 (F 3) := (oh5 _ (by omega)).trans hM3
                  have hM4 : h5.1 (k + 4) = xa_a 2 (F 4) := (oh5 _ (by omega)).trans hM4
                  have hM5 : h5.1 (k + 5) = xa_a 4 (F 5) := (oh5 _ (by omega)).trans hM5
                  have hM6 : h5.1 (k + 6) = xa_a 4 (F 6) := (oh5 _ (by omega)).trans hM6
                  have hM7 : h5.1 (k + 7) = xa_a 2 (F 7) := (oh5 _ (by omega)).trans hM7
                  have hM8 : h5.1 (k + 8) = xa_a 2 (F 8) := (oh5 _ (by omega)).trans hM8
                  have hM9 : h5.1 (k + 9) = xa_a 12 (F 9) := (oh5 _ (by omega)).trans hM9
                  have hM10 : h5.1 (k + 10) = xa_a 720 (F 10) := (oh5 _ (by omega)).trans hM10
                  have hM11 : h5.1 (k + 11) = xa_a 3 (F 11) := (oh5 _ (by omega)).trans hM11
                  have hM12 : h5.1 (k + 12) = xa_a 360 (F 12) := (oh5 _ (by omega)).trans hM12
                  have hM13 : h5.1 (k + 13) = xa_a 3 (xa_upf (F 13) 0 x0) := (oh5 _ (by omega)).trans hM13
                  have hM14 : h5.1 (k + 14) = xa_a 583200 (F 14) := (oh5 _ (by omega)).trans hM14
                  have hM15 : h5.1 (k + 15) = xa_a 583200 (F 15) := (oh5 _ (by omega)).trans hM15
                  have hM16 : h5.1 (k + 16) = xa_a 4 (F 16) := (oh5 _ (by omega)).trans hM16
                  have hn : h5.2 = h0.2 := nh5.trans hn
                  have fr : ∀ i, (i < k ∨ k + 17 ≤ i) → h5.1 i = h0.1 i := fun i hi => (oh5 i (by omega)).trans (fr i hi)
                  refine xa_iincw (pc := 189) (y := 1) [some (xa_r k), some (xa_i 3), some (xa_i 1), some (xa_i 0), some (xa_i ((m0 : Nat) : Int)), some (xa_i x0)] dX10_figures_189 (by decide) rfl rfl rfl rfl ?_
                  refine xa_goto (pc := 192) (tgt := 2) dX10_figures_192 (by decide) ?_
                  have e0 : rd_num n (F 1) p = some (x0, a0) := by rw [z0, if_pos (by omega)]; rfl
                  exact c_fig3_1 hs0 hn9 hf hp9 (by omega) (by omega) e0 (by omega) (by omega) hM0 hM1 hM2 hM3 hM4 hM5 hM6 hM7 hM8 hM9 hM10 hM11 hM12 hM13 hM14 hM15 hM16 hn fr
                · skip
                  exfalso; omega
              · skip
                refine xa_iconst (pc := 159) dX10_figures_159 ?_
                refine xa_ireturn (pc := 160) dX10_figures_160 rfl (Or.inl rfl) ?_
                have ng : nosg n (F 1) p 44 := by
                  by_cases hc : (1 ≤ m0 ∧ m0 ≤ 4) ∧ ¬ ((0 : Nat) = 1 ∧ x0 = 0)
                  · exact Or.inr ⟨_, _, by rw [z0, if_pos hc], by omega⟩
                  · exact Or.inl (by rw [z0, if_neg hc])
                exact Or.inr ⟨fg3_0 ng, rfl, _, _, ⟨hM0, hM1, hM2, hM3, hM4, hM5, hM6, hM7, hM8, hM9, hM10, hM11, hM12, hM13, hM14, hM15, hM16, by omega, by omega⟩, hn, fr⟩
          · skip
            exfalso; omega
      · skip
        exfalso; omega
    · skip
      refine xa_iconst (pc := 20) dX10_figures_20 ?_
      refine xa_goto (pc := 21) (tgt := 25) dX10_figures_21 (by decide) ?_
      refine xa_istoren (pc := 25) [some (xa_r k), some (xa_i 3), some (xa_i 0), some (xa_i 1), g4, g5] dX10_figures_25 (by decide) (Nat.le_of_ble_eq_true rfl) rfl rfl ?_
      refine xa_aload_n (pc := 26) dX10_figures_26 rfl ?_
      refine xa_dup (pc := 27) dX10_figures_27 rfl ?_
      refine xa_getfield (pc := 28) dX10_figures_28 flRX10_74 (by omega) (by omega) hM0 rfl ?_
      refine xa_iload_n (pc := 31) dX10_figures_31 rfl ?_
      refine xa_if_eq (pc := 32) (tgt := 39) dX10_figures_32 (by decide) (by decide) (fun c_32 => ?_) (fun c_32 => ?_)
      · skip
        exfalso; omega
      · skip
        refine xa_iconst (pc := 35) dX10_figures_35 ?_
        refine xa_goto (pc := 36) (tgt := 40) dX10_figures_36 (by decide) ?_
        refine xa_iadd (pc := 40) dX10_figures_40 ?_
        refine xa_top (y := ((p + 1 : Nat) : Int)) (by omega) ?_
        refine xa_putw (pc := 41) [xa_i (s 0), xa_r (k + 1), xa_r (k + 2), xa_r (k + 3), xa_r (k + 4), xa_r (k + 5), xa_r (k + 6), xa_r (k + 7), xa_r (k + 8), xa_r (k + 9), xa_r (k + 10), xa_r (k + 11), xa_r (k + 12), xa_i (s 13), xa_i (s 14), xa_i ((p + 1 : Nat) : Int), xa_r (k + 13), xa_i (s 17), xa_i (s 18), xa_i (s 19), xa_i (s 20), xa_r (k + 14), xa_r (k + 15), xa_i (s 23), xa_r (k + 16)] dX10_figures_41 flRX10_74 plX10_15 (by omega) (by omega) hM0 trivial rfl (fun h6 nh6 ch6 oh6 => ?_)
        have hM0 : h6.1 k = xa_o 10 [xa_i (s 0), xa_r (k + 1), xa_r (k + 2), xa_r (k + 3), xa_r (k + 4), xa_r (k + 5), xa_r (k + 6), xa_r (k + 7), xa_r (k + 8), xa_r (k + 9), xa_r (k + 10), xa_r (k + 11), xa_r (k + 12), xa_i (s 13), xa_i (s 14), xa_i ((p + 1 : Nat) : Int), xa_r (k + 13), xa_i (s 17), xa_i (s 18), xa_i (s 19), xa_i (s 20), xa_r (k + 14), xa_r (k + 15), xa_i (s 23), xa_r (k + 16)] := ch6
        have hM1 : h6.1 (k + 1) = xa_a 120 (F 1) := (oh6 _ (by omega)).trans hM1
        have hM2 : h6.1 (k + 2) = xa_a 2 (F 2) := (oh6 _ (by omega)).trans hM2
        have hM3 : h6.1 (k + 3) = xa_a 18 (F 3) := (oh6 _ (by omega)).trans hM3
        have hM4 : h6.1 (k + 4) = xa_a 2 (F 4) := (oh6 _ (by omega)).trans hM4
        have hM5 : h6.1 (k + 5) = xa_a 4 (F 5) := (oh6 _ (by omega)).trans hM5
        have hM6 : h6.1 (k + 6) = xa_a 4 (F 6) := (oh6 _ (by omega)).trans hM6
        have hM7 : h6.1 (k + 7) = xa_a 2 (F 7) := (oh6 _ (by omega)).trans hM7
        have hM8 : h6.1 (k + 8) = xa_a 2 (F 8) := (oh6 _ (by omega)).trans hM8
        have hM9 : h6.1 (k + 9) = xa_a 12 (F 9) := (oh6 _ (by omega)).trans hM9
        have hM10 : h6.1 (k + 10) = xa_a 720 (F 10) := (oh6 _ (by omega)).trans hM10
        have hM11 : h6.1 (k + 11) = xa_a 3 (F 11) := (oh6 _ (by omega)).trans hM11
        have hM12 : h6.1 (k + 12) = xa_a 360 (F 12) := (oh6 _ (by omega)).trans hM12
        have hM13 : h6.1 (k + 13) = xa_a 3 (F 13) := (oh6 _ (by omega)).trans hM13
        have hM14 : h6.1 (k + 14) = xa_a 583200 (F 14) := (oh6 _ (by omega)).trans hM14
        have hM15 : h6.1 (k + 15) = xa_a 583200 (F 15) := (oh6 _ (by omega)).trans hM15
        have hM16 : h6.1 (k + 16) = xa_a 4 (F 16) := (oh6 _ (by omega)).trans hM16
        have hn : h6.2 = h0.2 := nh6.trans hn
        have fr : ∀ i, (i < k ∨ k + 17 ≤ i) → h6.1 i = h0.1 i := fun i hi => (oh6 i (by omega)).trans (fr i hi)
        refine xa_iconst (pc := 44) dX10_figures_44 ?_
        refine xa_istorew (pc := 45) [some (xa_r k), some (xa_i 3), some (xa_i 0), some (xa_i 1), some (xa_i 0), g5] dX10_figures_45 (by decide) (Nat.le_of_ble_eq_true rfl) rfl rfl ?_
        refine xa_iconst (pc := 47) dX10_figures_47 ?_
        refine xa_istorew (pc := 48) [some (xa_r k), some (xa_i 3), some (xa_i 0), some (xa_i 1), some (xa_i 0), some (xa_i 0)] dX10_figures_48 (by decide) (Nat.le_of_ble_eq_true rfl) rfl rfl ?_
        refine c_dig_loop (a := (p + 1)) (F := F) (s := (xa_upf s 15 ((p + 1 : Nat) : Int))) (mn := 3) (kk := 0) (L := 1) (h0 := h6) (by omega) hs0 hn9 hf (by omega) (fun m0 hq0 hm0 hd0 ht0 hM hqn hqf => ?_) 6 0 _ (by omega) (by omega) (fun j hj => absurd hj (Nat.not_lt_zero _)) ⟨hM0, hM1, hM2, hM3, hM4, hM5, hM6, hM7, hM8, hM9, hM10, hM11, hM12, hM13, hM14, hM15, hM16, by omega, by omega⟩ rfl (fun _ _ => rfl)
        obtain ⟨hM0, hM1, hM2, hM3, hM4, hM5, hM6, hM7, hM8, hM9, hM10, hM11, hM12, hM13, hM14, hM15, hM16, hMk, hMn⟩ := hM
        have hM0 : hq0.1 k = xa_o 10 [xa_i (s 0), xa_r (k + 1), xa_r (k + 2), xa_r (k + 3), xa_r (k + 4), xa_r (k + 5), xa_r (k + 6), xa_r (k + 7), xa_r (k + 8), xa_r (k + 9), xa_r (k + 10), xa_r (k + 11), xa_r (k + 12), xa_i (s 13), xa_i (s 14), xa_i (((p + 1) + m0 : Nat) : Int), xa_r (k + 13), xa_i (s 17), xa_i (s 18), xa_i (s 19), xa_i (s 20), xa_r (k + 14), xa_r (k + 15), xa_i (s 23), xa_r (k + 16)] := hM0
        have hM1 : hq0.1 (k + 1) = xa_a 120 (F 1) := hM1
        have hM2 : hq0.1 (k + 2) = xa_a 2 (F 2) := hM2
        have hM3 : hq0.1 (k + 3) = xa_a 18 (F 3) := hM3
        have hM4 : hq0.1 (k + 4) = xa_a 2 (F 4) := hM4
        have hM5 : hq0.1 (k + 5) = xa_a 4 (F 5) := hM5
        have hM6 : hq0.1 (k + 6) = xa_a 4 (F 6) := hM6
        have hM7 : hq0.1 (k + 7) = xa_a 2 (F 7) := hM7
        have hM8 : hq0.1 (k + 8) = xa_a 2 (F 8) := hM8
        have hM9 : hq0.1 (k + 9) = xa_a 12 (F 9) := hM9
        have hM10 : hq0.1 (k + 10) = xa_a 720 (F 10) := hM10
        have hM11 : hq0.1 (k + 11) = xa_a 3 (F 11) := hM11
        have hM12 : hq0.1 (k + 12) = xa_a 360 (F 12) := hM12
        have hM13 : hq0.1 (k + 13) = xa_a 3 (F 13) := hM13
        have hM14 : hq0.1 (k + 14) = xa_a 583200 (F 14) := hM14
        have hM15 : hq0.1 (k + 15) = xa_a 583200 (F 15) := hM15
        have hM16 : hq0.1 (k + 16) = xa_a 4 (F 16) := hM16
        have hn : hq0.2 = h0.2 := hqn.trans hn
        have fr : ∀ i, (i < k ∨ k + 17 ≤ i) → hq0.1 i = h0.1 i := fun i hi => (hqf i (by omega)).trans (fr i hi)
        have hd0 : ∀ j, j < m0 → sp_isd n (F 1) ((p + 1) + j) := hd0
        have ht0 : m0 = 5 ∨ ¬ sp_isd n (F 1) ((p + 1) + m0) := ht0
        refine xa_locals (ls' := [some (xa_r k), some (xa_i 3), some (xa_i 0), some (xa_i 1), some (xa_i ((m0 : Nat) : Int)), some (xa_i (sp_val n (F 1) (p + 1) m0))]) rfl ?_
        have hg0 : sp_neg n (F 1) p = 1 := by unfold sp_neg; first | exact if_pos (by omega) | exact if_neg (by omega)
        have z0 := rd_num_m (p := p) (g := 1) hg0 hm0 hd0 ht0
        have hvp0 := sp_val_p n (F 1) (p + 1) m0 hd0
        have hvm0 : m0 ≤ 4 → sp_val n (F 1) (p + 1) m0 ≤ 9999 := fun q => (sp_val_b q hd0).2
        have hvx0 : (10 : Int) ^ m0 ≤ 100000 := by
          have e : m0 = 0 ∨ m0 = 1 ∨ m0 = 2 ∨ m0 = 3 ∨ m0 = 4 ∨ m0 = 5 := by omega
          rcases e with e | e | e | e | e | e <;> rw [e] <;> decide
        generalize hx0 : sp_val n (F 1) (p + 1) m0 = x0 at z0 hvp0 hvm0 ⊢
        generalize ha0 : (p + 1) + m0 = a0 at z0 ⊢
        have hM0 : hq0.1 k = xa_o 10 [xa_i (s 0), xa_r (k + 1), xa_r (k + 2), xa_r (k + 3), xa_r (k + 4), xa_r (k + 5), xa_r (k + 6), xa_r (k + 7), xa_r (k + 8), xa_r (k + 9), xa_r (k + 10), xa_r (k + 11), xa_r (k + 12), xa_i (s 13), xa_i (s 14), xa_i ((a0 : Nat) : Int), xa_r (k + 13), xa_i (s 17), xa_i (s 18), xa_i (s 19), xa_i (s 20), xa_r (k + 14), xa_r (k + 15), xa_i (s 23), xa_r (k + 16)] := by rw [← ha0]; exact hM0
        refine xa_iload (pc := 112) dX10_figures_112 rfl ?_
        refine xa_i2l (pc := 114) dX10_figures_114 ⟨by omega, by omega⟩ ?_
        refine xa_lconst (pc := 115) (n := 1) dX10_figures_115 rfl ?_
        refine xa_ldc2 (pc := 116) (n := 4) dX10_figures_116 ctRX10_85 rfl ?_
        refine xa_callS (pc := 119) (as := [xa_l ((m0 : Nat) : Int), xa_l 1, xa_l 4]) (rest := []) dX10_figures_119 ⟨qX10_in.1, qX10_in.2.1, qX10_in.2.2, by decide, by decide⟩ lkRX10_65 smX10_in rfl rfl (Nat.le_of_ble_eq_true rfl) (Nat.zero_le _) (Nat.zero_le _) (c_in _ _ _ ⟨by omega, by omega⟩ ⟨by omega, by omega⟩ ⟨by omega, by omega⟩) (fun r h' hq => ?_)
        obtain ⟨rfl, hq⟩ := hq
        have hq := hq.symm
        subst hq
        refine xa_if_eq (pc := 122) (tgt := 159) dX10_figures_122 (by decide) xa_okb (fun c_122 => ?_) (fun c_122 => ?_)
        · have c_122 := xa_b0.mp c_122
          refine xa_iconst (pc := 159) dX10_figures_159 ?_
          refine xa_ireturn (pc := 160) dX10_figures_160 rfl (Or.inl rfl) ?_
          have ng : nosg n (F 1) p 44 := by
            by_cases hc : (1 ≤ m0 ∧ m0 ≤ 4) ∧ ¬ ((1 : Nat) = 1 ∧ x0 = 0)
            · exact Or.inr ⟨_, _, by rw [z0, if_pos hc], by omega⟩
            · exact Or.inl (by rw [z0, if_neg hc])
          exact Or.inr ⟨fg3_0 ng, rfl, _, _, ⟨hM0, hM1, hM2, hM3, hM4, hM5, hM6, hM7, hM8, hM9, hM10, hM11, hM12, hM13, hM14, hM15, hM16, by omega, by omega⟩, hn, fr⟩
        · have c_122 := xa_b1.mp c_122
          refine xa_iload_n (pc := 125) dX10_figures_125 rfl ?_
          refine xa_if_eq (pc := 126) (tgt := 134) dX10_figures_126 (by decide) (by decide) (fun c_126 => ?_) (fun c_126 => ?_)
          · skip
            exfalso; omega
          · skip
            refine xa_iload (pc := 129) dX10_figures_129 rfl ?_
            refine xa_if_eq (pc := 131) (tgt := 159) dX10_figures_131 (by decide) ⟨by omega, by omega⟩ (fun c_131 => ?_) (fun c_131 => ?_)
            · skip
              refine xa_iconst (pc := 159) dX10_figures_159 ?_
              refine xa_ireturn (pc := 160) dX10_figures_160 rfl (Or.inl rfl) ?_
              have ng : nosg n (F 1) p 44 := by
                by_cases hc : (1 ≤ m0 ∧ m0 ≤ 4) ∧ ¬ ((1 : Nat) = 1 ∧ x0 = 0)
                · exact Or.inr ⟨_, _, by rw [z0, if_pos hc], by omega⟩
                · exact Or.inl (by rw [z0, if_neg hc])
              exact Or.inr ⟨fg3_0 ng, rfl, _, _, ⟨hM0, hM1, hM2, hM3, hM4, hM5, hM6, hM7, hM8, hM9, hM10, hM11, hM12, hM13, hM14, hM15, hM16, by omega, by omega⟩, hn, fr⟩
            · skip
              refine xa_aload_n (pc := 134) dX10_figures_134 rfl ?_
              refine xa_aload_n (pc := 135) dX10_figures_135 rfl ?_
              refine xa_getfield (pc := 136) dX10_figures_136 flRX10_74 (by omega) (by omega) hM0 rfl ?_
              refine xa_callV (pc := 139) (as := [xa_i ((a0 : Nat) : Int)]) (rest := []) dX10_figures_139 ⟨qX10_byteAt.1, qX10_byteAt.2.1, qX10_byteAt.2.2, by decide, by decide⟩ lkRX10_77 imX10_byteAt seX10_byteAt rfl rfl (by omega) (by omega) hM0 rfl (Nat.le_of_ble_eq_true rfl) (Nat.zero_le _) (Nat.zero_le _) (c_mByteN _ n a0 F (xa_upf s 15 ((a0 : Nat) : Int)) (by omega) hs0 hn9 ⟨hM0, hM1, hM2, hM3, hM4, hM5, hM6, hM7, hM8, hM9, hM10, hM11, hM12, hM13, hM14, hM15, hM16, by omega, by omega⟩) (fun r h' hq => ?_)
              obtain ⟨⟨y139_7, rfl, by139_7⟩, hq⟩ := hq
              have by139_7 : y139_7 = sp_at n (F 1) ((a0 : Nat) : Int) ∨ y139_7 = 0 ∧ sp_at n (F 1) ((a0 : Nat) : Int) = -1 := by139_7
              have hq := hq.symm
              subst hq
              have ay139_7 := sp_at_b (n := n) hf ((a0 : Nat) : Int)
              refine xa_iload_n (pc := 142) dX10_figures_142 rfl ?_
              refine xa_iload_n (pc := 143) dX10_figures_143 rfl ?_
              refine xa_iconst (pc := 144) dX10_figures_144 ?_
              refine xa_isub (pc := 145) dX10_figures_145 ?_
              refine xa_top (y := 2) (by decide) ?_
              refine xa_icmp_ge (pc := 146) (tgt := 154) dX10_figures_146 (by decide) (by decide) (by decide) (fun c_146 => ?_) (fun c_146 => ?_)
              · skip
                exfalso; omega
              · skip
                refine xa_bipush (pc := 149) dX10_figures_149 rfl ?_
                refine xa_goto (pc := 151) (tgt := 156) dX10_figures_151 (by decide) ?_
                refine xa_icmp_eq (pc := 156) (tgt := 161) dX10_figures_156 (by decide) ⟨by omega, by omega⟩ (by decide) (fun c_156 => ?_) (fun c_156 => ?_)
                · skip
                  refine xa_aload_n (pc := 161) dX10_figures_161 rfl ?_
                  refine xa_getfield (pc := 162) dX10_figures_162 flRX10_46 (by omega) (by omega) hM0 rfl ?_
                  refine xa_iload_n (pc := 165) dX10_figures_165 rfl ?_
                  refine xa_iload_n (pc := 166) dX10_figures_166 rfl ?_
                  refine xa_if_eq (pc := 167) (tgt := 176) dX10_figures_167 (by decide) (by decide) (fun c_167 => ?_) (fun c_167 => ?_)
                  · skip
                    exfalso; omega
                  · skip
                    refine xa_iload (pc := 170) dX10_figures_170 rfl ?_
                    refine xa_ineg (pc := 172) dX10_figures_172 ?_
                    refine xa_goto (pc := 173) (tgt := 178) dX10_figures_173 (by decide) ?_
                    refine xa_iastw (pc := 178) 0 dX10_figures_178 (by omega) (by omega) hM13 (by omega) (by omega) rfl (fun h8 nh8 ch8 oh8 => ?_)
                    have hM13 : h8.1 (k + 13) = xa_a 3 (xa_upf (F 13) 0 (-x0)) := ch8
                    have hM0 : h8.1 k = xa_o 10 [xa_i (s 0), xa_r (k + 1), xa_r (k + 2), xa_r (k + 3), xa_r (k + 4), xa_r (k + 5), xa_r (k + 6), xa_r (k + 7), xa_r (k + 8), xa_r (k + 9), xa_r (k + 10), xa_r (k + 11), xa_r (k + 12), xa_i (s 13), xa_i (s 14), xa_i ((a0 : Nat) : Int), xa_r (k + 13), xa_i (s 17), xa_i (s 18), xa_i (s 19), xa_i (s 20), xa_r (k + 14), xa_r (k + 15), xa_i (s 23), xa_r (k + 16)] := (oh8 _ (by omega)).trans hM0
                    have hM1 : h8.1 (k + 1) = xa_a 120 (F 1) := (oh8 _ (by omega)).trans hM1
                    have hM2 : h8.1 (k + 2) = xa_a 2 (F 2) := (oh8 _ (by omega)).trans hM2
                    have hM3 : h8.1 (k + 3) = xa_a 18 (F 3) := (oh8 _ (by omega)).trans hM3
                    have hM4 : h8.1 (k + 4) = xa_a 2 (F 4) := (oh8 _ (by omega)).trans hM4
                    have hM5 : h8.1 (k + 5) = xa_a 4 (F 5) := (oh8 _ (by omega)).trans hM5
                    have hM6 : h8.1 (k + 6) = xa_a 4 (F 6) := (oh8 _ (by omega)).trans hM6
                    have hM7 : h8.1 (k + 7) = xa_a 2 (F 7) := (oh8 _ (by omega)).trans hM7
                    have hM8 : h8.1 (k + 8) = xa_a 2 (F 8) := (oh8 _ (by omega)).trans hM8
                    have hM9 : h8.1 (k + 9) = xa_a 12 (F 9) := (oh8 _ (by omega)).trans hM9
                    have hM10 : h8.1 (k + 10) = xa_a 720 (F 10) := (oh8 _ (by omega)).trans hM10
                    have hM11 : h8.1 (k + 11) = xa_a 3 (F 11) := (oh8 _ (by omega)).trans hM11
                    have hM12 : h8.1 (k + 12) = xa_a 360 (F 12) := (oh8 _ (by omega)).trans hM12
                    have hM14 : h8.1 (k + 14) = xa_a 583200 (F 14) := (oh8 _ (by omega)).trans hM14
                    have hM15 : h8.1 (k + 15) = xa_a 583200 (F 15) := (oh8 _ (by omega)).trans hM15
                    have hM16 : h8.1 (k + 16) = xa_a 4 (F 16) := (oh8 _ (by omega)).trans hM16
                    have hn : h8.2 = h0.2 := nh8.trans hn
                    have fr : ∀ i, (i < k ∨ k + 17 ≤ i) → h8.1 i = h0.1 i := fun i hi => (oh8 i (by omega)).trans (fr i hi)
                    refine xa_aload_n (pc := 179) dX10_figures_179 rfl ?_
                    refine xa_dup (pc := 180) dX10_figures_180 rfl ?_
                    refine xa_getfield (pc := 181) dX10_figures_181 flRX10_74 (by omega) (by omega) hM0 rfl ?_
                    refine xa_iconst (pc := 184) dX10_figures_184 ?_
                    refine xa_iadd (pc := 185) dX10_figures_185 ?_
                    refine xa_top (y := ((a0 + 1 : Nat) : Int)) (by omega) ?_
                    refine xa_putw (pc := 186) [xa_i (s 0), xa_r (k + 1), xa_r (k + 2), xa_r (k + 3), xa_r (k + 4), xa_r (k + 5), xa_r (k + 6), xa_r (k + 7), xa_r (k + 8), xa_r (k + 9), xa_r (k + 10), xa_r (k + 11), xa_r (k + 12), xa_i (s 13), xa_i (s 14), xa_i ((a0 + 1 : Nat) : Int), xa_r (k + 13), xa_i (s 17), xa_i (s 18), xa_i (s 19), xa_i (s 20), xa_r (k + 14), xa_r (k + 15), xa_i (s 23), xa_r (k + 16)] dX10_figures_186 flRX10_74 plX10_15 (by omega) (by omega) hM0 trivial rfl (fun h9 nh9 ch9 oh9 => ?_)
                    have hM0 : h9.1 k = xa_o 10 [xa_i (s 0), xa_r (k + 1), xa_r (k + 2), xa_r (k + 3), xa_r (k + 4), xa_r (k + 5), xa_r (k + 6), xa_r (k + 7), xa_r (k + 8), xa_r (k + 9), xa_r (k + 10), xa_r (k + 11), xa_r (k + 12), xa_i (s 13), xa_i (s 14), xa_i ((a0 + 1 : Nat) : Int), xa_r (k + 13), xa_i (s 17), xa_i (s 18), xa_i (s 19), xa_i (s 20), xa_r (k + 14), xa_r (k + 15), xa_i (s 23), xa_r (k + 16)] := ch9
                    have hM1 : h9.1 (k + 1) = xa_a 120 (F 1) := (oh9 _ (by omega)).trans hM1
                    have hM2 : h9.1 (k + 2) = xa_a 2 (F 2) := (oh9 _ (by omega)).trans hM2
                    have hM3 : h9.1 (k + 3) = xa_a 18 (F 3) := (oh9 _ (by omega)).trans hM3
                    have hM4 : h9.1 (k + 4) = xa_a 2 (F 4) := (oh9 _ (by omega)).trans hM4
                    have hM5 : h9.1 (k + 5) = xa_a 4 (F 5) := (oh9 _ (by omega)).trans hM5
                    have hM6 : h9.1 (k + 6) = xa_a 4 (F 6) := (oh9 _ (by omega)).trans hM6
                    have hM7 : h9.1 (k + 7) = xa_a 2 (F 7) := (oh9 _ (by omega)).trans hM7
                    have hM8 : h9.1 (k + 8) = xa_a 2 (F 8) := (oh9 _ (by omega)).trans hM8
                    have hM9 : h9.1 (k + 9) = xa_a 12 (F 9) := (oh9 _ (by omega)).trans hM9
                    have hM10 : h9.1 (k + 10) = xa_a 720 (F 10) := (oh9 _ (by omega)).trans hM10
                    have hM11 : h9.1 (k + 11) = xa_a 3 (F 11) := (oh9 _ (by omega)).trans hM11
                    have hM12 : h9.1 (k + 12) = xa_a 360 (F 12) := (oh9 _ (by omega)).trans hM12
                    have hM13 : h9.1 (k + 13) = xa_a 3 (xa_upf (F 13) 0 (-x0)) := (oh9 _ (by omega)).trans hM13
                    have hM14 : h9.1 (k + 14) = xa_a 583200 (F 14) := (oh9 _ (by omega)).trans hM14
                    have hM15 : h9.1 (k + 15) = xa_a 583200 (F 15) := (oh9 _ (by omega)).trans hM15
                    have hM16 : h9.1 (k + 16) = xa_a 4 (F 16) := (oh9 _ (by omega)).trans hM16
                    have hn : h9.2 = h0.2 := nh9.trans hn
                    have fr : ∀ i, (i < k ∨ k + 17 ≤ i) → h9.1 i = h0.1 i := fun i hi => (oh9 i (by omega)).trans (fr i hi)
                    refine xa_iincw (pc := 189) (y := 1) [some (xa_r k), some (xa_i 3), some (xa_i 1), some (xa_i 1), some (xa_i ((m0 : Nat) : Int)), some (xa_i x0)] dX10_figures_189 (by decide) rfl rfl rfl rfl ?_
                    refine xa_goto (pc := 192) (tgt := 2) dX10_figures_192 (by decide) ?_
                    have e0 : rd_num n (F 1) p = some ((-x0), a0) := by rw [z0, if_pos (by omega)]; rfl
                    exact c_fig3_1 hs0 hn9 hf hp9 (by omega) (by omega) e0 (by omega) (by omega) hM0 hM1 hM2 hM3 hM4 hM5 hM6 hM7 hM8 hM9 hM10 hM11 hM12 hM13 hM14 hM15 hM16 hn fr
                · skip
                  refine xa_iconst (pc := 159) dX10_figures_159 ?_
                  refine xa_ireturn (pc := 160) dX10_figures_160 rfl (Or.inl rfl) ?_
                  have ng : nosg n (F 1) p 44 := by
                    by_cases hc : (1 ≤ m0 ∧ m0 ≤ 4) ∧ ¬ ((1 : Nat) = 1 ∧ x0 = 0)
                    · exact Or.inr ⟨_, _, by rw [z0, if_pos hc], by omega⟩
                    · exact Or.inl (by rw [z0, if_neg hc])
                  exact Or.inr ⟨fg3_0 ng, rfl, _, _, ⟨hM0, hM1, hM2, hM3, hM4, hM5, hM6, hM7, hM8, hM9, hM10, hM11, hM12, hM13, hM14, hM15, hM16, by omega, by omega⟩, hn, fr⟩
theorem c_figures3 {G : xa_G} {h : xa_H} (k n p : Nat) (F : Nat → Nat → Int) (s : Nat → Int) (hs0 : s 0 = (n : Int)) (hn9 : n ≤ 120) (hf : ∀ i, 0 ≤ F 1 i ∧ F 1 i ≤ 255) (hp : s 15 = ((p : Nat) : Int)) (hp9 : p ≤ 200) (hM : xM h k F s)  : xa_M G mX10_figures [xa_r k, xa_i 3] h 0 0 (fun r h' => ((∃ u, fg3 n (F 1) p = some u ∧ r = some (xa_i 1) ∧ xM h' k (xa_uF F 13 (xa_upf (xa_upf (xa_upf (F 13) 0 u.1) 1 u.2.1) 2 u.2.2.1)) (xa_upf s 15 ((u.2.2.2 + 1 : Nat) : Int)) ∧ h'.2 = h.2 ∧ ∀ i, (i < k ∨ k + 17 ≤ i) → h'.1 i = h.1 i) ∨ (fg3 n (F 1) p = none ∧ r = some (xa_i 0) ∧ ∃ (nu : Nat → Int) (x : Int), xM h' k (xa_uF F 13 nu) (xa_upf s 15 x) ∧ h'.2 = h.2 ∧ ∀ i, (i < k ∨ k + 17 ≤ i) → h'.1 i = h.1 i))) := by
  refine xa_enter (by decide +kernel) (Nat.le_of_ble_eq_true rfl) ?_
  refine xa_locals (ls' := [some (xa_r k), some (xa_i 3), none, none, none, none]) rfl ?_
  have hn : h.2 = h.2 := rfl
  have fr : ∀ i, (i < k ∨ k + 17 ≤ i) → h.1 i = h.1 i := fun _ _ => rfl
  obtain ⟨hM0, hM1, hM2, hM3, hM4, hM5, hM6, hM7, hM8, hM9, hM10, hM11, hM12, hM13, hM14, hM15, hM16, hMk, hMn⟩ := hM
  rw [hp] at hM0
  refine xa_iconst (pc := 0) dX10_figures_0 ?_
  refine xa_istoren (pc := 1) [some (xa_r k), some (xa_i 3), some (xa_i 0), none, none, none] dX10_figures_1 (by decide) (Nat.le_of_ble_eq_true rfl) rfl rfl ?_
  exact c_fig3_0 hs0 hn9 hf hp9 (by omega) (by omega) hM0 hM1 hM2 hM3 hM4 hM5 hM6 hM7 hM8 hM9 hM10 hM11 hM12 hM13 hM14 hM15 hM16 rfl (fun _ _ => rfl)
