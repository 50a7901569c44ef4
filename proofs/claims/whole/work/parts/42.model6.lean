/-! The model: a part's item, a joint's -/
theorem fg1_b {n : Nat} {f : Nat → Int} {p : Nat} {u : Int × Nat} (h : fg1 n f p = some u) : (-9999 ≤ u.1 ∧ u.1 ≤ 9999) ∧ p + 1 ≤ u.2 ∧ u.2 ≤ p + 5 := by
  unfold fg1 at h
  cases e : rd_num n f p with
  | none => rw [e] at h; cases h
  | some w =>
    rw [e] at h
    have h : (if sp_at n f ((w.2 : Nat) : Int) = 59 then some w else none) = some u := h
    split at h
    · cases h
      exact rd_num_b (v := u.1) (p' := u.2) e
    · cases h
theorem fg3_b {n : Nat} {f : Nat → Int} {p : Nat} {u : Int × Int × Int × Nat} (h : fg3 n f p = some u) : ((-9999 ≤ u.1 ∧ u.1 ≤ 9999) ∧ (-9999 ≤ u.2.1 ∧ u.2.1 ≤ 9999) ∧ (-9999 ≤ u.2.2.1 ∧ u.2.2.1 ≤ 9999)) ∧ p + 1 ≤ u.2.2.2 ∧ u.2.2.2 ≤ p + 17 := by
  unfold fg3 at h
  cases e : rd_num n f p with
  | none => rw [e] at h; cases h
  | some w =>
    rw [e] at h
    have b0 := rd_num_b (v := w.1) (p' := w.2) e
    have h : (if sp_at n f ((w.2 : Nat) : Int) = 44 then (rd_num n f (w.2 + 1)).bind fun u1 => if sp_at n f ((u1.2 : Nat) : Int) = 44 then (rd_num n f (u1.2 + 1)).bind fun u2 => if sp_at n f ((u2.2 : Nat) : Int) = 59 then some (w.1, u1.1, u2.1, u2.2) else none else none else none) = some u := h
    split at h
    · cases e1 : rd_num n f (w.2 + 1) with
      | none => rw [e1] at h; cases h
      | some w1 =>
        rw [e1] at h
        have b1 := rd_num_b (v := w1.1) (p' := w1.2) e1
        have h : (if sp_at n f ((w1.2 : Nat) : Int) = 44 then (rd_num n f (w1.2 + 1)).bind fun u2 => if sp_at n f ((u2.2 : Nat) : Int) = 59 then some (w.1, w1.1, u2.1, u2.2) else none else none) = some u := h
        split at h
        · cases e2 : rd_num n f (w1.2 + 1) with
          | none => rw [e2] at h; cases h
          | some w2 =>
            rw [e2] at h
            have b2 := rd_num_b (v := w2.1) (p' := w2.2) e2
            have h : (if sp_at n f ((w2.2 : Nat) : Int) = 59 then some (w.1, w1.1, w2.1, w2.2) else none) = some u := h
            split at h
            · cases h
              exact ⟨⟨b0.1, b1.1, b2.1⟩, by dsimp only; omega, by dsimp only; omega⟩
            · cases h
        · cases h
    · cases h
theorem c_partItem {G : xa_G} {h : xa_H} (k n p : Nat) (F : Nat → Nat → Int) (s : Nat → Int) (hs0 : s 0 = (n : Int)) (hn9 : n ≤ 120) (hf : ∀ i, 0 ≤ F 1 i ∧ F 1 i ≤ 255) (hp : s 15 = ((p : Nat) : Int)) (hp9 : p ≤ 200) (hl3 : ∀ i, 0 ≤ F 3 i ∧ F 3 i ≤ 99) (h2 : 0 ≤ F 2 1 ∧ F 2 1 ≤ 3) (hM : xM h k F s)  : xa_M G mX10_partItem [xa_r k] h 0 0 (fun r h' => ((∃ u, fg3 n (F 1) p = some u ∧ (F 2 1 ≠ 3 ∧ (1 ≤ u.1 ∧ u.1 ≤ 99) ∧ (1 ≤ u.2.1 ∧ u.2.1 ≤ 99) ∧ (1 ≤ u.2.2.1 ∧ u.2.2.1 ≤ 99)) ∧ r = some (xa_i 1) ∧ xM h' k (xa_uF (xa_uF (xa_uF F 13 (xa_upf (xa_upf (xa_upf (F 13) 0 u.1) 1 u.2.1) 2 u.2.2.1)) 3 (xa_upf (xa_upf (xa_upf (F 3) (9 + 3 * F 2 1 + 0).toNat u.1) (9 + 3 * F 2 1 + 1).toNat u.2.1) (9 + 3 * F 2 1 + 2).toNat u.2.2.1)) 2 (xa_upf (F 2) 1 (F 2 1 + 1))) (xa_upf s 15 ((u.2.2.2 + 1 : Nat) : Int))) ∨ ((fg3 n (F 1) p = none ∨ ∃ u, fg3 n (F 1) p = some u ∧ ¬ (F 2 1 ≠ 3 ∧ (1 ≤ u.1 ∧ u.1 ≤ 99) ∧ (1 ≤ u.2.1 ∧ u.2.1 ≤ 99) ∧ (1 ≤ u.2.2.1 ∧ u.2.2.1 ≤ 99))) ∧ r = some (xa_i 0) ∧ ∃ (nu l3 : Nat → Int) (x : Int), (∀ i, 0 ≤ l3 i ∧ l3 i ≤ 99) ∧ (∀ i, i < 9 → l3 i = F 3 i) ∧ xM h' k (xa_uF (xa_uF F 13 nu) 3 l3) (xa_upf s 15 x))) ∧ h'.2 = h.2 ∧ ∀ i, (i < k ∨ k + 17 ≤ i) → h'.1 i = h.1 i) := by
  refine xa_enter (by decide +kernel) (Nat.le_of_ble_eq_true rfl) ?_
  refine xa_locals (ls' := [some (xa_r k), none]) rfl ?_
  have hn : h.2 = h.2 := rfl
  have fr : ∀ i, (i < k ∨ k + 17 ≤ i) → h.1 i = h.1 i := fun _ _ => rfl
  obtain ⟨hM0, hM1, hM2, hM3, hM4, hM5, hM6, hM7, hM8, hM9, hM10, hM11, hM12, hM13, hM14, hM15, hM16, hMk, hMn⟩ := hM
  rw [hp] at hM0
  refine xa_aload_n (pc := 0) dX10_partItem_0 rfl ?_
  refine xa_iconst (pc := 1) dX10_partItem_1 ?_
  refine xa_callV (pc := 2) (as := [xa_i 3]) (rest := []) dX10_partItem_2 ⟨qX10_figures.1, qX10_figures.2.1, qX10_figures.2.2, by decide, by decide⟩ lkRX10_87 imX10_figures seX10_figures rfl rfl (by omega) (by omega) hM0 rfl (Nat.le_of_ble_eq_true rfl) (Nat.zero_le _) (Nat.zero_le _) (c_figures3 _ n p F (xa_upf s 15 ((p : Nat) : Int)) hs0 hn9 hf rfl hp9 ⟨hM0, hM1, hM2, hM3, hM4, hM5, hM6, hM7, hM8, hM9, hM10, hM11, hM12, hM13, hM14, hM15, hM16, by omega, by omega⟩) (fun r h' hq => ?_)
  rcases hq with ⟨u, hu, rfl, hM, hqn, hqf⟩ | ⟨hu, rfl, nu, x, hM, hqn, hqf⟩
  · skip
    obtain ⟨hM0, hM1, hM2, hM3, hM4, hM5, hM6, hM7, hM8, hM9, hM10, hM11, hM12, hM13, hM14, hM15, hM16, hMk, hMn⟩ := hM
    have hM0 : h'.1 k = xa_o 10 [xa_i (s 0), xa_r (k + 1), xa_r (k + 2), xa_r (k + 3), xa_r (k + 4), xa_r (k + 5), xa_r (k + 6), xa_r (k + 7), xa_r (k + 8), xa_r (k + 9), xa_r (k + 10), xa_r (k + 11), xa_r (k + 12), xa_i (s 13), xa_i (s 14), xa_i ((u.2.2.2 + 1 : Nat) : Int), xa_r (k + 13), xa_i (s 17), xa_i (s 18), xa_i (s 19), xa_i (s 20), xa_r (k + 14), xa_r (k + 15), xa_i (s 23), xa_r (k + 16)] := hM0
    have hM1 : h'.1 (k + 1) = xa_a 120 (F 1) := hM1
    have hM2 : h'.1 (k + 2) = xa_a 2 (F 2) := hM2
    have hM3 : h'.1 (k + 3) = xa_a 18 (F 3) := hM3
    have hM4 : h'.1 (k + 4) = xa_a 2 (F 4) := hM4
    have hM5 : h'.1 (k + 5) = xa_a 4 (F 5) := hM5
    have hM6 : h'.1 (k + 6) = xa_a 4 (F 6) := hM6
    have hM7 : h'.1 (k + 7) = xa_a 2 (F 7) := hM7
    have hM8 : h'.1 (k + 8) = xa_a 2 (F 8) := hM8
    have hM9 : h'.1 (k + 9) = xa_a 12 (F 9) := hM9
    have hM10 : h'.1 (k + 10) = xa_a 720 (F 10) := hM10
    have hM11 : h'.1 (k + 11) = xa_a 3 (F 11) := hM11
    have hM12 : h'.1 (k + 12) = xa_a 360 (F 12) := hM12
    have hM13 : h'.1 (k + 13) = xa_a 3 (xa_upf (xa_upf (xa_upf (F 13) 0 u.1) 1 u.2.1) 2 u.2.2.1) := hM13
    have hM14 : h'.1 (k + 14) = xa_a 583200 (F 14) := hM14
    have hM15 : h'.1 (k + 15) = xa_a 583200 (F 15) := hM15
    have hM16 : h'.1 (k + 16) = xa_a 4 (F 16) := hM16
    have hn : h'.2 = h.2 := hqn.trans hn
    have fr : ∀ i, (i < k ∨ k + 17 ≤ i) → h'.1 i = h.1 i := fun i hi => (hqf i (by omega)).trans (fr i hi)
    have hub := fg3_b hu
    refine xa_if_eq (pc := 5) (tgt := 18) dX10_partItem_5 (by decide) (by decide) (fun c_5 => ?_) (fun c_5 => ?_)
    · skip
      exfalso; omega
    · skip
      refine xa_aload_n (pc := 8) dX10_partItem_8 rfl ?_
      refine xa_getfield (pc := 9) dX10_partItem_9 flRX10_13 (by omega) (by omega) hM0 rfl ?_
      refine xa_iconst (pc := 12) dX10_partItem_12 ?_
      refine xa_ialdw (pc := 13) 1 dX10_partItem_13 (by omega) hM2 (by omega) (by omega) rfl ?_
      refine xa_iconst (pc := 14) dX10_partItem_14 ?_
      refine xa_icmp_ne (pc := 15) (tgt := 20) dX10_partItem_15 (by decide) ⟨by omega, by omega⟩ (by decide) (fun c_15 => ?_) (fun c_15 => ?_)
      · skip
        refine xa_iconst (pc := 20) dX10_partItem_20 ?_
        refine xa_istoren (pc := 21) [some (xa_r k), some (xa_i 0)] dX10_partItem_21 (by decide) (Nat.le_of_ble_eq_true rfl) rfl rfl ?_
        refine xa_iload_n (pc := 22) dX10_partItem_22 rfl ?_
        refine xa_iconst (pc := 23) dX10_partItem_23 ?_
        refine xa_icmp_ge (pc := 24) (tgt := 76) dX10_partItem_24 (by decide) (by decide) (by decide) (fun c_24 => ?_) (fun c_24 => ?_)
        · skip
          exfalso; omega
        · skip
          refine xa_aload_n (pc := 27) dX10_partItem_27 rfl ?_
          refine xa_getfield (pc := 28) dX10_partItem_28 flRX10_46 (by omega) (by omega) hM0 rfl ?_
          refine xa_iload_n (pc := 31) dX10_partItem_31 rfl ?_
          refine xa_ialdw (pc := 32) 0 dX10_partItem_32 (by omega) hM13 (by omega) (by omega) rfl ?_
          refine xa_top (y := u.1) rfl ?_
          refine xa_i2l (pc := 33) dX10_partItem_33 ⟨by omega, by omega⟩ ?_
          refine xa_lconst (pc := 34) (n := 1) dX10_partItem_34 rfl ?_
          refine xa_ldc2 (pc := 35) (n := 99) dX10_partItem_35 ctRX10_91 rfl ?_
          refine xa_callS (pc := 38) (as := [xa_l u.1, xa_l 1, xa_l 99]) (rest := []) dX10_partItem_38 ⟨qX10_in.1, qX10_in.2.1, qX10_in.2.2, by decide, by decide⟩ lkRX10_65 smX10_in rfl rfl (Nat.le_of_ble_eq_true rfl) (Nat.zero_le _) (Nat.zero_le _) (c_in _ _ _ ⟨by omega, by omega⟩ ⟨by omega, by omega⟩ ⟨by omega, by omega⟩) (fun r h' hq => ?_)
          obtain ⟨rfl, hq⟩ := hq
          have hq := hq.symm
          subst hq
          refine xa_if_ne (pc := 41) (tgt := 46) dX10_partItem_41 (by decide) xa_okb (fun c_41 => ?_) (fun c_41 => ?_)
          · have c_41 := xa_b1.mp c_41
            refine xa_aload_n (pc := 46) dX10_partItem_46 rfl ?_
            refine xa_getfield (pc := 47) dX10_partItem_47 flRX10_16 (by omega) (by omega) hM0 rfl ?_
            refine xa_bipush (pc := 50) dX10_partItem_50 rfl ?_
            refine xa_iconst (pc := 52) dX10_partItem_52 ?_
            refine xa_aload_n (pc := 53) dX10_partItem_53 rfl ?_
            refine xa_getfield (pc := 54) dX10_partItem_54 flRX10_13 (by omega) (by omega) hM0 rfl ?_
            refine xa_iconst (pc := 57) dX10_partItem_57 ?_
            refine xa_ialdw (pc := 58) 1 dX10_partItem_58 (by omega) hM2 (by omega) (by omega) rfl ?_
            refine xa_imul (pc := 59) dX10_partItem_59 ?_
            refine xa_iadd (pc := 60) dX10_partItem_60 ?_
            refine xa_iload_n (pc := 61) dX10_partItem_61 rfl ?_
            refine xa_iadd (pc := 62) dX10_partItem_62 ?_
            refine xa_aload_n (pc := 63) dX10_partItem_63 rfl ?_
            refine xa_getfield (pc := 64) dX10_partItem_64 flRX10_46 (by omega) (by omega) hM0 rfl ?_
            refine xa_iload_n (pc := 67) dX10_partItem_67 rfl ?_
            refine xa_ialdw (pc := 68) 0 dX10_partItem_68 (by omega) hM13 (by omega) (by omega) rfl ?_
            refine xa_top (y := u.1) rfl ?_
            refine xa_iastw (pc := 69) (((9 + (3 * ((F 2) 1))) + 0).toNat) dX10_partItem_69 (by omega) (by omega) hM3 (by omega) (by omega) rfl (fun h1 nh1 ch1 oh1 => ?_)
            have hM3 : h1.1 (k + 3) = xa_a 18 (xa_upf (F 3) (((9 + (3 * ((F 2) 1))) + 0).toNat) u.1) := ch1
            have hM0 : h1.1 k = xa_o 10 [xa_i (s 0), xa_r (k + 1), xa_r (k + 2), xa_r (k + 3), xa_r (k + 4), xa_r (k + 5), xa_r (k + 6), xa_r (k + 7), xa_r (k + 8), xa_r (k + 9), xa_r (k + 10), xa_r (k + 11), xa_r (k + 12), xa_i (s 13), xa_i (s 14), xa_i ((u.2.2.2 + 1 : Nat) : Int), xa_r (k + 13), xa_i (s 17), xa_i (s 18), xa_i (s 19), xa_i (s 20), xa_r (k + 14), xa_r (k + 15), xa_i (s 23), xa_r (k + 16)] := (oh1 _ (by omega)).trans hM0
            have hM1 : h1.1 (k + 1) = xa_a 120 (F 1) := (oh1 _ (by omega)).trans hM1
            have hM2 : h1.1 (k + 2) = xa_a 2 (F 2) := (oh1 _ (by omega)).trans hM2
            have hM4 : h1.1 (k + 4) = xa_a 2 (F 4) := (oh1 _ (by omega)).trans hM4
            have hM5 : h1.1 (k + 5) = xa_a 4 (F 5) := (oh1 _ (by omega)).trans hM5
            have hM6 : h1.1 (k + 6) = xa_a 4 (F 6) := (oh1 _ (by omega)).trans hM6
            have hM7 : h1.1 (k + 7) = xa_a 2 (F 7) := (oh1 _ (by omega)).trans hM7
            have hM8 : h1.1 (k + 8) = xa_a 2 (F 8) := (oh1 _ (by omega)).trans hM8
            have hM9 : h1.1 (k + 9) = xa_a 12 (F 9) := (oh1 _ (by omega)).trans hM9
            have hM10 : h1.1 (k + 10) = xa_a 720 (F 10) := (oh1 _ (by omega)).trans hM10
            have hM11 : h1.1 (k + 11) = xa_a 3 (F 11) := (oh1 _ (by omega)).trans hM11
            have hM12 : h1.1 (k + 12) = xa_a 360 (F 12) := (oh1 _ (by omega)).trans hM12
            have hM13 : h1.1 (k + 13) = xa_a 3 (xa_upf (xa_upf (xa_upf (F 13) 0 u.1) 1 u.2.1) 2 u.2.2.1) := (oh1 _ (by omega)).trans hM13
            have hM14 : h1.1 (k + 14) = xa_a 583200 (F 14) := (oh1 _ (by omega)).trans hM14
            have hM15 : h1.1 (k + 15) = xa_a 583200 (F 15) := (oh1 _ (by omega)).trans hM15
            have hM16 : h1.1 (k + 16) = xa_a 4 (F 16) := (oh1 _ (by omega)).trans hM16
            have hn : h1.2 = h.2 := nh1.trans hn
            have fr : ∀ i, (i < k ∨ k + 17 ≤ i) → h1.1 i = h.1 i := fun i hi => (oh1 i (by omega)).trans (fr i hi)
            refine xa_iincw (pc := 70) (y := 1) [some (xa_r k), some (xa_i 1)] dX10_partItem_70 (by decide) rfl rfl rfl rfl ?_
            refine xa_goto (pc := 73) (tgt := 22) dX10_partItem_73 (by decide) ?_
            refine xa_iload_n (pc := 22) dX10_partItem_22 rfl ?_
            refine xa_iconst (pc := 23) dX10_partItem_23 ?_
            refine xa_icmp_ge (pc := 24) (tgt := 76) dX10_partItem_24 (by decide) (by decide) (by decide) (fun c_24 => ?_) (fun c_24 => ?_)
            · skip
              exfalso; omega
            · skip
              refine xa_aload_n (pc := 27) dX10_partItem_27 rfl ?_
              refine xa_getfield (pc := 28) dX10_partItem_28 flRX10_46 (by omega) (by omega) hM0 rfl ?_
              refine xa_iload_n (pc := 31) dX10_partItem_31 rfl ?_
              refine xa_ialdw (pc := 32) 1 dX10_partItem_32 (by omega) hM13 (by omega) (by omega) rfl ?_
              refine xa_top (y := u.2.1) rfl ?_
              refine xa_i2l (pc := 33) dX10_partItem_33 ⟨by omega, by omega⟩ ?_
              refine xa_lconst (pc := 34) (n := 1) dX10_partItem_34 rfl ?_
              refine xa_ldc2 (pc := 35) (n := 99) dX10_partItem_35 ctRX10_91 rfl ?_
              refine xa_callS (pc := 38) (as := [xa_l u.2.1, xa_l 1, xa_l 99]) (rest := []) dX10_partItem_38 ⟨qX10_in.1, qX10_in.2.1, qX10_in.2.2, by decide, by decide⟩ lkRX10_65 smX10_in rfl rfl (Nat.le_of_ble_eq_true rfl) (Nat.zero_le _) (Nat.zero_le _) (c_in _ _ _ ⟨by omega, by omega⟩ ⟨by omega, by omega⟩ ⟨by omega, by omega⟩) (fun r h' hq => ?_)
              obtain ⟨rfl, hq⟩ := hq
              have hq := hq.symm
              subst hq
              refine xa_if_ne (pc := 41) (tgt := 46) dX10_partItem_41 (by decide) xa_okb (fun c_41 => ?_) (fun c_41 => ?_)
              · have c_41 := xa_b1.mp c_41
                refine xa_aload_n (pc := 46) dX10_partItem_46 rfl ?_
                refine xa_getfield (pc := 47) dX10_partItem_47 flRX10_16 (by omega) (by omega) hM0 rfl ?_
                refine xa_bipush (pc := 50) dX10_partItem_50 rfl ?_
                refine xa_iconst (pc := 52) dX10_partItem_52 ?_
                refine xa_aload_n (pc := 53) dX10_partItem_53 rfl ?_
                refine xa_getfield (pc := 54) dX10_partItem_54 flRX10_13 (by omega) (by omega) hM0 rfl ?_
                refine xa_iconst (pc := 57) dX10_partItem_57 ?_
                refine xa_ialdw (pc := 58) 1 dX10_partItem_58 (by omega) hM2 (by omega) (by omega) rfl ?_
                refine xa_imul (pc := 59) dX10_partItem_59 ?_
                refine xa_iadd (pc := 60) dX10_partItem_60 ?_
                refine xa_iload_n (pc := 61) dX10_partItem_61 rfl ?_
                refine xa_iadd (pc := 62) dX10_partItem_62 ?_
                refine xa_aload_n (pc := 63) dX10_partItem_63 rfl ?_
                refine xa_getfield (pc := 64) dX10_partItem_64 flRX10_46 (by omega) (by omega) hM0 rfl ?_
                refine xa_iload_n (pc := 67) dX10_partItem_67 rfl ?_
                refine xa_ialdw (pc := 68) 1 dX10_partItem_68 (by omega) hM13 (by omega) (by omega) rfl ?_
                refine xa_top (y := u.2.1) rfl ?_
                refine xa_iastw (pc := 69) (((9 + (3 * ((F 2) 1))) + 1).toNat) dX10_partItem_69 (by omega) (by omega) hM3 (by omega) (by omega) rfl (fun h2 nh2 ch2 oh2 => ?_)
                have hM3 : h2.1 (k + 3) = xa_a 18 (xa_upf (xa_upf (F 3) (((9 + (3 * ((F 2) 1))) + 0).toNat) u.1) (((9 + (3 * ((F 2) 1))) + 1).toNat) u.2.1) := ch2
                have hM0 : h2.1 k = xa_o 10 [xa_i (s 0), xa_r (k + 1), xa_r (k + 2), xa_r (k + 3), xa_r (k + 4), xa_r (k + 5), xa_r (k + 6), xa_r (k + 7), xa_r (k + 8), xa_r (k + 9), xa_r (k + 10), xa_r (k + 11), xa_r (k + 12), xa_i (s 13), xa_i (s 14), xa_i ((u.2.2.2 + 1 : Nat) : Int), xa_r (k + 13), xa_i (s 17), xa_i (s 18), xa_i (s 19), xa_i (s 20), xa_r (k + 14), xa_r (k + 15), xa_i (s 23), xa_r (k + 16)] := (oh2 _ (by omega)).trans hM0
                have hM1 : h2.1 (k + 1) = xa_a 120 (F 1) := (oh2 _ (by omega)).trans hM1
                have hM2 : h2.1 (k + 2) = xa_a 2 (F 2) := (oh2 _ (by omega)).trans hM2
                have hM4 : h2.1 (k + 4) = xa_a 2 (F 4) := (oh2 _ (by omega)).trans hM4
                have hM5 : h2.1 (k + 5) = xa_a 4 (F 5) := (oh2 _ (by omega)).trans hM5
                have hM6 : h2.1 (k + 6) = xa_a 4 (F 6) := (oh2 _ (by omega)).trans hM6
                have hM7 : h2.1 (k + 7) = xa_a 2 (F 7) := (oh2 _ (by omega)).trans hM7
                have hM8 : h2.1 (k + 8) = xa_a 2 (F 8) := (oh2 _ (by omega)).trans hM8
                have hM9 : h2.1 (k + 9) = xa_a 12 (F 9) := (oh2 _ (by omega)).trans hM9
                have hM10 : h2.1 (k + 10) = xa_a 720 (F 10) := (oh2 _ (by omega)).trans hM10
                have hM11 : h2.1 (k + 11) = xa_a 3 (F 11) := (oh2 _ (by omega)).trans hM11
                have hM12 : h2.1 (k + 12) = xa_a 360 (F 12) := (oh2 _ (by omega)).trans hM12
                have hM13 : h2.1 (k + 13) = xa_a 3 (xa_upf (xa_upf (xa_upf (F 13) 0 u.1) 1 u.2.1) 2 u.2.2.1) := (oh2 _ (by omega)).trans hM13
                have hM14 : h2.1 (k + 14) = xa_a 583200 (F 14) := (oh2 _ (by omega)).trans hM14
                have hM15 : h2.1 (k + 15) = xa_a 583200 (F 15) := (oh2 _ (by omega)).trans hM15
                have hM16 : h2.1 (k + 16) = xa_a 4 (F 16) := (oh2 _ (by omega)).trans hM16
                have hn : h2.2 = h.2 := nh2.trans hn
                have fr : ∀ i, (i < k ∨ k + 17 ≤ i) → h2.1 i = h.1 i := fun i hi => (oh2 i (by omega)).trans (fr i hi)
                refine xa_iincw (pc := 70) (y := 2) [some (xa_r k), some (xa_i 2)] dX10_partItem_70 (by decide) rfl rfl rfl rfl ?_
                refine xa_goto (pc := 73) (tgt := 22) dX10_partItem_73 (by decide) ?_
                refine xa_iload_n (pc := 22) dX10_partItem_22 rfl ?_
                refine xa_iconst (pc := 23) dX10_partItem_23 ?_
                refine xa_icmp_ge (pc := 24) (tgt := 76) dX10_partItem_24 (by decide) (by decide) (by decide) (fun c_24 => ?_) (fun c_24 => ?_)
                · skip
                  exfalso; omega
                · skip
                  refine xa_aload_n (pc := 27) dX10_partItem_27 rfl ?_
                  refine xa_getfield (pc := 28) dX10_partItem_28 flRX10_46 (by omega) (by omega) hM0 rfl ?_
                  refine xa_iload_n (pc := 31) dX10_partItem_31 rfl ?_
                  refine xa_ialdw (pc := 32) 2 dX10_partItem_32 (by omega) hM13 (by omega) (by omega) rfl ?_
                  refine xa_top (y := u.2.2.1) rfl ?_
                  refine xa_i2l (pc := 33) dX10_partItem_33 ⟨by omega, by omega⟩ ?_
                  refine xa_lconst (pc := 34) (n := 1) dX10_partItem_34 rfl ?_
                  refine xa_ldc2 (pc := 35) (n := 99) dX10_partItem_35 ctRX10_91 rfl ?_
                  refine xa_callS (pc := 38) (as := [xa_l u.2.2.1, xa_l 1, xa_l 99]) (rest := []) dX10_partItem_38 ⟨qX10_in.1, qX10_in.2.1, qX10_in.2.2, by decide, by decide⟩ lkRX10_65 smX10_in rfl rfl (Nat.le_of_ble_eq_true rfl) (Nat.zero_le _) (Nat.zero_le _) (c_in _ _ _ ⟨by omega, by omega⟩ ⟨by omega, by omega⟩ ⟨by omega, by omega⟩) (fun r h' hq => ?_)
                  obtain ⟨rfl, hq⟩ := hq
                  have hq := hq.symm
                  subst hq
                  refine xa_if_ne (pc := 41) (tgt := 46) dX10_partItem_41 (by decide) xa_okb (fun c_41 => ?_) (fun c_41 => ?_)
                  · have c_41 := xa_b1.mp c_41
                    refine xa_aload_n (pc := 46) dX10_partItem_46 rfl ?_
                    refine xa_getfield (pc := 47) dX10_partItem_47 flRX10_16 (by omega) (by omega) hM0 rfl ?_
                    refine xa_bipush (pc := 50) dX10_partItem_50 rfl ?_
                    refine xa_iconst (pc := 52) dX10_partItem_52 ?_
                    refine xa_aload_n (pc := 53) dX10_partItem_53 rfl ?_
                    refine xa_getfield (pc := 54) dX10_partItem_54 flRX10_13 (by omega) (by omega) hM0 rfl ?_
                    refine xa_iconst (pc := 57) dX10_partItem_57 ?_
                    refine xa_ialdw (pc := 58) 1 dX10_partItem_58 (by omega) hM2 (by omega) (by omega) rfl ?_
                    refine xa_imul (pc := 59) dX10_partItem_59 ?_
                    refine xa_iadd (pc := 60) dX10_partItem_60 ?_
                    refine xa_iload_n (pc := 61) dX10_partItem_61 rfl ?_
                    refine xa_iadd (pc := 62) dX10_partItem_62 ?_
                    refine xa_aload_n (pc := 63) dX10_partItem_63 rfl ?_
                    refine xa_getfield (pc := 64) dX10_partItem_64 flRX10_46 (by omega) (by omega) hM0 rfl ?_
                    refine xa_iload_n (pc := 67) dX10_partItem_67 rfl ?_
                    refine xa_ialdw (pc := 68) 2 dX10_partItem_68 (by omega) hM13 (by omega) (by omega) rfl ?_
                    refine xa_top (y := u.2.2.1) rfl ?_
                    refine xa_iastw (pc := 69) (((9 + (3 * ((F 2) 1))) + 2).toNat) dX10_partItem_69 (by omega) (by omega) hM3 (by omega) (by omega) rfl (fun h3 nh3 ch3 oh3 => ?_)
                    have hM3 : h3.1 (k + 3) = xa_a 18 (xa_upf (xa_upf (xa_upf (F 3) (((9 + (3 * ((F 2) 1))) + 0).toNat) u.1) (((9 + (3 * ((F 2) 1))) + 1).toNat) u.2.1) (((9 + (3 * ((F 2) 1))) + 2).toNat) u.2.2.1) := ch3
                    have hM0 : h3.1 k = xa_o 10 [xa_i (s 0), xa_r (k + 1), xa_r (k + 2), xa_r (k + 3), xa_r (k + 4), xa_r (k + 5), xa_r (k + 6), xa_r (k + 7), xa_r (k + 8), xa_r (k + 9), xa_r (k + 10), xa_r (k + 11), xa_r (k + 12), xa_i (s 13), xa_i (s 14), xa_i ((u.2.2.2 + 1 : Nat) : Int), xa_r (k + 13), xa_i (s 17), xa_i (s 18), xa_i (s 19), xa_i (s 20), xa_r (k + 14), xa_r (k + 15), xa_i (s 23), xa_r (k + 16)] := (oh3 _ (by omega)).trans hM0
                    have hM1 : h3.1 (k + 1) = xa_a 120 (F 1) := (oh3 _ (by omega)).trans hM1
                    have hM2 : h3.1 (k + 2) = xa_a 2 (F 2) := (oh3 _ (by omega)).trans hM2
                    have hM4 : h3.1 (k + 4) = xa_a 2 (F 4) := (oh3 _ (by omega)).trans hM4
                    have hM5 : h3.1 (k + 5) = xa_a 4 (F 5) := (oh3 _ (by omega)).trans hM5
                    have hM6 : h3.1 (k + 6) = xa_a 4 (F 6) := (oh3 _ (by omega)).trans hM6
                    have hM7 : h3.1 (k + 7) = xa_a 2 (F 7) := (oh3 _ (by omega)).trans hM7
                    have hM8 : h3.1 (k + 8) = xa_a 2 (F 8) := (oh3 _ (by omega)).trans hM8
                    have hM9 : h3.1 (k + 9) = xa_a 12 (F 9) := (oh3 _ (by omega)).trans hM9
                    have hM10 : h3.1 (k + 10) = xa_a 720 (F 10) := (oh3 _ (by omega)).trans hM10
                    have hM11 : h3.1 (k + 11) = xa_a 3 (F 11) := (oh3 _ (by omega)).trans hM11
                    have hM12 : h3.1 (k + 12) = xa_a 360 (F 12) := (oh3 _ (by omega)).trans hM12
                    have hM13 : h3.1 (k + 13) = xa_a 3 (xa_upf (xa_upf (xa_upf (F 13) 0 u.1) 1 u.2.1) 2 u.2.2.1) := (oh3 _ (by omega)).trans hM13
                    have hM14 : h3.1 (k + 14) = xa_a 583200 (F 14) := (oh3 _ (by omega)).trans hM14
                    have hM15 : h3.1 (k + 15) = xa_a 583200 (F 15) := (oh3 _ (by omega)).trans hM15
                    have hM16 : h3.1 (k + 16) = xa_a 4 (F 16) := (oh3 _ (by omega)).trans hM16
                    have hn : h3.2 = h.2 := nh3.trans hn
                    have fr : ∀ i, (i < k ∨ k + 17 ≤ i) → h3.1 i = h.1 i := fun i hi => (oh3 i (by omega)).trans (fr i hi)
                    refine xa_iincw (pc := 70) (y := 3) [some (xa_r k), some (xa_i 3)] dX10_partItem_70 (by decide) rfl rfl rfl rfl ?_
                    refine xa_goto (pc := 73) (tgt := 22) dX10_partItem_73 (by decide) ?_
                    refine xa_iload_n (pc := 22) dX10_partItem_22 rfl ?_
                    refine xa_iconst (pc := 23) dX10_partItem_23 ?_
                    refine xa_icmp_ge (pc := 24) (tgt := 76) dX10_partItem_24 (by decide) (by decide) (by decide) (fun c_24 => ?_) (fun c_24 => ?_)
                    · skip
                      refine xa_aload_n (pc := 76) dX10_partItem_76 rfl ?_
                      refine xa_getfield (pc := 77) dX10_partItem_77 flRX10_13 (by omega) (by omega) hM0 rfl ?_
                      refine xa_iconst (pc := 80) dX10_partItem_80 ?_
                      refine xa_dup2 (pc := 81) dX10_partItem_81 rfl rfl ?_
                      refine xa_ialdw (pc := 82) 1 dX10_partItem_82 (by omega) hM2 (by omega) (by omega) rfl ?_
                      refine xa_iconst (pc := 83) dX10_partItem_83 ?_
                      refine xa_iadd (pc := 84) dX10_partItem_84 ?_
                      refine xa_iastw (pc := 85) 1 dX10_partItem_85 (by omega) (by omega) hM2 (by omega) (by omega) rfl (fun h4 nh4 ch4 oh4 => ?_)
                      have hM2 : h4.1 (k + 2) = xa_a 2 (xa_upf (F 2) 1 (((F 2) 1) + 1)) := ch4
                      have hM0 : h4.1 k = xa_o 10 [xa_i (s 0), xa_r (k + 1), xa_r (k + 2), xa_r (k + 3), xa_r (k + 4), xa_r (k + 5), xa_r (k + 6), xa_r (k + 7), xa_r (k + 8), xa_r (k + 9), xa_r (k + 10), xa_r (k + 11), xa_r (k + 12), xa_i (s 13), xa_i (s 14), xa_i ((u.2.2.2 + 1 : Nat) : Int), xa_r (k + 13), xa_i (s 17), xa_i (s 18), xa_i (s 19), xa_i (s 20), xa_r (k + 14), xa_r (k + 15), xa_i (s 23), xa_r (k + 16)] := (oh4 _ (by omega)).trans hM0
                      have hM1 : h4.1 (k + 1) = xa_a 120 (F 1) := (oh4 _ (by omega)).trans hM1
                      have hM3 : h4.1 (k + 3) = xa_a 18 (xa_upf (xa_upf (xa_upf (F 3) (((9 + (3 * ((F 2) 1))) + 0).toNat) u.1) (((9 + (3 * ((F 2) 1))) + 1).toNat) u.2.1) (((9 + (3 * ((F 2) 1))) + 2).toNat) u.2.2.1) := (oh4 _ (by omega)).trans hM3
                      have hM4 : h4.1 (k + 4) = xa_a 2 (F 4) := (oh4 _ (by omega)).trans hM4
                      have hM5 : h4.1 (k + 5) = xa_a 4 (F 5) := (oh4 _ (by omega)).trans hM5
                      have hM6 : h4.1 (k + 6) = xa_a 4 (F 6) := (oh4 _ (by omega)).trans hM6
                      have hM7 : h4.1 (k + 7) = xa_a 2 (F 7) := (oh4 _ (by omega)).trans hM7
                      have hM8 : h4.1 (k + 8) = xa_a 2 (F 8) := (oh4 _ (by omega)).trans hM8
                      have hM9 : h4.1 (k + 9) = xa_a 12 (F 9) := (oh4 _ (by omega)).trans hM9
                      have hM10 : h4.1 (k + 10) = xa_a 720 (F 10) := (oh4 _ (by omega)).trans hM10
                      have hM11 : h4.1 (k + 11) = xa_a 3 (F 11) := (oh4 _ (by omega)).trans hM11
                      have hM12 : h4.1 (k + 12) = xa_a 360 (F 12) := (oh4 _ (by omega)).trans hM12
                      have hM13 : h4.1 (k + 13) = xa_a 3 (xa_upf (xa_upf (xa_upf (F 13) 0 u.1) 1 u.2.1) 2 u.2.2.1) := (oh4 _ (by omega)).trans hM13
                      have hM14 : h4.1 (k + 14) = xa_a 583200 (F 14) := (oh4 _ (by omega)).trans hM14
                      have hM15 : h4.1 (k + 15) = xa_a 583200 (F 15) := (oh4 _ (by omega)).trans hM15
                      have hM16 : h4.1 (k + 16) = xa_a 4 (F 16) := (oh4 _ (by omega)).trans hM16
                      have hn : h4.2 = h.2 := nh4.trans hn
                      have fr : ∀ i, (i < k ∨ k + 17 ≤ i) → h4.1 i = h.1 i := fun i hi => (oh4 i (by omega)).trans (fr i hi)
                      refine xa_iconst (pc := 86) dX10_partItem_86 ?_
                      refine xa_ireturn (pc := 87) dX10_partItem_87 rfl (Or.inr rfl) ?_
                      exact ⟨Or.inl ⟨u, hu, ⟨by omega, by omega, by omega, by omega⟩, rfl, ⟨hM0, hM1, hM2, hM3, hM4, hM5, hM6, hM7, hM8, hM9, hM10, hM11, hM12, hM13, hM14, hM15, hM16, by omega, by omega⟩⟩, hn, fr⟩
                    · skip
                      exfalso; omega
                  · have c_41 := xa_b0.mp c_41
                    refine xa_iconst (pc := 44) dX10_partItem_44 ?_
                    refine xa_ireturn (pc := 45) dX10_partItem_45 rfl (Or.inl rfl) ?_
                    exact ⟨Or.inr ⟨Or.inr ⟨u, hu, by omega⟩, rfl, (xa_upf (xa_upf (xa_upf (F 13) 0 u.1) 1 u.2.1) 2 u.2.2.1), (xa_upf (xa_upf (F 3) (((9 + (3 * ((F 2) 1))) + 0).toNat) u.1) (((9 + (3 * ((F 2) 1))) + 1).toNat) u.2.1), ((u.2.2.2 + 1 : Nat) : Int), (xa_upf_b (xa_upf_b hl3 (by omega)) (by omega)), fun i hi => ((xa_upf_ne _ _ (by omega)).trans ((xa_upf_ne _ _ (by omega)).trans rfl)), ⟨hM0, hM1, hM2, hM3, hM4, hM5, hM6, hM7, hM8, hM9, hM10, hM11, hM12, hM13, hM14, hM15, hM16, by omega, by omega⟩⟩, hn, fr⟩
              · have c_41 := xa_b0.mp c_41
                refine xa_iconst (pc := 44) dX10_partItem_44 ?_
                refine xa_ireturn (pc := 45) dX10_partItem_45 rfl (Or.inl rfl) ?_
                exact ⟨Or.inr ⟨Or.inr ⟨u, hu, by omega⟩, rfl, (xa_upf (xa_upf (xa_upf (F 13) 0 u.1) 1 u.2.1) 2 u.2.2.1), (xa_upf (F 3) (((9 + (3 * ((F 2) 1))) + 0).toNat) u.1), ((u.2.2.2 + 1 : Nat) : Int), (xa_upf_b hl3 (by omega)), fun i hi => ((xa_upf_ne _ _ (by omega)).trans rfl), ⟨hM0, hM1, hM2, hM3, hM4, hM5, hM6, hM7, hM8, hM9, hM10, hM11, hM12, hM13, hM14, hM15, hM16, by omega, by omega⟩⟩, hn, fr⟩
          · have c_41 := xa_b0.mp c_41
            refine xa_iconst (pc := 44) dX10_partItem_44 ?_
            refine xa_ireturn (pc := 45) dX10_partItem_45 rfl (Or.inl rfl) ?_
            exact ⟨Or.inr ⟨Or.inr ⟨u, hu, by omega⟩, rfl, (xa_upf (xa_upf (xa_upf (F 13) 0 u.1) 1 u.2.1) 2 u.2.2.1), (F 3), ((u.2.2.2 + 1 : Nat) : Int), hl3, fun i hi => rfl, ⟨hM0, hM1, hM2, hM3, hM4, hM5, hM6, hM7, hM8, hM9, hM10, hM11, hM12, hM13, hM14, hM15, hM16, by omega, by omega⟩⟩, hn, fr⟩
      · skip
        refine xa_iconst (pc := 18) dX10_partItem_18 ?_
        refine xa_ireturn (pc := 19) dX10_partItem_19 rfl (Or.inl rfl) ?_
        exact ⟨Or.inr ⟨Or.inr ⟨u, hu, by omega⟩, rfl, (xa_upf (xa_upf (xa_upf (F 13) 0 u.1) 1 u.2.1) 2 u.2.2.1), (F 3), ((u.2.2.2 + 1 : Nat) : Int), hl3, fun i hi => rfl, ⟨hM0, hM1, hM2, hM3, hM4, hM5, hM6, hM7, hM8, hM9, hM10, hM11, hM12, hM13, hM14, hM15, hM16, by omega, by omega⟩⟩, hn, fr⟩
  · skip
    obtain ⟨hM0, hM1, hM2, hM3, hM4, hM5, hM6, hM7, hM8, hM9, hM10, hM11, hM12, hM13, hM14, hM15, hM16, hMk, hMn⟩ := hM
    have hM0 : h'.1 k = xa_o 10 [xa_i (s 0), xa_r (k + 1), xa_r (k + 2), xa_r (k + 3), xa_r (k + 4), xa_r (k + 5), xa_r (k + 6), xa_r (k + 7), xa_r (k + 8), xa_r (k + 9), xa_r (k + 10), xa_r (k + 11), xa_r (k + 12), xa_i (s 13), xa_i (s 14), xa_i x, xa_r (k + 13), xa_i (s 17), xa_i (s 18), xa_i (s 19), xa_i (s 20), xa_r (k + 14), xa_r (k + 15), xa_i (s 23), xa_r (k + 16)] := hM0
    have hM1 : h'.1 (k + 1) = xa_a 120 (F 1) := hM1
    have hM2 : h'.1 (k + 2) = xa_a 2 (F 2) := hM2
    have hM3 : h'.1 (k + 3) = xa_a 18 (F 3) := hM3
    have hM4 : h'.1 (k + 4) = xa_a 2 (F 4) := hM4
    have hM5 : h'.1 (k + 5) = xa_a 4 (F 5) := hM5
    have hM6 : h'.1 (k + 6) = xa_a 4 (F 6) := hM6
    have hM7 : h'.1 (k + 7) = xa_a 2 (F 7) := hM7
    have hM8 : h'.1 (k + 8) = xa_a 2 (F 8) := hM8
    have hM9 : h'.1 (k + 9) = xa_a 12 (F 9) := hM9
    have hM10 : h'.1 (k + 10) = xa_a 720 (F 10) := hM10
    have hM11 : h'.1 (k + 11) = xa_a 3 (F 11) := hM11
    have hM12 : h'.1 (k + 12) = xa_a 360 (F 12) := hM12
    have hM13 : h'.1 (k + 13) = xa_a 3 nu := hM13
    have hM14 : h'.1 (k + 14) = xa_a 583200 (F 14) := hM14
    have hM15 : h'.1 (k + 15) = xa_a 583200 (F 15) := hM15
    have hM16 : h'.1 (k + 16) = xa_a 4 (F 16) := hM16
    have hn : h'.2 = h.2 := hqn.trans hn
    have fr : ∀ i, (i < k ∨ k + 17 ≤ i) → h'.1 i = h.1 i := fun i hi => (hqf i (by omega)).trans (fr i hi)
    refine xa_if_eq (pc := 5) (tgt := 18) dX10_partItem_5 (by decide) (by decide) (fun c_5 => ?_) (fun c_5 => ?_)
    · skip
      refine xa_iconst (pc := 18) dX10_partItem_18 ?_
      refine xa_ireturn (pc := 19) dX10_partItem_19 rfl (Or.inl rfl) ?_
      exact ⟨Or.inr ⟨Or.inl hu, rfl, nu, (F 3), x, hl3, fun i hi => rfl, ⟨hM0, hM1, hM2, hM3, hM4, hM5, hM6, hM7, hM8, hM9, hM10, hM11, hM12, hM13, hM14, hM15, hM16, by omega, by omega⟩⟩, hn, fr⟩
    · skip
      exfalso; omega
theorem c_jointItem0 {G : xa_G} {h : xa_H} (k n p : Nat) (F : Nat → Nat → Int) (s : Nat → Int) (hs0 : s 0 = (n : Int)) (hn9 : n ≤ 120) (hf : ∀ i, 0 ≤ F 1 i ∧ F 1 i ≤ 255) (hp : s 15 = ((p : Nat) : Int)) (hp9 : p ≤ 200) (i5 : ∀ i, 0 ≤ F 5 i ∧ F 5 i ≤ 120) (i6 : ∀ i, 0 ≤ F 6 i ∧ F 6 i ≤ 1) (i4 : ∀ i, 0 ≤ F 4 i ∧ F 4 i ≤ 2) (hM : xM h k F s)  : xa_M G mX10_jointItem [xa_r k, xa_i 0] h 0 0 (fun r h' => ((∃ u, fg1 n (F 1) p = some u ∧ (F 4 1 ≠ 2 ∧ (1 ≤ u.1 ∧ u.1 ≤ 120) ∧ u.1 ≤ 90) ∧ r = some (xa_i 1) ∧ xM h' k (xa_uF (xa_uF (xa_uF (xa_uF F 13 (xa_upf (F 13) 0 u.1)) 5 (xa_upf (F 5) (2 + F 4 1).toNat u.1)) 6 (xa_upf (F 6) (2 + F 4 1).toNat 0)) 4 (xa_upf (F 4) 1 (F 4 1 + 1))) (xa_upf s 15 ((u.2 + 1 : Nat) : Int))) ∨ ((fg1 n (F 1) p = none ∨ ∃ u, fg1 n (F 1) p = some u ∧ ¬ (F 4 1 ≠ 2 ∧ (1 ≤ u.1 ∧ u.1 ≤ 120) ∧ u.1 ≤ 90)) ∧ r = some (xa_i 0) ∧ ∃ (nu d5 w6 j4 : Nat → Int) (x : Int), ((∀ i, 0 ≤ d5 i ∧ d5 i ≤ 120) ∧ (∀ i, 0 ≤ w6 i ∧ w6 i ≤ 1) ∧ (∀ i, 0 ≤ j4 i ∧ j4 i ≤ 2)) ∧ ((∀ i, i < 2 → d5 i = F 5 i) ∧ (∀ i, i < 2 → w6 i = F 6 i) ∧ j4 0 = F 4 0) ∧ xM h' k (xa_uF (xa_uF (xa_uF (xa_uF F 13 nu) 5 d5) 6 w6) 4 j4) (xa_upf s 15 x))) ∧ h'.2 = h.2 ∧ ∀ i, (i < k ∨ k + 17 ≤ i) → h'.1 i = h.1 i) := by
  refine xa_enter (by decide +kernel) (Nat.le_of_ble_eq_true rfl) ?_
  refine xa_locals (ls' := [some (xa_r k), some (xa_i 0), none, none, none]) rfl ?_
  have hn : h.2 = h.2 := rfl
  have fr : ∀ i, (i < k ∨ k + 17 ≤ i) → h.1 i = h.1 i := fun _ _ => rfl
  obtain ⟨hM0, hM1, hM2, hM3, hM4, hM5, hM6, hM7, hM8, hM9, hM10, hM11, hM12, hM13, hM14, hM15, hM16, hMk, hMn⟩ := hM
  rw [hp] at hM0
  refine xa_aload_n (pc := 0) dX10_jointItem_0 rfl ?_
  refine xa_iconst (pc := 1) dX10_jointItem_1 ?_
  refine xa_callV (pc := 2) (as := [xa_i 1]) (rest := []) dX10_jointItem_2 ⟨qX10_figures.1, qX10_figures.2.1, qX10_figures.2.2, by decide, by decide⟩ lkRX10_87 imX10_figures seX10_figures rfl rfl (by omega) (by omega) hM0 rfl (Nat.le_of_ble_eq_true rfl) (Nat.zero_le _) (Nat.zero_le _) (c_figures1 _ n p F (xa_upf s 15 ((p : Nat) : Int)) hs0 hn9 hf rfl hp9 ⟨hM0, hM1, hM2, hM3, hM4, hM5, hM6, hM7, hM8, hM9, hM10, hM11, hM12, hM13, hM14, hM15, hM16, by omega, by omega⟩) (fun r h' hq => ?_)
  rcases hq with ⟨u, hu, rfl, hM, hqn, hqf⟩ | ⟨hu, rfl, nu, x, hM, hqn, hqf⟩
  · skip
    obtain ⟨hM0, hM1, hM2, hM3, hM4, hM5, hM6, hM7, hM8, hM9, hM10, hM11, hM12, hM13, hM14, hM15, hM16, hMk, hMn⟩ := hM
    have hM0 : h'.1 k = xa_o 10 [xa_i (s 0), xa_r (k + 1), xa_r (k + 2), xa_r (k + 3), xa_r (k + 4), xa_r (k + 5), xa_r (k + 6), xa_r (k + 7), xa_r (k + 8), xa_r (k + 9), xa_r (k + 10), xa_r (k + 11), xa_r (k + 12), xa_i (s 13), xa_i (s 14), xa_i ((u.2 + 1 : Nat) : Int), xa_r (k + 13), xa_i (s 17), xa_i (s 18), xa_i (s 19), xa_i (s 20), xa_r (k + 14), xa_r (k + 15), xa_i (s 23), xa_r (k + 16)] := hM0
    have hM1 : h'.1 (k + 1) = xa_a 120 (F 1) := hM1
    have hM2 : h'.1 (k + 2) = xa_a 2 (F 2) := hM2
    have hM3 : h'.1 (k + 3) = xa_a 18 (F 3) := hM3
    have hM4 : h'.1 (k + 4) = xa_a 2 (F 4) := hM4
    have hM5 : h'.1 (k + 5) = xa_a 4 (F 5) := hM5
    have hM6 : h'.1 (k + 6) = xa_a 4 (F 6) := hM6
    have hM7 : h'.1 (k + 7) = xa_a 2 (F 7) := hM7
    have hM8 : h'.1 (k + 8) = xa_a 2 (F 8) := hM8
    have hM9 : h'.1 (k + 9) = xa_a 12 (F 9) := hM9
    have hM10 : h'.1 (k + 10) = xa_a 720 (F 10) := hM10
    have hM11 : h'.1 (k + 11) = xa_a 3 (F 11) := hM11
    have hM12 : h'.1 (k + 12) = xa_a 360 (F 12) := hM12
    have hM13 : h'.1 (k + 13) = xa_a 3 (xa_upf (F 13) 0 u.1) := hM13
    have hM14 : h'.1 (k + 14) = xa_a 583200 (F 14) := hM14
    have hM15 : h'.1 (k + 15) = xa_a 583200 (F 15) := hM15
    have hM16 : h'.1 (k + 16) = xa_a 4 (F 16) := hM16
    have hn : h'.2 = h.2 := hqn.trans hn
    have fr : ∀ i, (i < k ∨ k + 17 ≤ i) → h'.1 i = h.1 i := fun i hi => (hqf i (by omega)).trans (fr i hi)
    have hub := fg1_b hu
    refine xa_if_eq (pc := 5) (tgt := 35) dX10_jointItem_5 (by decide) (by decide) (fun c_5 => ?_) (fun c_5 => ?_)
    · skip
      exfalso; omega
    · skip
      refine xa_aload_n (pc := 8) dX10_jointItem_8 rfl ?_
      refine xa_getfield (pc := 9) dX10_jointItem_9 flRX10_19 (by omega) (by omega) hM0 rfl ?_
      refine xa_iconst (pc := 12) dX10_jointItem_12 ?_
      refine xa_ialdw (pc := 13) 1 dX10_jointItem_13 (by omega) hM4 (by omega) (by omega) rfl ?_
      have b4_13 := i4 (1)
      refine xa_iconst (pc := 14) dX10_jointItem_14 ?_
      refine xa_icmp_eq (pc := 15) (tgt := 35) dX10_jointItem_15 (by decide) ⟨by omega, by omega⟩ (by decide) (fun c_15 => ?_) (fun c_15 => ?_)
      · skip
        refine xa_iconst (pc := 35) dX10_jointItem_35 ?_
        refine xa_ireturn (pc := 36) dX10_jointItem_36 rfl (Or.inl rfl) ?_
        exact ⟨Or.inr ⟨Or.inr ⟨u, hu, by omega⟩, rfl, (xa_upf (F 13) 0 u.1), (F 5), (F 6), (F 4), ((u.2 + 1 : Nat) : Int), ⟨i5, i6, i4⟩, ⟨fun _ _ => rfl, fun _ _ => rfl, rfl⟩, ⟨hM0, hM1, hM2, hM3, hM4, hM5, hM6, hM7, hM8, hM9, hM10, hM11, hM12, hM13, hM14, hM15, hM16, by omega, by omega⟩⟩, hn, fr⟩
      · skip
        refine xa_aload_n (pc := 18) dX10_jointItem_18 rfl ?_
        refine xa_getfield (pc := 19) dX10_jointItem_19 flRX10_46 (by omega) (by omega) hM0 rfl ?_
        refine xa_iconst (pc := 22) dX10_jointItem_22 ?_
        refine xa_ialdw (pc := 23) 0 dX10_jointItem_23 (by omega) hM13 (by omega) (by omega) rfl ?_
        refine xa_top (y := u.1) rfl ?_
        refine xa_i2l (pc := 24) dX10_jointItem_24 ⟨by omega, by omega⟩ ?_
        refine xa_lconst (pc := 25) (n := 1) dX10_jointItem_25 rfl ?_
        refine xa_ldc2 (pc := 26) (n := 120) dX10_jointItem_26 ctRX10_93 rfl ?_
        refine xa_callS (pc := 29) (as := [xa_l u.1, xa_l 1, xa_l 120]) (rest := []) dX10_jointItem_29 ⟨qX10_in.1, qX10_in.2.1, qX10_in.2.2, by decide, by decide⟩ lkRX10_65 smX10_in rfl rfl (Nat.le_of_ble_eq_true rfl) (Nat.zero_le _) (Nat.zero_le _) (c_in _ _ _ ⟨by omega, by omega⟩ ⟨by omega, by omega⟩ ⟨by omega, by omega⟩) (fun r h' hq => ?_)
        obtain ⟨rfl, hq⟩ := hq
        have hq := hq.symm
        subst hq
        refine xa_if_ne (pc := 32) (tgt := 37) dX10_jointItem_32 (by decide) xa_okb (fun c_32 => ?_) (fun c_32 => ?_)
        · have c_32 := xa_b1.mp c_32
          refine xa_aload_n (pc := 37) dX10_jointItem_37 rfl ?_
          refine xa_getfield (pc := 38) dX10_jointItem_38 flRX10_46 (by omega) (by omega) hM0 rfl ?_
          refine xa_iconst (pc := 41) dX10_jointItem_41 ?_
          refine xa_ialdw (pc := 42) 0 dX10_jointItem_42 (by omega) hM13 (by omega) (by omega) rfl ?_
          refine xa_top (y := u.1) rfl ?_
          refine xa_istoren (pc := 43) [some (xa_r k), some (xa_i 0), some (xa_i u.1), none, none] dX10_jointItem_43 (by decide) (Nat.le_of_ble_eq_true rfl) rfl rfl ?_
          refine xa_iload_n (pc := 44) dX10_jointItem_44 rfl ?_
          refine xa_bipush (pc := 45) dX10_jointItem_45 rfl ?_
          refine xa_icmp_gt (pc := 47) (tgt := 54) dX10_jointItem_47 (by decide) ⟨by omega, by omega⟩ (by decide) (fun c_47 => ?_) (fun c_47 => ?_)
          · skip
            refine xa_iconst (pc := 54) dX10_jointItem_54 ?_
            refine xa_istoren (pc := 55) [some (xa_r k), some (xa_i 0), some (xa_i u.1), some (xa_i 0), none] dX10_jointItem_55 (by decide) (Nat.le_of_ble_eq_true rfl) rfl rfl ?_
            refine xa_iload_n (pc := 56) dX10_jointItem_56 rfl ?_
            refine xa_if_eq (pc := 57) (tgt := 144) dX10_jointItem_57 (by decide) (by decide) (fun c_57 => ?_) (fun c_57 => ?_)
            · skip
              refine xa_aload_n (pc := 144) dX10_jointItem_144 rfl ?_
              refine xa_getfield (pc := 145) dX10_jointItem_145 flRX10_22 (by omega) (by omega) hM0 rfl ?_
              refine xa_iconst (pc := 148) dX10_jointItem_148 ?_
              refine xa_aload_n (pc := 149) dX10_jointItem_149 rfl ?_
              refine xa_getfield (pc := 150) dX10_jointItem_150 flRX10_19 (by omega) (by omega) hM0 rfl ?_
              refine xa_iconst (pc := 153) dX10_jointItem_153 ?_
              refine xa_ialdw (pc := 154) 1 dX10_jointItem_154 (by omega) hM4 (by omega) (by omega) rfl ?_
              have b4_154 := i4 (1)
              refine xa_iadd (pc := 155) dX10_jointItem_155 ?_
              refine xa_iload_n (pc := 156) dX10_jointItem_156 rfl ?_
              refine xa_iastw (pc := 157) ((2 + ((F 4) 1)).toNat) dX10_jointItem_157 (by omega) (by omega) hM5 (by omega) (by omega) rfl (fun h1 nh1 ch1 oh1 => ?_)
              have hM5 : h1.1 (k + 5) = xa_a 4 (xa_upf (F 5) ((2 + ((F 4) 1)).toNat) u.1) := ch1
              have hM0 : h1.1 k = xa_o 10 [xa_i (s 0), xa_r (k + 1), xa_r (k + 2), xa_r (k + 3), xa_r (k + 4), xa_r (k + 5), xa_r (k + 6), xa_r (k + 7), xa_r (k + 8), xa_r (k + 9), xa_r (k + 10), xa_r (k + 11), xa_r (k + 12), xa_i (s 13), xa_i (s 14), xa_i ((u.2 + 1 : Nat) : Int), xa_r (k + 13), xa_i (s 17), xa_i (s 18), xa_i (s 19), xa_i (s 20), xa_r (k + 14), xa_r (k + 15), xa_i (s 23), xa_r (k + 16)] := (oh1 _ (by omega)).trans hM0
              have hM1 : h1.1 (k + 1) = xa_a 120 (F 1) := (oh1 _ (by omega)).trans hM1
              have hM2 : h1.1 (k + 2) = xa_a 2 (F 2) := (oh1 _ (by omega)).trans hM2
              have hM3 : h1.1 (k + 3) = xa_a 18 (F 3) := (oh1 _ (by omega)).trans hM3
              have hM4 : h1.1 (k + 4) = xa_a 2 (F 4) := (oh1 _ (by omega)).trans hM4
              have hM6 : h1.1 (k + 6) = xa_a 4 (F 6) := (oh1 _ (by omega)).trans hM6
              have hM7 : h1.1 (k + 7) = xa_a 2 (F 7) := (oh1 _ (by omega)).trans hM7
              have hM8 : h1.1 (k + 8) = xa_a 2 (F 8) := (oh1 _ (by omega)).trans hM8
              have hM9 : h1.1 (k + 9) = xa_a 12 (F 9) := (oh1 _ (by omega)).trans hM9
              have hM10 : h1.1 (k + 10) = xa_a 720 (F 10) := (oh1 _ (by omega)).trans hM10
              have hM11 : h1.1 (k + 11) = xa_a 3 (F 11) := (oh1 _ (by omega)).trans hM11
              have hM12 : h1.1 (k + 12) = xa_a 360 (F 12) := (oh1 _ (by omega)).trans hM12
              have hM13 : h1.1 (k + 13) = xa_a 3 (xa_upf (F 13) 0 u.1) := (oh1 _ (by omega)).trans hM13
              have hM14 : h1.1 (k + 14) = xa_a 583200 (F 14) := (oh1 _ (by omega)).trans hM14
              have hM15 : h1.1 (k + 15) = xa_a 583200 (F 15) := (oh1 _ (by omega)).trans hM15
              have hM16 : h1.1 (k + 16) = xa_a 4 (F 16) := (oh1 _ (by omega)).trans hM16
              have hn : h1.2 = h.2 := nh1.trans hn
              have fr : ∀ i, (i < k ∨ k + 17 ≤ i) → h1.1 i = h.1 i := fun i hi => (oh1 i (by omega)).trans (fr i hi)
              refine xa_aload_n (pc := 158) dX10_jointItem_158 rfl ?_
              refine xa_getfield (pc := 159) dX10_jointItem_159 flRX10_25 (by omega) (by omega) hM0 rfl ?_
              refine xa_iconst (pc := 162) dX10_jointItem_162 ?_
              refine xa_aload_n (pc := 163) dX10_jointItem_163 rfl ?_
              refine xa_getfield (pc := 164) dX10_jointItem_164 flRX10_19 (by omega) (by omega) hM0 rfl ?_
              refine xa_iconst (pc := 167) dX10_jointItem_167 ?_
              refine xa_ialdw (pc := 168) 1 dX10_jointItem_168 (by omega) hM4 (by omega) (by omega) rfl ?_
              have b4_168 := i4 (1)
              refine xa_iadd (pc := 169) dX10_jointItem_169 ?_
              refine xa_iload_n (pc := 170) dX10_jointItem_170 rfl ?_
              refine xa_if_eq (pc := 171) (tgt := 178) dX10_jointItem_171 (by decide) (by decide) (fun c_171 => ?_) (fun c_171 => ?_)
              · skip
                refine xa_iconst (pc := 178) dX10_jointItem_178 ?_
                refine xa_iastw (pc := 179) ((2 + ((F 4) 1)).toNat) dX10_jointItem_179 (by omega) (by omega) hM6 (by omega) (by omega) rfl (fun h2 nh2 ch2 oh2 => ?_)
                have hM6 : h2.1 (k + 6) = xa_a 4 (xa_upf (F 6) ((2 + ((F 4) 1)).toNat) 0) := ch2
                have hM0 : h2.1 k = xa_o 10 [xa_i (s 0), xa_r (k + 1), xa_r (k + 2), xa_r (k + 3), xa_r (k + 4), xa_r (k + 5), xa_r (k + 6), xa_r (k + 7), xa_r (k + 8), xa_r (k + 9), xa_r (k + 10), xa_r (k + 11), xa_r (k + 12), xa_i (s 13), xa_i (s 14), xa_i ((u.2 + 1 : Nat) : Int), xa_r (k + 13), xa_i (s 17), xa_i (s 18), xa_i (s 19), xa_i (s 20), xa_r (k + 14), xa_r (k + 15), xa_i (s 23), xa_r (k + 16)] := (oh2 _ (by omega)).trans hM0
                have hM1 : h2.1 (k + 1) = xa_a 120 (F 1) := (oh2 _ (by omega)).trans hM1
                have hM2 : h2.1 (k + 2) = xa_a 2 (F 2) := (oh2 _ (by omega)).trans hM2
                have hM3 : h2.1 (k + 3) = xa_a 18 (F 3) := (oh2 _ (by omega)).trans hM3
                have hM4 : h2.1 (k + 4) = xa_a 2 (F 4) := (oh2 _ (by omega)).trans hM4
                have hM5 : h2.1 (k + 5) = xa_a 4 (xa_upf (F 5) ((2 + ((F 4) 1)).toNat) u.1) := (oh2 _ (by omega)).trans hM5
                have hM7 : h2.1 (k + 7) = xa_a 2 (F 7) := (oh2 _ (by omega)).trans hM7
                have hM8 : h2.1 (k + 8) = xa_a 2 (F 8) := (oh2 _ (by omega)).trans hM8
                have hM9 : h2.1 (k + 9) = xa_a 12 (F 9) := (oh2 _ (by omega)).trans hM9
                have hM10 : h2.1 (k + 10) = xa_a 720 (F 10) := (oh2 _ (by omega)).trans hM10
                have hM11 : h2.1 (k + 11) = xa_a 3 (F 11) := (oh2 _ (by omega)).trans hM11
                have hM12 : h2.1 (k + 12) = xa_a 360 (F 12) := (oh2 _ (by omega)).trans hM12
                have hM13 : h2.1 (k + 13) = xa_a 3 (xa_upf (F 13) 0 u.1) := (oh2 _ (by omega)).trans hM13
                have hM14 : h2.1 (k + 14) = xa_a 583200 (F 14) := (oh2 _ (by omega)).trans hM14
                have hM15 : h2.1 (k + 15) = xa_a 583200 (F 15) := (oh2 _ (by omega)).trans hM15
                have hM16 : h2.1 (k + 16) = xa_a 4 (F 16) := (oh2 _ (by omega)).trans hM16
                have hn : h2.2 = h.2 := nh2.trans hn
                have fr : ∀ i, (i < k ∨ k + 17 ≤ i) → h2.1 i = h.1 i := fun i hi => (oh2 i (by omega)).trans (fr i hi)
                refine xa_aload_n (pc := 180) dX10_jointItem_180 rfl ?_
                refine xa_getfield (pc := 181) dX10_jointItem_181 flRX10_19 (by omega) (by omega) hM0 rfl ?_
                refine xa_iconst (pc := 184) dX10_jointItem_184 ?_
                refine xa_dup2 (pc := 185) dX10_jointItem_185 rfl rfl ?_
                refine xa_ialdw (pc := 186) 1 dX10_jointItem_186 (by omega) hM4 (by omega) (by omega) rfl ?_
                have b4_186 := i4 (1)
                refine xa_iconst (pc := 187) dX10_jointItem_187 ?_
                refine xa_iadd (pc := 188) dX10_jointItem_188 ?_
                refine xa_iastw (pc := 189) 1 dX10_jointItem_189 (by omega) (by omega) hM4 (by omega) (by omega) rfl (fun h3 nh3 ch3 oh3 => ?_)
                have hM4 : h3.1 (k + 4) = xa_a 2 (xa_upf (F 4) 1 (((F 4) 1) + 1)) := ch3
                have hM0 : h3.1 k = xa_o 10 [xa_i (s 0), xa_r (k + 1), xa_r (k + 2), xa_r (k + 3), xa_r (k + 4), xa_r (k + 5), xa_r (k + 6), xa_r (k + 7), xa_r (k + 8), xa_r (k + 9), xa_r (k + 10), xa_r (k + 11), xa_r (k + 12), xa_i (s 13), xa_i (s 14), xa_i ((u.2 + 1 : Nat) : Int), xa_r (k + 13), xa_i (s 17), xa_i (s 18), xa_i (s 19), xa_i (s 20), xa_r (k + 14), xa_r (k + 15), xa_i (s 23), xa_r (k + 16)] := (oh3 _ (by omega)).trans hM0
                have hM1 : h3.1 (k + 1) = xa_a 120 (F 1) := (oh3 _ (by omega)).trans hM1
                have hM2 : h3.1 (k + 2) = xa_a 2 (F 2) := (oh3 _ (by omega)).trans hM2
                have hM3 : h3.1 (k + 3) = xa_a 18 (F 3) := (oh3 _ (by omega)).trans hM3
                have hM5 : h3.1 (k + 5) = xa_a 4 (xa_upf (F 5) ((2 + ((F 4) 1)).toNat) u.1) := (oh3 _ (by omega)).trans hM5
                have hM6 : h3.1 (k + 6) = xa_a 4 (xa_upf (F 6) ((2 + ((F 4) 1)).toNat) 0) := (oh3 _ (by omega)).trans hM6
                have hM7 : h3.1 (k + 7) = xa_a 2 (F 7) := (oh3 _ (by omega)).trans hM7
                have hM8 : h3.1 (k + 8) = xa_a 2 (F 8) := (oh3 _ (by omega)).trans hM8
                have hM9 : h3.1 (k + 9) = xa_a 12 (F 9) := (oh3 _ (by omega)).trans hM9
                have hM10 : h3.1 (k + 10) = xa_a 720 (F 10) := (oh3 _ (by omega)).trans hM10
                have hM11 : h3.1 (k + 11) = xa_a 3 (F 11) := (oh3 _ (by omega)).trans hM11
                have hM12 : h3.1 (k + 12) = xa_a 360 (F 12) := (oh3 _ (by omega)).trans hM12
                have hM13 : h3.1 (k + 13) = xa_a 3 (xa_upf (F 13) 0 u.1) := (oh3 _ (by omega)).trans hM13
                have hM14 : h3.1 (k + 14) = xa_a 583200 (F 14) := (oh3 _ (by omega)).trans hM14
                have hM15 : h3.1 (k + 15) = xa_a 583200 (F 15) := (oh3 _ (by omega)).trans hM15
                have hM16 : h3.1 (k + 16) = xa_a 4 (F 16) := (oh3 _ (by omega)).trans hM16
                have hn : h3.2 = h.2 := nh3.trans hn
                have fr : ∀ i, (i < k ∨ k + 17 ≤ i) → h3.1 i = h.1 i := fun i hi => (oh3 i (by omega)).trans (fr i hi)
                refine xa_iload_n (pc := 190) dX10_jointItem_190 rfl ?_
                refine xa_ireturn (pc := 191) dX10_jointItem_191 rfl (Or.inl rfl) ?_
                exact ⟨Or.inr ⟨Or.inr ⟨u, hu, by omega⟩, rfl, (xa_upf (F 13) 0 u.1), (xa_upf (F 5) ((2 + ((F 4) 1)).toNat) u.1), (xa_upf (F 6) ((2 + ((F 4) 1)).toNat) 0), (xa_upf (F 4) 1 (((F 4) 1) + 1)), ((u.2 + 1 : Nat) : Int), ⟨xa_upf_b i5 (by omega), xa_upf_b i6 (by omega), xa_upf_b i4 (by have := i4 1; omega)⟩, ⟨fun i hi => xa_upf_ne _ _ (by have := i4 1; omega), fun i hi => xa_upf_ne _ _ (by have := i4 1; omega), rfl⟩, ⟨hM0, hM1, hM2, hM3, hM4, hM5, hM6, hM7, hM8, hM9, hM10, hM11, hM12, hM13, hM14, hM15, hM16, by omega, by omega⟩⟩, hn, fr⟩
              · skip
                exfalso; omega
            · skip
              exfalso; omega
          · skip
            refine xa_iconst (pc := 50) dX10_jointItem_50 ?_
            refine xa_goto (pc := 51) (tgt := 55) dX10_jointItem_51 (by decide) ?_
            refine xa_istoren (pc := 55) [some (xa_r k), some (xa_i 0), some (xa_i u.1), some (xa_i 1), none] dX10_jointItem_55 (by decide) (Nat.le_of_ble_eq_true rfl) rfl rfl ?_
            refine xa_iload_n (pc := 56) dX10_jointItem_56 rfl ?_
            refine xa_if_eq (pc := 57) (tgt := 144) dX10_jointItem_57 (by decide) (by decide) (fun c_57 => ?_) (fun c_57 => ?_)
            · skip
              refine xa_aload_n (pc := 144) dX10_jointItem_144 rfl ?_
              refine xa_getfield (pc := 145) dX10_jointItem_145 flRX10_22 (by omega) (by omega) hM0 rfl ?_
              refine xa_iconst (pc := 148) dX10_jointItem_148 ?_
              refine xa_aload_n (pc := 149) dX10_jointItem_149 rfl ?_
              refine xa_getfield (pc := 150) dX10_jointItem_150 flRX10_19 (by omega) (by omega) hM0 rfl ?_
              refine xa_iconst (pc := 153) dX10_jointItem_153 ?_
              refine xa_ialdw (pc := 154) 1 dX10_jointItem_154 (by omega) hM4 (by omega) (by omega) rfl ?_
              have b4_154 := i4 (1)
              refine xa_iadd (pc := 155) dX10_jointItem_155 ?_
              refine xa_iload_n (pc := 156) dX10_jointItem_156 rfl ?_
              refine xa_iastw (pc := 157) ((2 + ((F 4) 1)).toNat) dX10_jointItem_157 (by omega) (by omega) hM5 (by omega) (by omega) rfl (fun h4 nh4 ch4 oh4 => ?_)
              have hM5 : h4.1 (k + 5) = xa_a 4 (xa_upf (F 5) ((2 + ((F 4) 1)).toNat) u.1) := ch4
              have hM0 : h4.1 k = xa_o 10 [xa_i (s 0), xa_r (k + 1), xa_r (k + 2), xa_r (k + 3), xa_r (k + 4), xa_r (k + 5), xa_r (k + 6), xa_r (k + 7), xa_r (k + 8), xa_r (k + 9), xa_r (k + 10), xa_r (k + 11), xa_r (k + 12), xa_i (s 13), xa_i (s 14), xa_i ((u.2 + 1 : Nat) : Int), xa_r (k + 13), xa_i (s 17), xa_i (s 18), xa_i (s 19), xa_i (s 20), xa_r (k + 14), xa_r (k + 15), xa_i (s 23), xa_r (k + 16)] := (oh4 _ (by omega)).trans hM0
              have hM1 : h4.1 (k + 1) = xa_a 120 (F 1) := (oh4 _ (by omega)).trans hM1
              have hM2 : h4.1 (k + 2) = xa_a 2 (F 2) := (oh4 _ (by omega)).trans hM2
              have hM3 : h4.1 (k + 3) = xa_a 18 (F 3) := (oh4 _ (by omega)).trans hM3
              have hM4 : h4.1 (k + 4) = xa_a 2 (F 4) := (oh4 _ (by omega)).trans hM4
              have hM6 : h4.1 (k + 6) = xa_a 4 (F 6) := (oh4 _ (by omega)).trans hM6
              have hM7 : h4.1 (k + 7) = xa_a 2 (F 7) := (oh4 _ (by omega)).trans hM7
              have hM8 : h4.1 (k + 8) = xa_a 2 (F 8) := (oh4 _ (by omega)).trans hM8
              have hM9 : h4.1 (k + 9) = xa_a 12 (F 9) := (oh4 _ (by omega)).trans hM9
              have hM10 : h4.1 (k + 10) = xa_a 720 (F 10) := (oh4 _ (by omega)).trans hM10
              have hM11 : h4.1 (k + 11) = xa_a 3 (F 11) := (oh4 _ (by omega)).trans hM11
              have hM12 : h4.1 (k + 12) = xa_a 360 (F 12) := (oh4 _ (by omega)).trans hM12
              have hM13 : h4.1 (k + 13) = xa_a 3 (xa_upf (F 13) 0 u.1) := (oh4 _ (by omega)).trans hM13
              have hM14 : h4.1 (k + 14) = xa_a 583200 (F 14) := (oh4 _ (by omega)).trans hM14
              have hM15 : h4.1 (k + 15) = xa_a 583200 (F 15) := (oh4 _ (by omega)).trans hM15
              have hM16 : h4.1 (k + 16) = xa_a 4 (F 16) := (oh4 _ (by omega)).trans hM16
              have hn : h4.2 = h.2 := nh4.trans hn
              have fr : ∀ i, (i < k ∨ k + 17 ≤ i) → h4.1 i = h.1 i := fun i hi => (oh4 i (by omega)).trans (fr i hi)
              refine xa_aload_n (pc := 158) dX10_jointItem_158 rfl ?_
              refine xa_getfield (pc := 159) dX10_jointItem_159 flRX10_25 (by omega) (by omega) hM0 rfl ?_
              refine xa_iconst (pc := 162) dX10_jointItem_162 ?_
              refine xa_aload_n (pc := 163) dX10_jointItem_163 rfl ?_
              refine xa_getfield (pc := 164) dX10_jointItem_164 flRX10_19 (by omega) (by omega) hM0 rfl ?_
              refine xa_iconst (pc := 167) dX10_jointItem_167 ?_
              refine xa_ialdw (pc := 168) 1 dX10_jointItem_168 (by omega) hM4 (by omega) (by omega) rfl ?_
              have b4_168 := i4 (1)
              refine xa_iadd (pc := 169) dX10_jointItem_169 ?_
              refine xa_iload_n (pc := 170) dX10_jointItem_170 rfl ?_
              refine xa_if_eq (pc := 171) (tgt := 178) dX10_jointItem_171 (by decide) (by decide) (fun c_171 => ?_) (fun c_171 => ?_)
              · skip
                refine xa_iconst (pc := 178) dX10_jointItem_178 ?_
                refine xa_iastw (pc := 179) ((2 + ((F 4) 1)).toNat) dX10_jointItem_179 (by omega) (by omega) hM6 (by omega) (by omega) rfl (fun h5 nh5 ch5 oh5 => ?_)
                have hM6 : h5.1 (k + 6) = xa_a 4 (xa_upf (F 6) ((2 + ((F 4) 1)).toNat) 0) := ch5
                have hM0 : h5.1 k = xa_o 10 [xa_i (s 0), xa_r (k + 1), xa_r (k + 2), xa_r (k + 3), xa_r (k + 4), xa_r (k + 5), xa_r (k + 6), xa_r (k + 7), xa_r (k + 8), xa_r (k + 9), xa_r (k + 10), xa_r (k + 11), xa_r (k + 12), xa_i (s 13), xa_i (s 14), xa_i ((u.2 + 1 : Nat) : Int), xa_r (k + 13), xa_i (s 17), xa_i (s 18), xa_i (s 19), xa_i (s 20), xa_r (k + 14), xa_r (k + 15), xa_i (s 23), xa_r (k + 16)] := (oh5 _ (by omega)).trans hM0
                have hM1 : h5.1 (k + 1) = xa_a 120 (F 1) := (oh5 _ (by omega)).trans hM1
                have hM2 : h5.1 (k + 2) = xa_a 2 (F 2) := (oh5 _ (by omega)).trans hM2
                have hM3 : h5.1 (k + 3) = xa_a 18 (F 3) := (oh5 _ (by omega)).trans hM3
                have hM4 : h5.1 (k + 4) = xa_a 2 (F 4) := (oh5 _ (by omega)).trans hM4
                have hM5 : h5.1 (k + 5) = xa_a 4 (xa_upf (F 5) ((2 + ((F 4) 1)).toNat) u.1) := (oh5 _ (by omega)).trans hM5
                have hM7 : h5.1 (k + 7) = xa_a 2 (F 7) := (oh5 _ (by omega)).trans hM7
                have hM8 : h5.1 (k + 8) = xa_a 2 (F 8) := (oh5 _ (by omega)).trans hM8
                have hM9 : h5.1 (k + 9) = xa_a 12 (F 9) := (oh5 _ (by omega)).trans hM9
                have hM10 : h5.1 (k + 10) = xa_a 720 (F 10) := (oh5 _ (by omega)).trans hM10
                have hM11 : h5.1 (k + 11) = xa_a 3 (F 11) := (oh5 _ (by omega)).trans hM11
                have hM12 : h5.1 (k + 12) = xa_a 360 (F 12) := (oh5 _ (by omega)).trans hM12
                have hM13 : h5.1 (k + 13) = xa_a 3 (xa_upf (F 13) 0 u.1) := (oh5 _ (by omega)).trans hM13
                have hM14 : h5.1 (k + 14) = xa_a 583200 (F 14) := (oh5 _ (by omega)).trans hM14
                have hM15 : h5.1 (k + 15) = xa_a 583200 (F 15) := (oh5 _ (by omega)).trans hM15
                have hM16 : h5.1 (k + 16) = xa_a 4 (F 16) := (oh5 _ (by omega)).trans hM16
                have hn : h5.2 = h.2 := nh5.trans hn
                have fr : ∀ i, (i < k ∨ k + 17 ≤ i) → h5.1 i = h.1 i := fun i hi => (oh5 i (by omega)).trans (fr i hi)
                refine xa_aload_n (pc := 180) dX10_jointItem_180 rfl ?_
                refine xa_getfield (pc := 181) dX10_jointItem_181 flRX10_19 (by omega) (by omega) hM0 rfl ?_
                refine xa_iconst (pc := 184) dX10_jointItem_184 ?_
                refine xa_dup2 (pc := 185) dX10_jointItem_185 rfl rfl ?_
                refine xa_ialdw (pc := 186) 1 dX10_jointItem_186 (by omega) hM4 (by omega) (by omega) rfl ?_
                have b4_186 := i4 (1)
                refine xa_iconst (pc := 187) dX10_jointItem_187 ?_
                refine xa_iadd (pc := 188) dX10_jointItem_188 ?_
                refine xa_iastw (pc := 189) 1 dX10_jointItem_189 (by omega) (by omega) hM4 (by omega) (by omega) rfl (fun h6 nh6 ch6 oh6 => ?_)
                have hM4 : h6.1 (k + 4) = xa_a 2 (xa_upf (F 4) 1 (((F 4) 1) + 1)) := ch6
                have hM0 : h6.1 k = xa_o 10 [xa_i (s 0), xa_r (k + 1), xa_r (k + 2), xa_r (k + 3), xa_r (k + 4), xa_r (k + 5), xa_r (k + 6), xa_r (k + 7), xa_r (k + 8), xa_r (k + 9), xa_r (k + 10), xa_r (k + 11), xa_r (k + 12), xa_i (s 13), xa_i (s 14), xa_i ((u.2 + 1 : Nat) : Int), xa_r (k + 13), xa_i (s 17), xa_i (s 18), xa_i (s 19), xa_i (s 20), xa_r (k + 14), xa_r (k + 15), xa_i (s 23), xa_r (k + 16)] := (oh6 _ (by omega)).trans hM0
                have hM1 : h6.1 (k + 1) = xa_a 120 (F 1) := (oh6 _ (by omega)).trans hM1
                have hM2 : h6.1 (k + 2) = xa_a 2 (F 2) := (oh6 _ (by omega)).trans hM2
                have hM3 : h6.1 (k + 3) = xa_a 18 (F 3) := (oh6 _ (by omega)).trans hM3
                have hM5 : h6.1 (k + 5) = xa_a 4 (xa_upf (F 5) ((2 + ((F 4) 1)).toNat) u.1) := (oh6 _ (by omega)).trans hM5
                have hM6 : h6.1 (k + 6) = xa_a 4 (xa_upf (F 6) ((2 + ((F 4) 1)).toNat) 0) := (oh6 _ (by omega)).trans hM6
                have hM7 : h6.1 (k + 7) = xa_a 2 (F 7) := (oh6 _ (by omega)).trans hM7
                have hM8 : h6.1 (k + 8) = xa_a 2 (F 8) := (oh6 _ (by omega)).trans hM8
                have hM9 : h6.1 (k + 9) = xa_a 12 (F 9) := (oh6 _ (by omega)).trans hM9
                have hM10 : h6.1 (k + 10) = xa_a 720 (F 10) := (oh6 _ (by omega)).trans hM10
                have hM11 : h6.1 (k + 11) = xa_a 3 (F 11) := (oh6 _ (by omega)).trans hM11
                have hM12 : h6.1 (k + 12) = xa_a 360 (F 12) := (oh6 _ (by omega)).trans hM12
                have hM13 : h6.1 (k + 13) = xa_a 3 (xa_upf (F 13) 0 u.1) := (oh6 _ (by omega)).trans hM13
                have hM14 : h6.1 (k + 14) = xa_a 583200 (F 14) := (oh6 _ (by omega)).trans hM14
                have hM15 : h6.1 (k + 15) = xa_a 583200 (F 15) := (oh6 _ (by omega)).trans hM15
                have hM16 : h6.1 (k + 16) = xa_a 4 (F 16) := (oh6 _ (by omega)).trans hM16
                have hn : h6.2 = h.2 := nh6.trans hn
                have fr : ∀ i, (i < k ∨ k + 17 ≤ i) → h6.1 i = h.1 i := fun i hi => (oh6 i (by omega)).trans (fr i hi)
                refine xa_iload_n (pc := 190) dX10_jointItem_190 rfl ?_
                refine xa_ireturn (pc := 191) dX10_jointItem_191 rfl (Or.inr rfl) ?_
                exact ⟨Or.inl ⟨u, hu, ⟨by omega, by omega, by omega⟩, rfl, ⟨hM0, hM1, hM2, hM3, hM4, hM5, hM6, hM7, hM8, hM9, hM10, hM11, hM12, hM13, hM14, hM15, hM16, by omega, by omega⟩⟩, hn, fr⟩
              · skip
                exfalso; omega
            · skip
              exfalso; omega
        · have c_32 := xa_b0.mp c_32
          refine xa_iconst (pc := 35) dX10_jointItem_35 ?_
          refine xa_ireturn (pc := 36) dX10_jointItem_36 rfl (Or.inl rfl) ?_
          exact ⟨Or.inr ⟨Or.inr ⟨u, hu, by omega⟩, rfl, (xa_upf (F 13) 0 u.1), (F 5), (F 6), (F 4), ((u.2 + 1 : Nat) : Int), ⟨i5, i6, i4⟩, ⟨fun _ _ => rfl, fun _ _ => rfl, rfl⟩, ⟨hM0, hM1, hM2, hM3, hM4, hM5, hM6, hM7, hM8, hM9, hM10, hM11, hM12, hM13, hM14, hM15, hM16, by omega, by omega⟩⟩, hn, fr⟩
  · skip
    obtain ⟨hM0, hM1, hM2, hM3, hM4, hM5, hM6, hM7, hM8, hM9, hM10, hM11, hM12, hM13, hM14, hM15, hM16, hMk, hMn⟩ := hM
    have hM0 : h'.1 k = xa_o 10 [xa_i (s 0), xa_r (k + 1), xa_r (k + 2), xa_r (k + 3), xa_r (k + 4), xa_r (k + 5), xa_r (k + 6), xa_r (k + 7), xa_r (k + 8), xa_r (k + 9), xa_r (k + 10), xa_r (k + 11), xa_r (k + 12), xa_i (s 13), xa_i (s 14), xa_i x, xa_r (k + 13), xa_i (s 17), xa_i (s 18), xa_i (s 19), xa_i (s 20), xa_r (k + 14), xa_r (k + 15), xa_i (s 23), xa_r (k + 16)] := hM0
    have hM1 : h'.1 (k + 1) = xa_a 120 (F 1) := hM1
    have hM2 : h'.1 (k + 2) = xa_a 2 (F 2) := hM2
    have hM3 : h'.1 (k + 3) = xa_a 18 (F 3) := hM3
    have hM4 : h'.1 (k + 4) = xa_a 2 (F 4) := hM4
    have hM5 : h'.1 (k + 5) = xa_a 4 (F 5) := hM5
    have hM6 : h'.1 (k + 6) = xa_a 4 (F 6) := hM6
    have hM7 : h'.1 (k + 7) = xa_a 2 (F 7) := hM7
    have hM8 : h'.1 (k + 8) = xa_a 2 (F 8) := hM8
    have hM9 : h'.1 (k + 9) = xa_a 12 (F 9) := hM9
    have hM10 : h'.1 (k + 10) = xa_a 720 (F 10) := hM10
    have hM11 : h'.1 (k + 11) = xa_a 3 (F 11) := hM11
    have hM12 : h'.1 (k + 12) = xa_a 360 (F 12) := hM12
    have hM13 : h'.1 (k + 13) = xa_a 3 nu := hM13
    have hM14 : h'.1 (k + 14) = xa_a 583200 (F 14) := hM14
    have hM15 : h'.1 (k + 15) = xa_a 583200 (F 15) := hM15
    have hM16 : h'.1 (k + 16) = xa_a 4 (F 16) := hM16
    have hn : h'.2 = h.2 := hqn.trans hn
    have fr : ∀ i, (i < k ∨ k + 17 ≤ i) → h'.1 i = h.1 i := fun i hi => (hqf i (by omega)).trans (fr i hi)
    refine xa_if_eq (pc := 5) (tgt := 35) dX10_jointItem_5 (by decide) (by decide) (fun c_5 => ?_) (fun c_5 => ?_)
    · skip
      refine xa_iconst (pc := 35) dX10_jointItem_35 ?_
      refine xa_ireturn (pc := 36) dX10_jointItem_36 rfl (Or.inl rfl) ?_
      exact ⟨Or.inr ⟨Or.inl hu, rfl, nu, (F 5), (F 6), (F 4), x, ⟨i5, i6, i4⟩, ⟨fun _ _ => rfl, fun _ _ => rfl, rfl⟩, ⟨hM0, hM1, hM2, hM3, hM4, hM5, hM6, hM7, hM8, hM9, hM10, hM11, hM12, hM13, hM14, hM15, hM16, by omega, by omega⟩⟩, hn, fr⟩
    · skip
      exfalso; omega
theorem c_jointTail {G : xa_G} {h0 h : xa_H} {k n p : Nat} {F : Nat → Nat → Int} {s : Nat → Int} {u : Int × Nat} {L mb : Int} (hk : 2 ≤ k) (hkn : k + 16 < h.2) (hu : fg1 n (F 1) p = some u) (i5 : ∀ i, 0 ≤ F 5 i ∧ F 5 i ≤ 120) (i6 : ∀ i, 0 ≤ F 6 i ∧ F 6 i ≤ 1) (i4 : ∀ i, 0 ≤ F 4 i ∧ F 4 i ≤ 2) (i42 : F 4 1 ≠ 2) (hu1 : 1 ≤ u.1 ∧ u.1 ≤ 120) (hL : L = 1 ∧ sp_wagL u.1 ∨ L = 0 ∧ ¬ sp_wagL u.1) (hM0 : h.1 k = xa_o 10 [xa_i (s 0), xa_r (k + 1), xa_r (k + 2), xa_r (k + 3), xa_r (k + 4), xa_r (k + 5), xa_r (k + 6), xa_r (k + 7), xa_r (k + 8), xa_r (k + 9), xa_r (k + 10), xa_r (k + 11), xa_r (k + 12), xa_i (s 13), xa_i (s 14), xa_i ((u.2 + 1 : Nat) : Int), xa_r (k + 13), xa_i (s 17), xa_i (s 18), xa_i (s 19), xa_i (s 20), xa_r (k + 14), xa_r (k + 15), xa_i (s 23), xa_r (k + 16)]) (hM1 : h.1 (k + 1) = xa_a 120 (F 1)) (hM2 : h.1 (k + 2) = xa_a 2 (F 2)) (hM3 : h.1 (k + 3) = xa_a 18 (F 3)) (hM4 : h.1 (k + 4) = xa_a 2 (F 4)) (hM5 : h.1 (k + 5) = xa_a 4 (F 5)) (hM6 : h.1 (k + 6) = xa_a 4 (F 6)) (hM7 : h.1 (k + 7) = xa_a 2 (F 7)) (hM8 : h.1 (k + 8) = xa_a 2 (F 8)) (hM9 : h.1 (k + 9) = xa_a 12 (F 9)) (hM10 : h.1 (k + 10) = xa_a 720 (F 10)) (hM11 : h.1 (k + 11) = xa_a 3 (F 11)) (hM12 : h.1 (k + 12) = xa_a 360 (F 12)) (hM13 : h.1 (k + 13) = xa_a 3 (xa_upf (F 13) 0 u.1)) (hM14 : h.1 (k + 14) = xa_a 583200 (F 14)) (hM15 : h.1 (k + 15) = xa_a 583200 (F 15)) (hM16 : h.1 (k + 16) = xa_a 4 (F 16)) (hn : h.2 = h0.2) (fr : ∀ i, (i < k ∨ k + 17 ≤ i) → h.1 i = h0.1 i)  : xa_W G mX10_jointItem (xa_Z G (fun r h' => ((∃ u, fg1 n (F 1) p = some u ∧ (F 4 1 ≠ 2 ∧ (1 ≤ u.1 ∧ u.1 ≤ 120) ∧ sp_wagL u.1 ∧ (F 4 1 = 0 ∨ F 6 2 = 0)) ∧ r = some (xa_i 1) ∧ xM h' k (xa_uF (xa_uF (xa_uF (xa_uF F 13 (xa_upf (F 13) 0 u.1)) 5 (xa_upf (F 5) (2 + F 4 1).toNat u.1)) 6 (xa_upf (F 6) (2 + F 4 1).toNat 1)) 4 (xa_upf (F 4) 1 (F 4 1 + 1))) (xa_upf s 15 ((u.2 + 1 : Nat) : Int))) ∨ ((fg1 n (F 1) p = none ∨ ∃ u, fg1 n (F 1) p = some u ∧ ¬ (F 4 1 ≠ 2 ∧ (1 ≤ u.1 ∧ u.1 ≤ 120) ∧ sp_wagL u.1 ∧ (F 4 1 = 0 ∨ F 6 2 = 0))) ∧ r = some (xa_i 0) ∧ ∃ (nu d5 w6 j4 : Nat → Int) (x : Int), ((∀ i, 0 ≤ d5 i ∧ d5 i ≤ 120) ∧ (∀ i, 0 ≤ w6 i ∧ w6 i ≤ 1) ∧ (∀ i, 0 ≤ j4 i ∧ j4 i ≤ 2)) ∧ ((∀ i, i < 2 → d5 i = F 5 i) ∧ (∀ i, i < 2 → w6 i = F 6 i) ∧ j4 0 = F 4 0) ∧ xM h' k (xa_uF (xa_uF (xa_uF (xa_uF F 13 nu) 5 d5) 6 w6) 4 j4) (xa_upf s 15 x))) ∧ h'.2 = h0.2 ∧ ∀ i, (i < k ∨ k + 17 ≤ i) → h'.1 i = h0.1 i)) 115 [some (xa_r k), some (xa_i 1), some (xa_i u.1), some (xa_i mb), some (xa_i L)] [] h 0 0 := by
  refine xa_iload (pc := 115) dX10_jointItem_115 rfl ?_
  refine xa_if_eq (pc := 117) (tgt := 142) dX10_jointItem_117 (by decide) ⟨by omega, by omega⟩ (fun c_117 => ?_) (fun c_117 => ?_)
  · skip
    refine xa_iconst (pc := 142) dX10_jointItem_142 ?_
    refine xa_istoren (pc := 143) [some (xa_r k), some (xa_i 1), some (xa_i u.1), some (xa_i 0), some (xa_i L)] dX10_jointItem_143 (by decide) (Nat.le_of_ble_eq_true rfl) rfl rfl ?_
    refine xa_aload_n (pc := 144) dX10_jointItem_144 rfl ?_
    refine xa_getfield (pc := 145) dX10_jointItem_145 flRX10_22 (by omega) (by omega) hM0 rfl ?_
    refine xa_iconst (pc := 148) dX10_jointItem_148 ?_
    refine xa_aload_n (pc := 149) dX10_jointItem_149 rfl ?_
    refine xa_getfield (pc := 150) dX10_jointItem_150 flRX10_19 (by omega) (by omega) hM0 rfl ?_
    refine xa_iconst (pc := 153) dX10_jointItem_153 ?_
    refine xa_ialdw (pc := 154) 1 dX10_jointItem_154 (by omega) hM4 (by omega) (by omega) rfl ?_
    have b4_154 := i4 (1)
    refine xa_iadd (pc := 155) dX10_jointItem_155 ?_
    refine xa_iload_n (pc := 156) dX10_jointItem_156 rfl ?_
    refine xa_iastw (pc := 157) ((2 + ((F 4) 1)).toNat) dX10_jointItem_157 (by omega) (by omega) hM5 (by omega) (by omega) rfl (fun h1 nh1 ch1 oh1 => ?_)
    have hM5 : h1.1 (k + 5) = xa_a 4 (xa_upf (F 5) ((2 + ((F 4) 1)).toNat) u.1) := ch1
    have hM0 : h1.1 k = xa_o 10 [xa_i (s 0), xa_r (k + 1), xa_r (k + 2), xa_r (k + 3), xa_r (k + 4), xa_r (k + 5), xa_r (k + 6), xa_r (k + 7), xa_r (k + 8), xa_r (k + 9), xa_r (k + 10), xa_r (k + 11), xa_r (k + 12), xa_i (s 13), xa_i (s 14), xa_i ((u.2 + 1 : Nat) : Int), xa_r (k + 13), xa_i (s 17), xa_i (s 18), xa_i (s 19), xa_i (s 20), xa_r (k + 14), xa_r (k + 15), xa_i (s 23), xa_r (k + 16)] := (oh1 _ (by omega)).trans hM0
    have hM1 : h1.1 (k + 1) = xa_a 120 (F 1) := (oh1 _ (by omega)).trans hM1
    have hM2 : h1.1 (k + 2) = xa_a 2 (F 2) := (oh1 _ (by omega)).trans hM2
    have hM3 : h1.1 (k + 3) = xa_a 18 (F 3) := (oh1 _ (by omega)).trans hM3
    have hM4 : h1.1 (k + 4) = xa_a 2 (F 4) := (oh1 _ (by omega)).trans hM4
    have hM6 : h1.1 (k + 6) = xa_a 4 (F 6) := (oh1 _ (by omega)).trans hM6
    have hM7 : h1.1 (k + 7) = xa_a 2 (F 7) := (oh1 _ (by omega)).trans hM7
    have hM8 : h1.1 (k + 8) = xa_a 2 (F 8) := (oh1 _ (by omega)).trans hM8
    have hM9 : h1.1 (k + 9) = xa_a 12 (F 9) := (oh1 _ (by omega)).trans hM9
    have hM10 : h1.1 (k + 10) = xa_a 720 (F 10) := (oh1 _ (by omega)).trans hM10
    have hM11 : h1.1 (k + 11) = xa_a 3 (F 11) := (oh1 _ (by omega)).trans hM11
    have hM12 : h1.1 (k + 12) = xa_a 360 (F 12) := (oh1 _ (by omega)).trans hM12
    have hM13 : h1.1 (k + 13) = xa_a 3 (xa_upf (F 13) 0 u.1) := (oh1 _ (by omega)).trans hM13
    have hM14 : h1.1 (k + 14) = xa_a 583200 (F 14) := (oh1 _ (by omega)).trans hM14
    have hM15 : h1.1 (k + 15) = xa_a 583200 (F 15) := (oh1 _ (by omega)).trans hM15
    have hM16 : h1.1 (k + 16) = xa_a 4 (F 16) := (oh1 _ (by omega)).trans hM16
    have hn : h1.2 = h0.2 := nh1.trans hn
    have fr : ∀ i, (i < k ∨ k + 17 ≤ i) → h1.1 i = h0.1 i := fun i hi => (oh1 i (by omega)).trans (fr i hi)
    refine xa_aload_n (pc := 158) dX10_jointItem_158 rfl ?_
    refine xa_getfield (pc := 159) dX10_jointItem_159 flRX10_25 (by omega) (by omega) hM0 rfl ?_
    refine xa_iconst (pc := 162) dX10_jointItem_162 ?_
    refine xa_aload_n (pc := 163) dX10_jointItem_163 rfl ?_
    refine xa_getfield (pc := 164) dX10_jointItem_164 flRX10_19 (by omega) (by omega) hM0 rfl ?_
    refine xa_iconst (pc := 167) dX10_jointItem_167 ?_
    refine xa_ialdw (pc := 168) 1 dX10_jointItem_168 (by omega) hM4 (by omega) (by omega) rfl ?_
    have b4_168 := i4 (1)
    refine xa_iadd (pc := 169) dX10_jointItem_169 ?_
    refine xa_iload_n (pc := 170) dX10_jointItem_170 rfl ?_
    refine xa_if_eq (pc := 171) (tgt := 178) dX10_jointItem_171 (by decide) (by decide) (fun c_171 => ?_) (fun c_171 => ?_)
    · skip
      exfalso; omega
    · skip
      refine xa_iconst (pc := 174) dX10_jointItem_174 ?_
      refine xa_goto (pc := 175) (tgt := 179) dX10_jointItem_175 (by decide) ?_
      refine xa_iastw (pc := 179) ((2 + ((F 4) 1)).toNat) dX10_jointItem_179 (by omega) (by omega) hM6 (by omega) (by omega) rfl (fun h2 nh2 ch2 oh2 => ?_)
      have hM6 : h2.1 (k + 6) = xa_a 4 (xa_upf (F 6) ((2 + ((F 4) 1)).toNat) 1) := ch2
      have hM0 : h2.1 k = xa_o 10 [xa_i (s 0), xa_r (k + 1), xa_r (k + 2), xa_r (k + 3), xa_r (k + 4), xa_r (k + 5), xa_r (k + 6), xa_r (k + 7), xa_r (k + 8), xa_r (k + 9), xa_r (k + 10), xa_r (k + 11), xa_r (k + 12), xa_i (s 13), xa_i (s 14), xa_i ((u.2 + 1 : Nat) : Int), xa_r (k + 13), xa_i (s 17), xa_i (s 18), xa_i (s 19), xa_i (s 20), xa_r (k + 14), xa_r (k + 15), xa_i (s 23), xa_r (k + 16)] := (oh2 _ (by omega)).trans hM0
      have hM1 : h2.1 (k + 1) = xa_a 120 (F 1) := (oh2 _ (by omega)).trans hM1
      have hM2 : h2.1 (k + 2) = xa_a 2 (F 2) := (oh2 _ (by omega)).trans hM2
      have hM3 : h2.1 (k + 3) = xa_a 18 (F 3) := (oh2 _ (by omega)).trans hM3
      have hM4 : h2.1 (k + 4) = xa_a 2 (F 4) := (oh2 _ (by omega)).trans hM4
      have hM5 : h2.1 (k + 5) = xa_a 4 (xa_upf (F 5) ((2 + ((F 4) 1)).toNat) u.1) := (oh2 _ (by omega)).trans hM5
      have hM7 : h2.1 (k + 7) = xa_a 2 (F 7) := (oh2 _ (by omega)).trans hM7
      have hM8 : h2.1 (k + 8) = xa_a 2 (F 8) := (oh2 _ (by omega)).trans hM8
      have hM9 : h2.1 (k + 9) = xa_a 12 (F 9) := (oh2 _ (by omega)).trans hM9
      have hM10 : h2.1 (k + 10) = xa_a 720 (F 10) := (oh2 _ (by omega)).trans hM10
      have hM11 : h2.1 (k + 11) = xa_a 3 (F 11) := (oh2 _ (by omega)).trans hM11
      have hM12 : h2.1 (k + 12) = xa_a 360 (F 12) := (oh2 _ (by omega)).trans hM12
      have hM13 : h2.1 (k + 13) = xa_a 3 (xa_upf (F 13) 0 u.1) := (oh2 _ (by omega)).trans hM13
      have hM14 : h2.1 (k + 14) = xa_a 583200 (F 14) := (oh2 _ (by omega)).trans hM14
      have hM15 : h2.1 (k + 15) = xa_a 583200 (F 15) := (oh2 _ (by omega)).trans hM15
      have hM16 : h2.1 (k + 16) = xa_a 4 (F 16) := (oh2 _ (by omega)).trans hM16
      have hn : h2.2 = h0.2 := nh2.trans hn
      have fr : ∀ i, (i < k ∨ k + 17 ≤ i) → h2.1 i = h0.1 i := fun i hi => (oh2 i (by omega)).trans (fr i hi)
      refine xa_aload_n (pc := 180) dX10_jointItem_180 rfl ?_
      refine xa_getfield (pc := 181) dX10_jointItem_181 flRX10_19 (by omega) (by omega) hM0 rfl ?_
      refine xa_iconst (pc := 184) dX10_jointItem_184 ?_
      refine xa_dup2 (pc := 185) dX10_jointItem_185 rfl rfl ?_
      refine xa_ialdw (pc := 186) 1 dX10_jointItem_186 (by omega) hM4 (by omega) (by omega) rfl ?_
      have b4_186 := i4 (1)
      refine xa_iconst (pc := 187) dX10_jointItem_187 ?_
      refine xa_iadd (pc := 188) dX10_jointItem_188 ?_
      refine xa_iastw (pc := 189) 1 dX10_jointItem_189 (by omega) (by omega) hM4 (by omega) (by omega) rfl (fun h3 nh3 ch3 oh3 => ?_)
      have hM4 : h3.1 (k + 4) = xa_a 2 (xa_upf (F 4) 1 (((F 4) 1) + 1)) := ch3
      have hM0 : h3.1 k = xa_o 10 [xa_i (s 0), xa_r (k + 1), xa_r (k + 2), xa_r (k + 3), xa_r (k + 4), xa_r (k + 5), xa_r (k + 6), xa_r (k + 7), xa_r (k + 8), xa_r (k + 9), xa_r (k + 10), xa_r (k + 11), xa_r (k + 12), xa_i (s 13), xa_i (s 14), xa_i ((u.2 + 1 : Nat) : Int), xa_r (k + 13), xa_i (s 17), xa_i (s 18), xa_i (s 19), xa_i (s 20), xa_r (k + 14), xa_r (k + 15), xa_i (s 23), xa_r (k + 16)] := (oh3 _ (by omega)).trans hM0
      have hM1 : h3.1 (k + 1) = xa_a 120 (F 1) := (oh3 _ (by omega)).trans hM1
      have hM2 : h3.1 (k + 2) = xa_a 2 (F 2) := (oh3 _ (by omega)).trans hM2
      have hM3 : h3.1 (k + 3) = xa_a 18 (F 3) := (oh3 _ (by omega)).trans hM3
      have hM5 : h3.1 (k + 5) = xa_a 4 (xa_upf (F 5) ((2 + ((F 4) 1)).toNat) u.1) := (oh3 _ (by omega)).trans hM5
      have hM6 : h3.1 (k + 6) = xa_a 4 (xa_upf (F 6) ((2 + ((F 4) 1)).toNat) 1) := (oh3 _ (by omega)).trans hM6
      have hM7 : h3.1 (k + 7) = xa_a 2 (F 7) := (oh3 _ (by omega)).trans hM7
      have hM8 : h3.1 (k + 8) = xa_a 2 (F 8) := (oh3 _ (by omega)).trans hM8
      have hM9 : h3.1 (k + 9) = xa_a 12 (F 9) := (oh3 _ (by omega)).trans hM9
      have hM10 : h3.1 (k + 10) = xa_a 720 (F 10) := (oh3 _ (by omega)).trans hM10
      have hM11 : h3.1 (k + 11) = xa_a 3 (F 11) := (oh3 _ (by omega)).trans hM11
      have hM12 : h3.1 (k + 12) = xa_a 360 (F 12) := (oh3 _ (by omega)).trans hM12
      have hM13 : h3.1 (k + 13) = xa_a 3 (xa_upf (F 13) 0 u.1) := (oh3 _ (by omega)).trans hM13
      have hM14 : h3.1 (k + 14) = xa_a 583200 (F 14) := (oh3 _ (by omega)).trans hM14
      have hM15 : h3.1 (k + 15) = xa_a 583200 (F 15) := (oh3 _ (by omega)).trans hM15
      have hM16 : h3.1 (k + 16) = xa_a 4 (F 16) := (oh3 _ (by omega)).trans hM16
      have hn : h3.2 = h0.2 := nh3.trans hn
      have fr : ∀ i, (i < k ∨ k + 17 ≤ i) → h3.1 i = h0.1 i := fun i hi => (oh3 i (by omega)).trans (fr i hi)
      refine xa_iload_n (pc := 190) dX10_jointItem_190 rfl ?_
      refine xa_ireturn (pc := 191) dX10_jointItem_191 rfl (Or.inl rfl) ?_
      exact ⟨Or.inr ⟨Or.inr ⟨u, hu, fun q => by rcases hL with hL | hL <;> first | exact hL.2 q.2.2.1 | (have q4 := q.2.2.2; omega)⟩, rfl, (xa_upf (F 13) 0 u.1), (xa_upf (F 5) ((2 + ((F 4) 1)).toNat) u.1), (xa_upf (F 6) ((2 + ((F 4) 1)).toNat) 1), (xa_upf (F 4) 1 (((F 4) 1) + 1)), ((u.2 + 1 : Nat) : Int), ⟨xa_upf_b i5 (by omega), xa_upf_b i6 (by omega), xa_upf_b i4 (by have := i4 1; omega)⟩, ⟨fun i hi => xa_upf_ne _ _ (by have := i4 1; omega), fun i hi => xa_upf_ne _ _ (by have := i4 1; omega), rfl⟩, ⟨hM0, hM1, hM2, hM3, hM4, hM5, hM6, hM7, hM8, hM9, hM10, hM11, hM12, hM13, hM14, hM15, hM16, by omega, by omega⟩⟩, hn, fr⟩
  · skip
    refine xa_aload_n (pc := 120) dX10_jointItem_120 rfl ?_
    refine xa_getfield (pc := 121) dX10_jointItem_121 flRX10_19 (by omega) (by omega) hM0 rfl ?_
    refine xa_iconst (pc := 124) dX10_jointItem_124 ?_
    refine xa_ialdw (pc := 125) 1 dX10_jointItem_125 (by omega) hM4 (by omega) (by omega) rfl ?_
    have b4_125 := i4 (1)
    refine xa_if_eq (pc := 126) (tgt := 138) dX10_jointItem_126 (by decide) ⟨by omega, by omega⟩ (fun c_126 => ?_) (fun c_126 => ?_)
    · skip
      refine xa_iconst (pc := 138) dX10_jointItem_138 ?_
      refine xa_goto (pc := 139) (tgt := 143) dX10_jointItem_139 (by decide) ?_
      refine xa_istoren (pc := 143) [some (xa_r k), some (xa_i 1), some (xa_i u.1), some (xa_i 1), some (xa_i L)] dX10_jointItem_143 (by decide) (Nat.le_of_ble_eq_true rfl) rfl rfl ?_
      refine xa_aload_n (pc := 144) dX10_jointItem_144 rfl ?_
      refine xa_getfield (pc := 145) dX10_jointItem_145 flRX10_22 (by omega) (by omega) hM0 rfl ?_
      refine xa_iconst (pc := 148) dX10_jointItem_148 ?_
      refine xa_aload_n (pc := 149) dX10_jointItem_149 rfl ?_
      refine xa_getfield (pc := 150) dX10_jointItem_150 flRX10_19 (by omega) (by omega) hM0 rfl ?_
      refine xa_iconst (pc := 153) dX10_jointItem_153 ?_
      refine xa_ialdw (pc := 154) 1 dX10_jointItem_154 (by omega) hM4 (by omega) (by omega) rfl ?_
      have b4_154 := i4 (1)
      refine xa_iadd (pc := 155) dX10_jointItem_155 ?_
      refine xa_iload_n (pc := 156) dX10_jointItem_156 rfl ?_
      refine xa_iastw (pc := 157) ((2 + ((F 4) 1)).toNat) dX10_jointItem_157 (by omega) (by omega) hM5 (by omega) (by omega) rfl (fun h4 nh4 ch4 oh4 => ?_)
      have hM5 : h4.1 (k + 5) = xa_a 4 (xa_upf (F 5) ((2 + ((F 4) 1)).toNat) u.1) := ch4
      have hM0 : h4.1 k = xa_o 10 [xa_i (s 0), xa_r (k + 1), xa_r (k + 2), xa_r (k + 3), xa_r (k + 4), xa_r (k + 5), xa_r (k + 6), xa_r (k + 7), xa_r (k + 8), xa_r (k + 9), xa_r (k + 10), xa_r (k + 11), xa_r (k + 12), xa_i (s 13), xa_i (s 14), xa_i ((u.2 + 1 : Nat) : Int), xa_r (k + 13), xa_i (s 17), xa_i (s 18), xa_i (s 19), xa_i (s 20), xa_r (k + 14), xa_r (k + 15), xa_i (s 23), xa_r (k + 16)] := (oh4 _ (by omega)).trans hM0
      have hM1 : h4.1 (k + 1) = xa_a 120 (F 1) := (oh4 _ (by omega)).trans hM1
      have hM2 : h4.1 (k + 2) = xa_a 2 (F 2) := (oh4 _ (by omega)).trans hM2
      have hM3 : h4.1 (k + 3) = xa_a 18 (F 3) := (oh4 _ (by omega)).trans hM3
      have hM4 : h4.1 (k + 4) = xa_a 2 (F 4) := (oh4 _ (by omega)).trans hM4
      have hM6 : h4.1 (k + 6) = xa_a 4 (F 6) := (oh4 _ (by omega)).trans hM6
      have hM7 : h4.1 (k + 7) = xa_a 2 (F 7) := (oh4 _ (by omega)).trans hM7
      have hM8 : h4.1 (k + 8) = xa_a 2 (F 8) := (oh4 _ (by omega)).trans hM8
      have hM9 : h4.1 (k + 9) = xa_a 12 (F 9) := (oh4 _ (by omega)).trans hM9
      have hM10 : h4.1 (k + 10) = xa_a 720 (F 10) := (oh4 _ (by omega)).trans hM10
      have hM11 : h4.1 (k + 11) = xa_a 3 (F 11) := (oh4 _ (by omega)).trans hM11
      have hM12 : h4.1 (k + 12) = xa_a 360 (F 12) := (oh4 _ (by omega)).trans hM12
      have hM13 : h4.1 (k + 13) = xa_a 3 (xa_upf (F 13) 0 u.1) := (oh4 _ (by omega)).trans hM13
      have hM14 : h4.1 (k + 14) = xa_a 583200 (F 14) := (oh4 _ (by omega)).trans hM14
      have hM15 : h4.1 (k + 15) = xa_a 583200 (F 15) := (oh4 _ (by omega)).trans hM15
      have hM16 : h4.1 (k + 16) = xa_a 4 (F 16) := (oh4 _ (by omega)).trans hM16
      have hn : h4.2 = h0.2 := nh4.trans hn
      have fr : ∀ i, (i < k ∨ k + 17 ≤ i) → h4.1 i = h0.1 i := fun i hi => (oh4 i (by omega)).trans (fr i hi)
      refine xa_aload_n (pc := 158) dX10_jointItem_158 rfl ?_
      refine xa_getfield (pc := 159) dX10_jointItem_159 flRX10_25 (by omega) (by omega) hM0 rfl ?_
      refine xa_iconst (pc := 162) dX10_jointItem_162 ?_
      refine xa_aload_n (pc := 163) dX10_jointItem_163 rfl ?_
      refine xa_getfield (pc := 164) dX10_jointItem_164 flRX10_19 (by omega) (by omega) hM0 rfl ?_
      refine xa_iconst (pc := 167) dX10_jointItem_167 ?_
      refine xa_ialdw (pc := 168) 1 dX10_jointItem_168 (by omega) hM4 (by omega) (by omega) rfl ?_
      have b4_168 := i4 (1)
      refine xa_iadd (pc := 169) dX10_jointItem_169 ?_
      refine xa_iload_n (pc := 170) dX10_jointItem_170 rfl ?_
      refine xa_if_eq (pc := 171) (tgt := 178) dX10_jointItem_171 (by decide) (by decide) (fun c_171 => ?_) (fun c_171 => ?_)
      · skip
        exfalso; omega
      · skip
        refine xa_iconst (pc := 174) dX10_jointItem_174 ?_
        refine xa_goto (pc := 175) (tgt := 179) dX10_jointItem_175 (by decide) ?_
        refine xa_iastw (pc := 179) ((2 + ((F 4) 1)).toNat) dX10_jointItem_179 (by omega) (by omega) hM6 (by omega) (by omega) rfl (fun h5 nh5 ch5 oh5 => ?_)
        have hM6 : h5.1 (k + 6) = xa_a 4 (xa_upf (F 6) ((2 + ((F 4) 1)).toNat) 1) := ch5
        have hM0 : h5.1 k = xa_o 10 [xa_i (s 0), xa_r (k + 1), xa_r (k + 2), xa_r (k + 3), xa_r (k + 4), xa_r (k + 5), xa_r (k + 6), xa_r (k + 7), xa_r (k + 8), xa_r (k + 9), xa_r (k + 10), xa_r (k + 11), xa_r (k + 12), xa_i (s 13), xa_i (s 14), xa_i ((u.2 + 1 : Nat) : Int), xa_r (k + 13), xa_i (s 17), xa_i (s 18), xa_i (s 19), xa_i (s 20), xa_r (k + 14), xa_r (k + 15), xa_i (s 23), xa_r (k + 16)] := (oh5 _ (by omega)).trans hM0
        have hM1 : h5.1 (k + 1) = xa_a 120 (F 1) := (oh5 _ (by omega)).trans hM1
        have hM2 : h5.1 (k + 2) = xa_a 2 (F 2) := (oh5 _ (by omega)).trans hM2
        have hM3 : h5.1 (k + 3) = xa_a 18 (F 3) := (oh5 _ (by omega)).trans hM3
        have hM4 : h5.1 (k + 4) = xa_a 2 (F 4) := (oh5 _ (by omega)).trans hM4
        have hM5 : h5.1 (k + 5) = xa_a 4 (xa_upf (F 5) ((2 + ((F 4) 1)).toNat) u.1) := (oh5 _ (by omega)).trans hM5
        have hM7 : h5.1 (k + 7) = xa_a 2 (F 7) := (oh5 _ (by omega)).trans hM7
        have hM8 : h5.1 (k + 8) = xa_a 2 (F 8) := (oh5 _ (by omega)).trans hM8
        have hM9 : h5.1 (k + 9) = xa_a 12 (F 9) := (oh5 _ (by omega)).trans hM9
        have hM10 : h5.1 (k + 10) = xa_a 720 (F 10) := (oh5 _ (by omega)).trans hM10
        have hM11 : h5.1 (k + 11) = xa_a 3 (F 11) := (oh5 _ (by omega)).trans hM11
        have hM12 : h5.1 (k + 12) = xa_a 360 (F 12) := (oh5 _ (by omega)).trans hM12
        have hM13 : h5.1 (k + 13) = xa_a 3 (xa_upf (F 13) 0 u.1) := (oh5 _ (by omega)).trans hM13
        have hM14 : h5.1 (k + 14) = xa_a 583200 (F 14) := (oh5 _ (by omega)).trans hM14
        have hM15 : h5.1 (k + 15) = xa_a 583200 (F 15) := (oh5 _ (by omega)).trans hM15
        have hM16 : h5.1 (k + 16) = xa_a 4 (F 16) := (oh5 _ (by omega)).trans hM16
        have hn : h5.2 = h0.2 := nh5.trans hn
        have fr : ∀ i, (i < k ∨ k + 17 ≤ i) → h5.1 i = h0.1 i := fun i hi => (oh5 i (by omega)).trans (fr i hi)
        refine xa_aload_n (pc := 180) dX10_jointItem_180 rfl ?_
        refine xa_getfield (pc := 181) dX10_jointItem_181 flRX10_19 (by omega) (by omega) hM0 rfl ?_
        refine xa_iconst (pc := 184) dX10_jointItem_184 ?_
        refine xa_dup2 (pc := 185) dX10_jointItem_185 rfl rfl ?_
        refine xa_ialdw (pc := 186) 1 dX10_jointItem_186 (by omega) hM4 (by omega) (by omega) rfl ?_
        have b4_186 := i4 (1)
        refine xa_iconst (pc := 187) dX10_jointItem_187 ?_
        refine xa_iadd (pc := 188) dX10_jointItem_188 ?_
        refine xa_iastw (pc := 189) 1 dX10_jointItem_189 (by omega) (by omega) hM4 (by omega) (by omega) rfl (fun h6 nh6 ch6 oh6 => ?_)
        have hM4 : h6.1 (k + 4) = xa_a 2 (xa_upf (F 4) 1 (((F 4) 1) + 1)) := ch6
        have hM0 : h6.1 k = xa_o 10 [xa_i (s 0), xa_r (k + 1), xa_r (k + 2), xa_r (k + 3), xa_r (k + 4), xa_r (k + 5), xa_r (k + 6), xa_r (k + 7), xa_r (k + 8), xa_r (k + 9), xa_r (k + 10), xa_r (k + 11), xa_r (k + 12), xa_i (s 13), xa_i (s 14), xa_i ((u.2 + 1 : Nat) : Int), xa_r (k + 13), xa_i (s 17), xa_i (s 18), xa_i (s 19), xa_i (s 20), xa_r (k + 14), xa_r (k + 15), xa_i (s 23), xa_r (k + 16)] := (oh6 _ (by omega)).trans hM0
        have hM1 : h6.1 (k + 1) = xa_a 120 (F 1) := (oh6 _ (by omega)).trans hM1
        have hM2 : h6.1 (k + 2) = xa_a 2 (F 2) := (oh6 _ (by omega)).trans hM2
        have hM3 : h6.1 (k + 3) = xa_a 18 (F 3) := (oh6 _ (by omega)).trans hM3
        have hM5 : h6.1 (k + 5) = xa_a 4 (xa_upf (F 5) ((2 + ((F 4) 1)).toNat) u.1) := (oh6 _ (by omega)).trans hM5
        have hM6 : h6.1 (k + 6) = xa_a 4 (xa_upf (F 6) ((2 + ((F 4) 1)).toNat) 1) := (oh6 _ (by omega)).trans hM6
        have hM7 : h6.1 (k + 7) = xa_a 2 (F 7) := (oh6 _ (by omega)).trans hM7
        have hM8 : h6.1 (k + 8) = xa_a 2 (F 8) := (oh6 _ (by omega)).trans hM8
        have hM9 : h6.1 (k + 9) = xa_a 12 (F 9) := (oh6 _ (by omega)).trans hM9
        have hM10 : h6.1 (k + 10) = xa_a 720 (F 10) := (oh6 _ (by omega)).trans hM10
        have hM11 : h6.1 (k + 11) = xa_a 3 (F 11) := (oh6 _ (by omega)).trans hM11
        have hM12 : h6.1 (k + 12) = xa_a 360 (F 12) := (oh6 _ (by omega)).trans hM12
        have hM13 : h6.1 (k + 13) = xa_a 3 (xa_upf (F 13) 0 u.1) := (oh6 _ (by omega)).trans hM13
        have hM14 : h6.1 (k + 14) = xa_a 583200 (F 14) := (oh6 _ (by omega)).trans hM14
        have hM15 : h6.1 (k + 15) = xa_a 583200 (F 15) := (oh6 _ (by omega)).trans hM15
        have hM16 : h6.1 (k + 16) = xa_a 4 (F 16) := (oh6 _ (by omega)).trans hM16
        have hn : h6.2 = h0.2 := nh6.trans hn
        have fr : ∀ i, (i < k ∨ k + 17 ≤ i) → h6.1 i = h0.1 i := fun i hi => (oh6 i (by omega)).trans (fr i hi)
        refine xa_iload_n (pc := 190) dX10_jointItem_190 rfl ?_
        refine xa_ireturn (pc := 191) dX10_jointItem_191 rfl (Or.inr rfl) ?_
        exact ⟨Or.inl ⟨u, hu, ⟨by omega, by omega, hL.elim (fun q => q.2) (fun q => absurd q.1 (by omega)), by omega⟩, rfl, ⟨hM0, hM1, hM2, hM3, hM4, hM5, hM6, hM7, hM8, hM9, hM10, hM11, hM12, hM13, hM14, hM15, hM16, by omega, by omega⟩⟩, hn, fr⟩
    · skip
      refine xa_aload_n (pc := 129) dX10_jointItem_129 rfl ?_
      refine xa_getfield (pc := 130) dX10_jointItem_130 flRX10_25 (by omega) (by omega) hM0 rfl ?_
      refine xa_iconst (pc := 133) dX10_jointItem_133 ?_
      refine xa_ialdw (pc := 134) 2 dX10_jointItem_134 (by omega) hM6 (by omega) (by omega) rfl ?_
      have b6_134 := i6 (2)
      refine xa_if_ne (pc := 135) (tgt := 142) dX10_jointItem_135 (by decide) ⟨by omega, by omega⟩ (fun c_135 => ?_) (fun c_135 => ?_)
      · skip
        refine xa_iconst (pc := 142) dX10_jointItem_142 ?_
        refine xa_istoren (pc := 143) [some (xa_r k), some (xa_i 1), some (xa_i u.1), some (xa_i 0), some (xa_i L)] dX10_jointItem_143 (by decide) (Nat.le_of_ble_eq_true rfl) rfl rfl ?_
        refine xa_aload_n (pc := 144) dX10_jointItem_144 rfl ?_
        refine xa_getfield (pc := 145) dX10_jointItem_145 flRX10_22 (by omega) (by omega) hM0 rfl ?_
        refine xa_iconst (pc := 148) dX10_jointItem_148 ?_
        refine xa_aload_n (pc := 149) dX10_jointItem_149 rfl ?_
        refine xa_getfield (pc := 150) dX10_jointItem_150 flRX10_19 (by omega) (by omega) hM0 rfl ?_
        refine xa_iconst (pc := 153) dX10_jointItem_153 ?_
        refine xa_ialdw (pc := 154) 1 dX10_jointItem_154 (by omega) hM4 (by omega) (by omega) rfl ?_
        have b4_154 := i4 (1)
        refine xa_iadd (pc := 155) dX10_jointItem_155 ?_
        refine xa_iload_n (pc := 156) dX10_jointItem_156 rfl ?_
        refine xa_iastw (pc := 157) ((2 + ((F 4) 1)).toNat) dX10_jointItem_157 (by omega) (by omega) hM5 (by omega) (by omega) rfl (fun h7 nh7 ch7 oh7 => ?_)
        have hM5 : h7.1 (k + 5) = xa_a 4 (xa_upf (F 5) ((2 + ((F 4) 1)).toNat) u.1) := ch7
        have hM0 : h7.1 k = xa_o 10 [xa_i (s 0), xa_r (k + 1), xa_r (k + 2), xa_r (k + 3), xa_r (k + 4), xa_r (k + 5), xa_r (k + 6), xa_r (k + 7), xa_r (k + 8), xa_r (k + 9), xa_r (k + 10), xa_r (k + 11), xa_r (k + 12), xa_i (s 13), xa_i (s 14), xa_i ((u.2 + 1 : Nat) : Int), xa_r (k + 13), xa_i (s 17), xa_i (s 18), xa_i (s 19), xa_i (s 20), xa_r (k + 14), xa_r (k + 15), xa_i (s 23), xa_r (k + 16)] := (oh7 _ (by omega)).trans hM0
        have hM1 : h7.1 (k + 1) = xa_a 120 (F 1) := (oh7 _ (by omega)).trans hM1
        have hM2 : h7.1 (k + 2) = xa_a 2 (F 2) := (oh7 _ (by omega)).trans hM2
        have hM3 : h7.1 (k + 3) = xa_a 18 (F 3) := (oh7 _ (by omega)).trans hM3
        have hM4 : h7.1 (k + 4) = xa_a 2 (F 4) := (oh7 _ (by omega)).trans hM4
        have hM6 : h7.1 (k + 6) = xa_a 4 (F 6) := (oh7 _ (by omega)).trans hM6
        have hM7 : h7.1 (k + 7) = xa_a 2 (F 7) := (oh7 _ (by omega)).trans hM7
        have hM8 : h7.1 (k + 8) = xa_a 2 (F 8) := (oh7 _ (by omega)).trans hM8
        have hM9 : h7.1 (k + 9) = xa_a 12 (F 9) := (oh7 _ (by omega)).trans hM9
        have hM10 : h7.1 (k + 10) = xa_a 720 (F 10) := (oh7 _ (by omega)).trans hM10
        have hM11 : h7.1 (k + 11) = xa_a 3 (F 11) := (oh7 _ (by omega)).trans hM11
        have hM12 : h7.1 (k + 12) = xa_a 360 (F 12) := (oh7 _ (by omega)).trans hM12
        have hM13 : h7.1 (k + 13) = xa_a 3 (xa_upf (F 13) 0 u.1) := (oh7 _ (by omega)).trans hM13
        have hM14 : h7.1 (k + 14) = xa_a 583200 (F 14) := (oh7 _ (by omega)).trans hM14
        have hM15 : h7.1 (k + 15) = xa_a 583200 (F 15) := (oh7 _ (by omega)).trans hM15
        have hM16 : h7.1 (k + 16) = xa_a 4 (F 16) := (oh7 _ (by omega)).trans hM16
        have hn : h7.2 = h0.2 := nh7.trans hn
        have fr : ∀ i, (i < k ∨ k + 17 ≤ i) → h7.1 i = h0.1 i := fun i hi => (oh7 i (by omega)).trans (fr i hi)
        refine xa_aload_n (pc := 158) dX10_jointItem_158 rfl ?_
        refine xa_getfield (pc := 159) dX10_jointItem_159 flRX10_25 (by omega) (by omega) hM0 rfl ?_
        refine xa_iconst (pc := 162) dX10_jointItem_162 ?_
        refine xa_aload_n (pc := 163) dX10_jointItem_163 rfl ?_
        refine xa_getfield (pc := 164) dX10_jointItem_164 flRX10_19 (by omega) (by omega) hM0 rfl ?_
        refine xa_iconst (pc := 167) dX10_jointItem_167 ?_
        refine xa_ialdw (pc := 168) 1 dX10_jointItem_168 (by omega) hM4 (by omega) (by omega) rfl ?_
        have b4_168 := i4 (1)
        refine xa_iadd (pc := 169) dX10_jointItem_169 ?_
        refine xa_iload_n (pc := 170) dX10_jointItem_170 rfl ?_
        refine xa_if_eq (pc := 171) (tgt := 178) dX10_jointItem_171 (by decide) (by decide) (fun c_171 => ?_) (fun c_171 => ?_)
        · skip
          exfalso; omega
        · skip
          refine xa_iconst (pc := 174) dX10_jointItem_174 ?_
          refine xa_goto (pc := 175) (tgt := 179) dX10_jointItem_175 (by decide) ?_
          refine xa_iastw (pc := 179) ((2 + ((F 4) 1)).toNat) dX10_jointItem_179 (by omega) (by omega) hM6 (by omega) (by omega) rfl (fun h8 nh8 ch8 oh8 => ?_)
          have hM6 : h8.1 (k + 6) = xa_a 4 (xa_upf (F 6) ((2 + ((F 4) 1)).toNat) 1) := ch8
          have hM0 : h8.1 k = xa_o 10 [xa_i (s 0), xa_r (k + 1), xa_r (k + 2), xa_r (k + 3), xa_r (k + 4), xa_r (k + 5), xa_r (k + 6), xa_r (k + 7), xa_r (k + 8), xa_r (k + 9), xa_r (k + 10), xa_r (k + 11), xa_r (k + 12), xa_i (s 13), xa_i (s 14), xa_i ((u.2 + 1 : Nat) : Int), xa_r (k + 13), xa_i (s 17), xa_i (s 18), xa_i (s 19), xa_i (s 20), xa_r (k + 14), xa_r (k + 15), xa_i (s 23), xa_r (k + 16)] := (oh8 _ (by omega)).trans hM0
          have hM1 : h8.1 (k + 1) = xa_a 120 (F 1) := (oh8 _ (by omega)).trans hM1
          have hM2 : h8.1 (k + 2) = xa_a 2 (F 2) := (oh8 _ (by omega)).trans hM2
          have hM3 : h8.1 (k + 3) = xa_a 18 (F 3) := (oh8 _ (by omega)).trans hM3
          have hM4 : h8.1 (k + 4) = xa_a 2 (F 4) := (oh8 _ (by omega)).trans hM4
          have hM5 : h8.1 (k + 5) = xa_a 4 (xa_upf (F 5) ((2 + ((F 4) 1)).toNat) u.1) := (oh8 _ (by omega)).trans hM5
          have hM7 : h8.1 (k + 7) = xa_a 2 (F 7) := (oh8 _ (by omega)).trans hM7
          have hM8 : h8.1 (k + 8) = xa_a 2 (F 8) := (oh8 _ (by omega)).trans hM8
          have hM9 : h8.1 (k + 9) = xa_a 12 (F 9) := (oh8 _ (by omega)).trans hM9
          have hM10 : h8.1 (k + 10) = xa_a 720 (F 10) := (oh8 _ (by omega)).trans hM10
          have hM11 : h8.1 (k + 11) = xa_a 3 (F 11) := (oh8 _ (by omega)).trans hM11
          have hM12 : h8.1 (k + 12) = xa_a 360 (F 12) := (oh8 _ (by omega)).trans hM12
          have hM13 : h8.1 (k + 13) = xa_a 3 (xa_upf (F 13) 0 u.1) := (oh8 _ (by omega)).trans hM13
          have hM14 : h8.1 (k + 14) = xa_a 583200 (F 14) := (oh8 _ (by omega)).trans hM14
          have hM15 : h8.1 (k + 15) = xa_a 583200 (F 15) := (oh8 _ (by omega)).trans hM15
          have hM16 : h8.1 (k + 16) = xa_a 4 (F 16) := (oh8 _ (by omega)).trans hM16
          have hn : h8.2 = h0.2 := nh8.trans hn
          have fr : ∀ i, (i < k ∨ k + 17 ≤ i) → h8.1 i = h0.1 i := fun i hi => (oh8 i (by omega)).trans (fr i hi)
          refine xa_aload_n (pc := 180) dX10_jointItem_180 rfl ?_
          refine xa_getfield (pc := 181) dX10_jointItem_181 flRX10_19 (by omega) (by omega) hM0 rfl ?_
          refine xa_iconst (pc := 184) dX10_jointItem_184 ?_
          refine xa_dup2 (pc := 185) dX10_jointItem_185 rfl rfl ?_
          refine xa_ialdw (pc := 186) 1 dX10_jointItem_186 (by omega) hM4 (by omega) (by omega) rfl ?_
          have b4_186 := i4 (1)
          refine xa_iconst (pc := 187) dX10_jointItem_187 ?_
          refine xa_iadd (pc := 188) dX10_jointItem_188 ?_
          refine xa_iastw (pc := 189) 1 dX10_jointItem_189 (by omega) (by omega) hM4 (by omega) (by omega) rfl (fun h9 nh9 ch9 oh9 => ?_)
          have hM4 : h9.1 (k + 4) = xa_a 2 (xa_upf (F 4) 1 (((F 4) 1) + 1)) := ch9
          have hM0 : h9.1 k = xa_o 10 [xa_i (s 0), xa_r (k + 1), xa_r (k + 2), xa_r (k + 3), xa_r (k + 4), xa_r (k + 5), xa_r (k + 6), xa_r (k + 7), xa_r (k + 8), xa_r (k + 9), xa_r (k + 10), xa_r (k + 11), xa_r (k + 12), xa_i (s 13), xa_i (s 14), xa_i ((u.2 + 1 : Nat) : Int), xa_r (k + 13), xa_i (s 17), xa_i (s 18), xa_i (s 19), xa_i (s 20), xa_r (k + 14), xa_r (k + 15), xa_i (s 23), xa_r (k + 16)] := (oh9 _ (by omega)).trans hM0
          have hM1 : h9.1 (k + 1) = xa_a 120 (F 1) := (oh9 _ (by omega)).trans hM1
          have hM2 : h9.1 (k + 2) = xa_a 2 (F 2) := (oh9 _ (by omega)).trans hM2
          have hM3 : h9.1 (k + 3) = xa_a 18 (F 3) := (oh9 _ (by omega)).trans hM3
          have hM5 : h9.1 (k + 5) = xa_a 4 (xa_upf (F 5) ((2 + ((F 4) 1)).toNat) u.1) := (oh9 _ (by omega)).trans hM5
          have hM6 : h9.1 (k + 6) = xa_a 4 (xa_upf (F 6) ((2 + ((F 4) 1)).toNat) 1) := (oh9 _ (by omega)).trans hM6
          have hM7 : h9.1 (k + 7) = xa_a 2 (F 7) := (oh9 _ (by omega)).trans hM7
          have hM8 : h9.1 (k + 8) = xa_a 2 (F 8) := (oh9 _ (by omega)).trans hM8
          have hM9 : h9.1 (k + 9) = xa_a 12 (F 9) := (oh9 _ (by omega)).trans hM9
          have hM10 : h9.1 (k + 10) = xa_a 720 (F 10) := (oh9 _ (by omega)).trans hM10
          have hM11 : h9.1 (k + 11) = xa_a 3 (F 11) := (oh9 _ (by omega)).trans hM11
          have hM12 : h9.1 (k + 12) = xa_a 360 (F 12) := (oh9 _ (by omega)).trans hM12
          have hM13 : h9.1 (k + 13) = xa_a 3 (xa_upf (F 13) 0 u.1) := (oh9 _ (by omega)).trans hM13
          have hM14 : h9.1 (k + 14) = xa_a 583200 (F 14) := (oh9 _ (by omega)).trans hM14
          have hM15 : h9.1 (k + 15) = xa_a 583200 (F 15) := (oh9 _ (by omega)).trans hM15
          have hM16 : h9.1 (k + 16) = xa_a 4 (F 16) := (oh9 _ (by omega)).trans hM16
          have hn : h9.2 = h0.2 := nh9.trans hn
          have fr : ∀ i, (i < k ∨ k + 17 ≤ i) → h9.1 i = h0.1 i := fun i hi => (oh9 i (by omega)).trans (fr i hi)
          refine xa_iload_n (pc := 190) dX10_jointItem_190 rfl ?_
          refine xa_ireturn (pc := 191) dX10_jointItem_191 rfl (Or.inl rfl) ?_
          exact ⟨Or.inr ⟨Or.inr ⟨u, hu, fun q => by rcases hL with hL | hL <;> first | exact hL.2 q.2.2.1 | (have q4 := q.2.2.2; omega)⟩, rfl, (xa_upf (F 13) 0 u.1), (xa_upf (F 5) ((2 + ((F 4) 1)).toNat) u.1), (xa_upf (F 6) ((2 + ((F 4) 1)).toNat) 1), (xa_upf (F 4) 1 (((F 4) 1) + 1)), ((u.2 + 1 : Nat) : Int), ⟨xa_upf_b i5 (by omega), xa_upf_b i6 (by omega), xa_upf_b i4 (by have := i4 1; omega)⟩, ⟨fun i hi => xa_upf_ne _ _ (by have := i4 1; omega), fun i hi => xa_upf_ne _ _ (by have := i4 1; omega), rfl⟩, ⟨hM0, hM1, hM2, hM3, hM4, hM5, hM6, hM7, hM8, hM9, hM10, hM11, hM12, hM13, hM14, hM15, hM16, by omega, by omega⟩⟩, hn, fr⟩
      · skip
        refine xa_iconst (pc := 138) dX10_jointItem_138 ?_
        refine xa_goto (pc := 139) (tgt := 143) dX10_jointItem_139 (by decide) ?_
        refine xa_istoren (pc := 143) [some (xa_r k), some (xa_i 1), some (xa_i u.1), some (xa_i 1), some (xa_i L)] dX10_jointItem_143 (by decide) (Nat.le_of_ble_eq_true rfl) rfl rfl ?_
        refine xa_aload_n (pc := 144) dX10_jointItem_144 rfl ?_
        refine xa_getfield (pc := 145) dX10_jointItem_145 flRX10_22 (by omega) (by omega) hM0 rfl ?_
        refine xa_iconst (pc := 148) dX10_jointItem_148 ?_
        refine xa_aload_n (pc := 149) dX10_jointItem_149 rfl ?_
        refine xa_getfield (pc := 150) dX10_jointItem_150 flRX10_19 (by omega) (by omega) hM0 rfl ?_
        refine xa_iconst (pc := 153) dX10_jointItem_153 ?_
        refine xa_ialdw (pc := 154) 1 dX10_jointItem_154 (by omega) hM4 (by omega) (by omega) rfl ?_
        have b4_154 := i4 (1)
        refine xa_iadd (pc := 155) dX10_jointItem_155 ?_
        refine xa_iload_n (pc := 156) dX10_jointItem_156 rfl ?_
        refine xa_iastw (pc := 157) ((2 + ((F 4) 1)).toNat) dX10_jointItem_157 (by omega) (by omega) hM5 (by omega) (by omega) rfl (fun h10 nh10 ch10 oh10 => ?_)
        have hM5 : h10.1 (k + 5) = xa_a 4 (xa_upf (F 5) ((2 + ((F 4) 1)).toNat) u.1) := ch10
        have hM0 : h10.1 k = xa_o 10 [xa_i (s 0), xa_r (k + 1), xa_r (k + 2), xa_r (k + 3), xa_r (k + 4), xa_r (k + 5), xa_r (k + 6), xa_r (k + 7), xa_r (k + 8), xa_r (k + 9), xa_r (k + 10), xa_r (k + 11), xa_r (k + 12), xa_i (s 13), xa_i (s 14), xa_i ((u.2 + 1 : Nat) : Int), xa_r (k + 13), xa_i (s 17), xa_i (s 18), xa_i (s 19), xa_i (s 20), xa_r (k + 14), xa_r (k + 15), xa_i (s 23), xa_r (k + 16)] := (oh10 _ (by omega)).trans hM0
        have hM1 : h10.1 (k + 1) = xa_a 120 (F 1) := (oh10 _ (by omega)).trans hM1
        have hM2 : h10.1 (k + 2) = xa_a 2 (F 2) := (oh10 _ (by omega)).trans hM2
        have hM3 : h10.1 (k + 3) = xa_a 18 (F 3) := (oh10 _ (by omega)).trans hM3
        have hM4 : h10.1 (k + 4) = xa_a 2 (F 4) := (oh10 _ (by omega)).trans hM4
        have hM6 : h10.1 (k + 6) = xa_a 4 (F 6) := (oh10 _ (by omega)).trans hM6
        have hM7 : h10.1 (k + 7) = xa_a 2 (F 7) := (oh10 _ (by omega)).trans hM7
        have hM8 : h10.1 (k + 8) = xa_a 2 (F 8) := (oh10 _ (by omega)).trans hM8
        have hM9 : h10.1 (k + 9) = xa_a 12 (F 9) := (oh10 _ (by omega)).trans hM9
        have hM10 : h10.1 (k + 10) = xa_a 720 (F 10) := (oh10 _ (by omega)).trans hM10
        have hM11 : h10.1 (k + 11) = xa_a 3 (F 11) := (oh10 _ (by omega)).trans hM11
        have hM12 : h10.1 (k + 12) = xa_a 360 (F 12) := (oh10 _ (by omega)).trans hM12
        have hM13 : h10.1 (k + 13) = xa_a 3 (xa_upf (F 13) 0 u.1) := (oh10 _ (by omega)).trans hM13
        have hM14 : h10.1 (k + 14) = xa_a 583200 (F 14) := (oh10 _ (by omega)).trans hM14
        have hM15 : h10.1 (k + 15) = xa_a 583200 (F 15) := (oh10 _ (by omega)).trans hM15
        have hM16 : h10.1 (k + 16) = xa_a 4 (F 16) := (oh10 _ (by omega)).trans hM16
        have hn : h10.2 = h0.2 := nh10.trans hn
        have fr : ∀ i, (i < k ∨ k + 17 ≤ i) → h10.1 i = h0.1 i := fun i hi => (oh10 i (by omega)).trans (fr i hi)
        refine xa_aload_n (pc := 158) dX10_jointItem_158 rfl ?_
        refine xa_getfield (pc := 159) dX10_jointItem_159 flRX10_25 (by omega) (by omega) hM0 rfl ?_
        refine xa_iconst (pc := 162) dX10_jointItem_162 ?_
        refine xa_aload_n (pc := 163) dX10_jointItem_163 rfl ?_
        refine xa_getfield (pc := 164) dX10_jointItem_164 flRX10_19 (by omega) (by omega) hM0 rfl ?_
        refine xa_iconst (pc := 167) dX10_jointItem_167 ?_
        refine xa_ialdw (pc := 168) 1 dX10_jointItem_168 (by omega) hM4 (by omega) (by omega) rfl ?_
        have b4_168 := i4 (1)
        refine xa_iadd (pc := 169) dX10_jointItem_169 ?_
        refine xa_iload_n (pc := 170) dX10_jointItem_170 rfl ?_
        refine xa_if_eq (pc := 171) (tgt := 178) dX10_jointItem_171 (by decide) (by decide) (fun c_171 => ?_) (fun c_171 => ?_)
        · skip
          exfalso; omega
        · skip
          refine xa_iconst (pc := 174) dX10_jointItem_174 ?_
          refine xa_goto (pc := 175) (tgt := 179) dX10_jointItem_175 (by decide) ?_
          refine xa_iastw (pc := 179) ((2 + ((F 4) 1)).toNat) dX10_jointItem_179 (by omega) (by omega) hM6 (by omega) (by omega) rfl (fun h11 nh11 ch11 oh11 => ?_)
          have hM6 : h11.1 (k + 6) = xa_a 4 (xa_upf (F 6) ((2 + ((F 4) 1)).toNat) 1) := ch11
          have hM0 : h11.1 k = xa_o 10 [xa_i (s 0), xa_r (k + 1), xa_r (k + 2), xa_r (k + 3), xa_r (k + 4), xa_r (k + 5), xa_r (k + 6), xa_r (k + 7), xa_r (k + 8), xa_r (k + 9), xa_r (k + 10), xa_r (k + 11), xa_r (k + 12), xa_i (s 13), xa_i (s 14), xa_i ((u.2 + 1 : Nat) : Int), xa_r (k + 13), xa_i (s 17), xa_i (s 18), xa_i (s 19), xa_i (s 20), xa_r (k + 14), xa_r (k + 15), xa_i (s 23), xa_r (k + 16)] := (oh11 _ (by omega)).trans hM0
          have hM1 : h11.1 (k + 1) = xa_a 120 (F 1) := (oh11 _ (by omega)).trans hM1
          have hM2 : h11.1 (k + 2) = xa_a 2 (F 2) := (oh11 _ (by omega)).trans hM2
          have hM3 : h11.1 (k + 3) = xa_a 18 (F 3) := (oh11 _ (by omega)).trans hM3
          have hM4 : h11.1 (k + 4) = xa_a 2 (F 4) := (oh11 _ (by omega)).trans hM4
          have hM5 : h11.1 (k + 5) = xa_a 4 (xa_upf (F 5) ((2 + ((F 4) 1)).toNat) u.1) := (oh11 _ (by omega)).trans hM5
          have hM7 : h11.1 (k + 7) = xa_a 2 (F 7) := (oh11 _ (by omega)).trans hM7
          have hM8 : h11.1 (k + 8) = xa_a 2 (F 8) := (oh11 _ (by omega)).trans hM8
          have hM9 : h11.1 (k + 9) = xa_a 12 (F 9) := (oh11 _ (by omega)).trans hM9
          have hM10 : h11.1 (k + 10) = xa_a 720 (F 10) := (oh11 _ (by omega)).trans hM10
          have hM11 : h11.1 (k + 11) = xa_a 3 (F 11) := (oh11 _ (by omega)).trans hM11
          have hM12 : h11.1 (k + 12) = xa_a 360 (F 12) := (oh11 _ (by omega)).trans hM12
          have hM13 : h11.1 (k + 13) = xa_a 3 (xa_upf (F 13) 0 u.1) := (oh11 _ (by omega)).trans hM13
          have hM14 : h11.1 (k + 14) = xa_a 583200 (F 14) := (oh11 _ (by omega)).trans hM14
          have hM15 : h11.1 (k + 15) = xa_a 583200 (F 15) := (oh11 _ (by omega)).trans hM15
          have hM16 : h11.1 (k + 16) = xa_a 4 (F 16) := (oh11 _ (by omega)).trans hM16
          have hn : h11.2 = h0.2 := nh11.trans hn
          have fr : ∀ i, (i < k ∨ k + 17 ≤ i) → h11.1 i = h0.1 i := fun i hi => (oh11 i (by omega)).trans (fr i hi)
          refine xa_aload_n (pc := 180) dX10_jointItem_180 rfl ?_
          refine xa_getfield (pc := 181) dX10_jointItem_181 flRX10_19 (by omega) (by omega) hM0 rfl ?_
          refine xa_iconst (pc := 184) dX10_jointItem_184 ?_
          refine xa_dup2 (pc := 185) dX10_jointItem_185 rfl rfl ?_
          refine xa_ialdw (pc := 186) 1 dX10_jointItem_186 (by omega) hM4 (by omega) (by omega) rfl ?_
          have b4_186 := i4 (1)
          refine xa_iconst (pc := 187) dX10_jointItem_187 ?_
          refine xa_iadd (pc := 188) dX10_jointItem_188 ?_
          refine xa_iastw (pc := 189) 1 dX10_jointItem_189 (by omega) (by omega) hM4 (by omega) (by omega) rfl (fun h12 nh12 ch12 oh12 => ?_)
          have hM4 : h12.1 (k + 4) = xa_a 2 (xa_upf (F 4) 1 (((F 4) 1) + 1)) := ch12
          have hM0 : h12.1 k = xa_o 10 [xa_i (s 0), xa_r (k + 1), xa_r (k + 2), xa_r (k + 3), xa_r (k + 4), xa_r (k + 5), xa_r (k + 6), xa_r (k + 7), xa_r (k + 8), xa_r (k + 9), xa_r (k + 10), xa_r (k + 11), xa_r (k + 12), xa_i (s 13), xa_i (s 14), xa_i ((u.2 + 1 : Nat) : Int), xa_r (k + 13), xa_i (s 17), xa_i (s 18), xa_i (s 19), xa_i (s 20), xa_r (k + 14), xa_r (k + 15), xa_i (s 23), xa_r (k + 16)] := (oh12 _ (by omega)).trans hM0
          have hM1 : h12.1 (k + 1) = xa_a 120 (F 1) := (oh12 _ (by omega)).trans hM1
          have hM2 : h12.1 (k + 2) = xa_a 2 (F 2) := (oh12 _ (by omega)).trans hM2
          have hM3 : h12.1 (k + 3) = xa_a 18 (F 3) := (oh12 _ (by omega)).trans hM3
          have hM5 : h12.1 (k + 5) = xa_a 4 (xa_upf (F 5) ((2 + ((F 4) 1)).toNat) u.1) := (oh12 _ (by omega)).trans hM5
          have hM6 : h12.1 (k + 6) = xa_a 4 (xa_upf (F 6) ((2 + ((F 4) 1)).toNat) 1) := (oh12 _ (by omega)).trans hM6
          have hM7 : h12.1 (k + 7) = xa_a 2 (F 7) := (oh12 _ (by omega)).trans hM7
          have hM8 : h12.1 (k + 8) = xa_a 2 (F 8) := (oh12 _ (by omega)).trans hM8
          have hM9 : h12.1 (k + 9) = xa_a 12 (F 9) := (oh12 _ (by omega)).trans hM9
          have hM10 : h12.1 (k + 10) = xa_a 720 (F 10) := (oh12 _ (by omega)).trans hM10
          have hM11 : h12.1 (k + 11) = xa_a 3 (F 11) := (oh12 _ (by omega)).trans hM11
          have hM12 : h12.1 (k + 12) = xa_a 360 (F 12) := (oh12 _ (by omega)).trans hM12
          have hM13 : h12.1 (k + 13) = xa_a 3 (xa_upf (F 13) 0 u.1) := (oh12 _ (by omega)).trans hM13
          have hM14 : h12.1 (k + 14) = xa_a 583200 (F 14) := (oh12 _ (by omega)).trans hM14
          have hM15 : h12.1 (k + 15) = xa_a 583200 (F 15) := (oh12 _ (by omega)).trans hM15
          have hM16 : h12.1 (k + 16) = xa_a 4 (F 16) := (oh12 _ (by omega)).trans hM16
          have hn : h12.2 = h0.2 := nh12.trans hn
          have fr : ∀ i, (i < k ∨ k + 17 ≤ i) → h12.1 i = h0.1 i := fun i hi => (oh12 i (by omega)).trans (fr i hi)
          refine xa_iload_n (pc := 190) dX10_jointItem_190 rfl ?_
          refine xa_ireturn (pc := 191) dX10_jointItem_191 rfl (Or.inr rfl) ?_
          exact ⟨Or.inl ⟨u, hu, ⟨by omega, by omega, hL.elim (fun q => q.2) (fun q => absurd q.1 (by omega)), by omega⟩, rfl, ⟨hM0, hM1, hM2, hM3, hM4, hM5, hM6, hM7, hM8, hM9, hM10, hM11, hM12, hM13, hM14, hM15, hM16, by omega, by omega⟩⟩, hn, fr⟩
theorem c_jointItem1 {G : xa_G} {h : xa_H} (k n p : Nat) (F : Nat → Nat → Int) (s : Nat → Int) (hs0 : s 0 = (n : Int)) (hn9 : n ≤ 120) (hf : ∀ i, 0 ≤ F 1 i ∧ F 1 i ≤ 255) (hp : s 15 = ((p : Nat) : Int)) (hp9 : p ≤ 200) (i5 : ∀ i, 0 ≤ F 5 i ∧ F 5 i ≤ 120) (i6 : ∀ i, 0 ≤ F 6 i ∧ F 6 i ≤ 1) (i4 : ∀ i, 0 ≤ F 4 i ∧ F 4 i ≤ 2) (hM : xM h k F s)  : xa_M G mX10_jointItem [xa_r k, xa_i 1] h 0 0 (fun r h' => ((∃ u, fg1 n (F 1) p = some u ∧ (F 4 1 ≠ 2 ∧ (1 ≤ u.1 ∧ u.1 ≤ 120) ∧ sp_wagL u.1 ∧ (F 4 1 = 0 ∨ F 6 2 = 0)) ∧ r = some (xa_i 1) ∧ xM h' k (xa_uF (xa_uF (xa_uF (xa_uF F 13 (xa_upf (F 13) 0 u.1)) 5 (xa_upf (F 5) (2 + F 4 1).toNat u.1)) 6 (xa_upf (F 6) (2 + F 4 1).toNat 1)) 4 (xa_upf (F 4) 1 (F 4 1 + 1))) (xa_upf s 15 ((u.2 + 1 : Nat) : Int))) ∨ ((fg1 n (F 1) p = none ∨ ∃ u, fg1 n (F 1) p = some u ∧ ¬ (F 4 1 ≠ 2 ∧ (1 ≤ u.1 ∧ u.1 ≤ 120) ∧ sp_wagL u.1 ∧ (F 4 1 = 0 ∨ F 6 2 = 0))) ∧ r = some (xa_i 0) ∧ ∃ (nu d5 w6 j4 : Nat → Int) (x : Int), ((∀ i, 0 ≤ d5 i ∧ d5 i ≤ 120) ∧ (∀ i, 0 ≤ w6 i ∧ w6 i ≤ 1) ∧ (∀ i, 0 ≤ j4 i ∧ j4 i ≤ 2)) ∧ ((∀ i, i < 2 → d5 i = F 5 i) ∧ (∀ i, i < 2 → w6 i = F 6 i) ∧ j4 0 = F 4 0) ∧ xM h' k (xa_uF (xa_uF (xa_uF (xa_uF F 13 nu) 5 d5) 6 w6) 4 j4) (xa_upf s 15 x))) ∧ h'.2 = h.2 ∧ ∀ i, (i < k ∨ k + 17 ≤ i) → h'.1 i = h.1 i) := by
  refine xa_enter (by decide +kernel) (Nat.le_of_ble_eq_true rfl) ?_
  refine xa_locals (ls' := [some (xa_r k), some (xa_i 1), none, none, none]) rfl ?_
  have hn : h.2 = h.2 := rfl
  have fr : ∀ i, (i < k ∨ k + 17 ≤ i) → h.1 i = h.1 i := fun _ _ => rfl
  obtain ⟨hM0, hM1, hM2, hM3, hM4, hM5, hM6, hM7, hM8, hM9, hM10, hM11, hM12, hM13, hM14, hM15, hM16, hMk, hMn⟩ := hM
  rw [hp] at hM0
  refine xa_aload_n (pc := 0) dX10_jointItem_0 rfl ?_
  refine xa_iconst (pc := 1) dX10_jointItem_1 ?_
  refine xa_callV (pc := 2) (as := [xa_i 1]) (rest := []) dX10_jointItem_2 ⟨qX10_figures.1, qX10_figures.2.1, qX10_figures.2.2, by decide, by decide⟩ lkRX10_87 imX10_figures seX10_figures rfl rfl (by omega) (by omega) hM0 rfl (Nat.le_of_ble_eq_true rfl) (Nat.zero_le _) (Nat.zero_le _) (c_figures1 _ n p F (xa_upf s 15 ((p : Nat) : Int)) hs0 hn9 hf rfl hp9 ⟨hM0, hM1, hM2, hM3, hM4, hM5, hM6, hM7, hM8, hM9, hM10, hM11, hM12, hM13, hM14, hM15, hM16, by omega, by omega⟩) (fun r h' hq => ?_)
  rcases hq with ⟨u, hu, rfl, hM, hqn, hqf⟩ | ⟨hu, rfl, nu, x, hM, hqn, hqf⟩
  · skip
    obtain ⟨hM0, hM1, hM2, hM3, hM4, hM5, hM6, hM7, hM8, hM9, hM10, hM11, hM12, hM13, hM14, hM15, hM16, hMk, hMn⟩ := hM
    have hM0 : h'.1 k = xa_o 10 [xa_i (s 0), xa_r (k + 1), xa_r (k + 2), xa_r (k + 3), xa_r (k + 4), xa_r (k + 5), xa_r (k + 6), xa_r (k + 7), xa_r (k + 8), xa_r (k + 9), xa_r (k + 10), xa_r (k + 11), xa_r (k + 12), xa_i (s 13), xa_i (s 14), xa_i ((u.2 + 1 : Nat) : Int), xa_r (k + 13), xa_i (s 17), xa_i (s 18), xa_i (s 19), xa_i (s 20), xa_r (k + 14), xa_r (k + 15), xa_i (s 23), xa_r (k + 16)] := hM0
    have hM1 : h'.1 (k + 1) = xa_a 120 (F 1) := hM1
    have hM2 : h'.1 (k + 2) = xa_a 2 (F 2) := hM2
    have hM3 : h'.1 (k + 3) = xa_a 18 (F 3) := hM3
    have hM4 : h'.1 (k + 4) = xa_a 2 (F 4) := hM4
    have hM5 : h'.1 (k + 5) = xa_a 4 (F 5) := hM5
    have hM6 : h'.1 (k + 6) = xa_a 4 (F 6) := hM6
    have hM7 : h'.1 (k + 7) = xa_a 2 (F 7) := hM7
    have hM8 : h'.1 (k + 8) = xa_a 2 (F 8) := hM8
    have hM9 : h'.1 (k + 9) = xa_a 12 (F 9) := hM9
    have hM10 : h'.1 (k + 10) = xa_a 720 (F 10) := hM10
    have hM11 : h'.1 (k + 11) = xa_a 3 (F 11) := hM11
    have hM12 : h'.1 (k + 12) = xa_a 360 (F 12) := hM12
    have hM13 : h'.1 (k + 13) = xa_a 3 (xa_upf (F 13) 0 u.1) := hM13
    have hM14 : h'.1 (k + 14) = xa_a 583200 (F 14) := hM14
    have hM15 : h'.1 (k + 15) = xa_a 583200 (F 15) := hM15
    have hM16 : h'.1 (k + 16) = xa_a 4 (F 16) := hM16
    have hn : h'.2 = h.2 := hqn.trans hn
    have fr : ∀ i, (i < k ∨ k + 17 ≤ i) → h'.1 i = h.1 i := fun i hi => (hqf i (by omega)).trans (fr i hi)
    have hub := fg1_b hu
    refine xa_if_eq (pc := 5) (tgt := 35) dX10_jointItem_5 (by decide) (by decide) (fun c_5 => ?_) (fun c_5 => ?_)
    · skip
      exfalso; omega
    · skip
      refine xa_aload_n (pc := 8) dX10_jointItem_8 rfl ?_
      refine xa_getfield (pc := 9) dX10_jointItem_9 flRX10_19 (by omega) (by omega) hM0 rfl ?_
      refine xa_iconst (pc := 12) dX10_jointItem_12 ?_
      refine xa_ialdw (pc := 13) 1 dX10_jointItem_13 (by omega) hM4 (by omega) (by omega) rfl ?_
      have b4_13 := i4 (1)
      refine xa_iconst (pc := 14) dX10_jointItem_14 ?_
      refine xa_icmp_eq (pc := 15) (tgt := 35) dX10_jointItem_15 (by decide) ⟨by omega, by omega⟩ (by decide) (fun c_15 => ?_) (fun c_15 => ?_)
      · skip
        refine xa_iconst (pc := 35) dX10_jointItem_35 ?_
        refine xa_ireturn (pc := 36) dX10_jointItem_36 rfl (Or.inl rfl) ?_
        exact ⟨Or.inr ⟨Or.inr ⟨u, hu, by unfold sp_wagL; omega⟩, rfl, (xa_upf (F 13) 0 u.1), (F 5), (F 6), (F 4), ((u.2 + 1 : Nat) : Int), ⟨i5, i6, i4⟩, ⟨fun _ _ => rfl, fun _ _ => rfl, rfl⟩, ⟨hM0, hM1, hM2, hM3, hM4, hM5, hM6, hM7, hM8, hM9, hM10, hM11, hM12, hM13, hM14, hM15, hM16, by omega, by omega⟩⟩, hn, fr⟩
      · skip
        refine xa_aload_n (pc := 18) dX10_jointItem_18 rfl ?_
        refine xa_getfield (pc := 19) dX10_jointItem_19 flRX10_46 (by omega) (by omega) hM0 rfl ?_
        refine xa_iconst (pc := 22) dX10_jointItem_22 ?_
        refine xa_ialdw (pc := 23) 0 dX10_jointItem_23 (by omega) hM13 (by omega) (by omega) rfl ?_
        refine xa_top (y := u.1) rfl ?_
        refine xa_i2l (pc := 24) dX10_jointItem_24 ⟨by omega, by omega⟩ ?_
        refine xa_lconst (pc := 25) (n := 1) dX10_jointItem_25 rfl ?_
        refine xa_ldc2 (pc := 26) (n := 120) dX10_jointItem_26 ctRX10_93 rfl ?_
        refine xa_callS (pc := 29) (as := [xa_l u.1, xa_l 1, xa_l 120]) (rest := []) dX10_jointItem_29 ⟨qX10_in.1, qX10_in.2.1, qX10_in.2.2, by decide, by decide⟩ lkRX10_65 smX10_in rfl rfl (Nat.le_of_ble_eq_true rfl) (Nat.zero_le _) (Nat.zero_le _) (c_in _ _ _ ⟨by omega, by omega⟩ ⟨by omega, by omega⟩ ⟨by omega, by omega⟩) (fun r h' hq => ?_)
        obtain ⟨rfl, hq⟩ := hq
        have hq := hq.symm
        subst hq
        refine xa_if_ne (pc := 32) (tgt := 37) dX10_jointItem_32 (by decide) xa_okb (fun c_32 => ?_) (fun c_32 => ?_)
        · have c_32 := xa_b1.mp c_32
          refine xa_aload_n (pc := 37) dX10_jointItem_37 rfl ?_
          refine xa_getfield (pc := 38) dX10_jointItem_38 flRX10_46 (by omega) (by omega) hM0 rfl ?_
          refine xa_iconst (pc := 41) dX10_jointItem_41 ?_
          refine xa_ialdw (pc := 42) 0 dX10_jointItem_42 (by omega) hM13 (by omega) (by omega) rfl ?_
          refine xa_top (y := u.1) rfl ?_
          refine xa_istoren (pc := 43) [some (xa_r k), some (xa_i 1), some (xa_i u.1), none, none] dX10_jointItem_43 (by decide) (Nat.le_of_ble_eq_true rfl) rfl rfl ?_
          refine xa_iload_n (pc := 44) dX10_jointItem_44 rfl ?_
          refine xa_bipush (pc := 45) dX10_jointItem_45 rfl ?_
          refine xa_icmp_gt (pc := 47) (tgt := 54) dX10_jointItem_47 (by decide) ⟨by omega, by omega⟩ (by decide) (fun c_47 => ?_) (fun c_47 => ?_)
          · skip
            refine xa_iconst (pc := 54) dX10_jointItem_54 ?_
            refine xa_istoren (pc := 55) [some (xa_r k), some (xa_i 1), some (xa_i u.1), some (xa_i 0), none] dX10_jointItem_55 (by decide) (Nat.le_of_ble_eq_true rfl) rfl rfl ?_
            refine xa_iload_n (pc := 56) dX10_jointItem_56 rfl ?_
            refine xa_if_eq (pc := 57) (tgt := 144) dX10_jointItem_57 (by decide) (by decide) (fun c_57 => ?_) (fun c_57 => ?_)
            · skip
              exfalso; omega
            · skip
              refine xa_iload_n (pc := 60) dX10_jointItem_60 rfl ?_
              refine xa_bipush (pc := 61) dX10_jointItem_61 rfl ?_
              refine xa_icmp_eq (pc := 63) (tgt := 108) dX10_jointItem_63 (by decide) ⟨by omega, by omega⟩ (by decide) (fun c_63 => ?_) (fun c_63 => ?_)
              · skip
                refine xa_iconst (pc := 108) dX10_jointItem_108 ?_
                refine xa_goto (pc := 109) (tgt := 113) dX10_jointItem_109 (by decide) ?_
                refine xa_istorew (pc := 113) [some (xa_r k), some (xa_i 1), some (xa_i u.1), some (xa_i 0), some (xa_i 1)] dX10_jointItem_113 (by decide) (Nat.le_of_ble_eq_true rfl) rfl rfl ?_
                exact c_jointTail (by omega) (by omega) hu i5 i6 i4 (by omega) (by omega) (by unfold sp_wagL; omega) hM0 hM1 hM2 hM3 hM4 hM5 hM6 hM7 hM8 hM9 hM10 hM11 hM12 hM13 hM14 hM15 hM16 hn fr
              · skip
                refine xa_iload_n (pc := 66) dX10_jointItem_66 rfl ?_
                refine xa_bipush (pc := 67) dX10_jointItem_67 rfl ?_
                refine xa_icmp_eq (pc := 69) (tgt := 108) dX10_jointItem_69 (by decide) ⟨by omega, by omega⟩ (by decide) (fun c_69 => ?_) (fun c_69 => ?_)
                · skip
                  refine xa_iconst (pc := 108) dX10_jointItem_108 ?_
                  refine xa_goto (pc := 109) (tgt := 113) dX10_jointItem_109 (by decide) ?_
                  refine xa_istorew (pc := 113) [some (xa_r k), some (xa_i 1), some (xa_i u.1), some (xa_i 0), some (xa_i 1)] dX10_jointItem_113 (by decide) (Nat.le_of_ble_eq_true rfl) rfl rfl ?_
                  exact c_jointTail (by omega) (by omega) hu i5 i6 i4 (by omega) (by omega) (by unfold sp_wagL; omega) hM0 hM1 hM2 hM3 hM4 hM5 hM6 hM7 hM8 hM9 hM10 hM11 hM12 hM13 hM14 hM15 hM16 hn fr
                · skip
                  refine xa_iload_n (pc := 72) dX10_jointItem_72 rfl ?_
                  refine xa_bipush (pc := 73) dX10_jointItem_73 rfl ?_
                  refine xa_icmp_eq (pc := 75) (tgt := 108) dX10_jointItem_75 (by decide) ⟨by omega, by omega⟩ (by decide) (fun c_75 => ?_) (fun c_75 => ?_)
                  · skip
                    refine xa_iconst (pc := 108) dX10_jointItem_108 ?_
                    refine xa_goto (pc := 109) (tgt := 113) dX10_jointItem_109 (by decide) ?_
                    refine xa_istorew (pc := 113) [some (xa_r k), some (xa_i 1), some (xa_i u.1), some (xa_i 0), some (xa_i 1)] dX10_jointItem_113 (by decide) (Nat.le_of_ble_eq_true rfl) rfl rfl ?_
                    exact c_jointTail (by omega) (by omega) hu i5 i6 i4 (by omega) (by omega) (by unfold sp_wagL; omega) hM0 hM1 hM2 hM3 hM4 hM5 hM6 hM7 hM8 hM9 hM10 hM11 hM12 hM13 hM14 hM15 hM16 hn fr
                  · skip
                    refine xa_iload_n (pc := 78) dX10_jointItem_78 rfl ?_
                    refine xa_bipush (pc := 79) dX10_jointItem_79 rfl ?_
                    refine xa_icmp_eq (pc := 81) (tgt := 108) dX10_jointItem_81 (by decide) ⟨by omega, by omega⟩ (by decide) (fun c_81 => ?_) (fun c_81 => ?_)
                    · skip
                      refine xa_iconst (pc := 108) dX10_jointItem_108 ?_
                      refine xa_goto (pc := 109) (tgt := 113) dX10_jointItem_109 (by decide) ?_
                      refine xa_istorew (pc := 113) [some (xa_r k), some (xa_i 1), some (xa_i u.1), some (xa_i 0), some (xa_i 1)] dX10_jointItem_113 (by decide) (Nat.le_of_ble_eq_true rfl) rfl rfl ?_
                      exact c_jointTail (by omega) (by omega) hu i5 i6 i4 (by omega) (by omega) (by unfold sp_wagL; omega) hM0 hM1 hM2 hM3 hM4 hM5 hM6 hM7 hM8 hM9 hM10 hM11 hM12 hM13 hM14 hM15 hM16 hn fr
                    · skip
                      refine xa_iload_n (pc := 84) dX10_jointItem_84 rfl ?_
                      refine xa_bipush (pc := 85) dX10_jointItem_85 rfl ?_
                      refine xa_icmp_eq (pc := 87) (tgt := 108) dX10_jointItem_87 (by decide) ⟨by omega, by omega⟩ (by decide) (fun c_87 => ?_) (fun c_87 => ?_)
                      · skip
                        refine xa_iconst (pc := 108) dX10_jointItem_108 ?_
                        refine xa_goto (pc := 109) (tgt := 113) dX10_jointItem_109 (by decide) ?_
                        refine xa_istorew (pc := 113) [some (xa_r k), some (xa_i 1), some (xa_i u.1), some (xa_i 0), some (xa_i 1)] dX10_jointItem_113 (by decide) (Nat.le_of_ble_eq_true rfl) rfl rfl ?_
                        exact c_jointTail (by omega) (by omega) hu i5 i6 i4 (by omega) (by omega) (by unfold sp_wagL; omega) hM0 hM1 hM2 hM3 hM4 hM5 hM6 hM7 hM8 hM9 hM10 hM11 hM12 hM13 hM14 hM15 hM16 hn fr
                      · skip
                        refine xa_iload_n (pc := 90) dX10_jointItem_90 rfl ?_
                        refine xa_bipush (pc := 91) dX10_jointItem_91 rfl ?_
                        refine xa_icmp_eq (pc := 93) (tgt := 108) dX10_jointItem_93 (by decide) ⟨by omega, by omega⟩ (by decide) (fun c_93 => ?_) (fun c_93 => ?_)
                        · skip
                          refine xa_iconst (pc := 108) dX10_jointItem_108 ?_
                          refine xa_goto (pc := 109) (tgt := 113) dX10_jointItem_109 (by decide) ?_
                          refine xa_istorew (pc := 113) [some (xa_r k), some (xa_i 1), some (xa_i u.1), some (xa_i 0), some (xa_i 1)] dX10_jointItem_113 (by decide) (Nat.le_of_ble_eq_true rfl) rfl rfl ?_
                          exact c_jointTail (by omega) (by omega) hu i5 i6 i4 (by omega) (by omega) (by unfold sp_wagL; omega) hM0 hM1 hM2 hM3 hM4 hM5 hM6 hM7 hM8 hM9 hM10 hM11 hM12 hM13 hM14 hM15 hM16 hn fr
                        · skip
                          refine xa_iload_n (pc := 96) dX10_jointItem_96 rfl ?_
                          refine xa_bipush (pc := 97) dX10_jointItem_97 rfl ?_
                          refine xa_icmp_eq (pc := 99) (tgt := 108) dX10_jointItem_99 (by decide) ⟨by omega, by omega⟩ (by decide) (fun c_99 => ?_) (fun c_99 => ?_)
                          · skip
                            refine xa_iconst (pc := 108) dX10_jointItem_108 ?_
                            refine xa_goto (pc := 109) (tgt := 113) dX10_jointItem_109 (by decide) ?_
                            refine xa_istorew (pc := 113) [some (xa_r k), some (xa_i 1), some (xa_i u.1), some (xa_i 0), some (xa_i 1)] dX10_jointItem_113 (by decide) (Nat.le_of_ble_eq_true rfl) rfl rfl ?_
                            exact c_jointTail (by omega) (by omega) hu i5 i6 i4 (by omega) (by omega) (by unfold sp_wagL; omega) hM0 hM1 hM2 hM3 hM4 hM5 hM6 hM7 hM8 hM9 hM10 hM11 hM12 hM13 hM14 hM15 hM16 hn fr
                          · skip
                            refine xa_iload_n (pc := 102) dX10_jointItem_102 rfl ?_
                            refine xa_bipush (pc := 103) dX10_jointItem_103 rfl ?_
                            refine xa_icmp_ne (pc := 105) (tgt := 112) dX10_jointItem_105 (by decide) ⟨by omega, by omega⟩ (by decide) (fun c_105 => ?_) (fun c_105 => ?_)
                            · skip
                              refine xa_iconst (pc := 112) dX10_jointItem_112 ?_
                              refine xa_istorew (pc := 113) [some (xa_r k), some (xa_i 1), some (xa_i u.1), some (xa_i 0), some (xa_i 0)] dX10_jointItem_113 (by decide) (Nat.le_of_ble_eq_true rfl) rfl rfl ?_
                              exact c_jointTail (by omega) (by omega) hu i5 i6 i4 (by omega) (by omega) (by unfold sp_wagL; omega) hM0 hM1 hM2 hM3 hM4 hM5 hM6 hM7 hM8 hM9 hM10 hM11 hM12 hM13 hM14 hM15 hM16 hn fr
                            · skip
                              refine xa_iconst (pc := 108) dX10_jointItem_108 ?_
                              refine xa_goto (pc := 109) (tgt := 113) dX10_jointItem_109 (by decide) ?_
                              refine xa_istorew (pc := 113) [some (xa_r k), some (xa_i 1), some (xa_i u.1), some (xa_i 0), some (xa_i 1)] dX10_jointItem_113 (by decide) (Nat.le_of_ble_eq_true rfl) rfl rfl ?_
                              exact c_jointTail (by omega) (by omega) hu i5 i6 i4 (by omega) (by omega) (by unfold sp_wagL; omega) hM0 hM1 hM2 hM3 hM4 hM5 hM6 hM7 hM8 hM9 hM10 hM11 hM12 hM13 hM14 hM15 hM16 hn fr
          · skip
            refine xa_iconst (pc := 50) dX10_jointItem_50 ?_
            refine xa_goto (pc := 51) (tgt := 55) dX10_jointItem_51 (by decide) ?_
            refine xa_istoren (pc := 55) [some (xa_r k), some (xa_i 1), some (xa_i u.1), some (xa_i 1), none] dX10_jointItem_55 (by decide) (Nat.le_of_ble_eq_true rfl) rfl rfl ?_
            refine xa_iload_n (pc := 56) dX10_jointItem_56 rfl ?_
            refine xa_if_eq (pc := 57) (tgt := 144) dX10_jointItem_57 (by decide) (by decide) (fun c_57 => ?_) (fun c_57 => ?_)
            · skip
              exfalso; omega
            · skip
              refine xa_iload_n (pc := 60) dX10_jointItem_60 rfl ?_
              refine xa_bipush (pc := 61) dX10_jointItem_61 rfl ?_
              refine xa_icmp_eq (pc := 63) (tgt := 108) dX10_jointItem_63 (by decide) ⟨by omega, by omega⟩ (by decide) (fun c_63 => ?_) (fun c_63 => ?_)
              · skip
                refine xa_iconst (pc := 108) dX10_jointItem_108 ?_
                refine xa_goto (pc := 109) (tgt := 113) dX10_jointItem_109 (by decide) ?_
                refine xa_istorew (pc := 113) [some (xa_r k), some (xa_i 1), some (xa_i u.1), some (xa_i 1), some (xa_i 1)] dX10_jointItem_113 (by decide) (Nat.le_of_ble_eq_true rfl) rfl rfl ?_
                exact c_jointTail (by omega) (by omega) hu i5 i6 i4 (by omega) (by omega) (by unfold sp_wagL; omega) hM0 hM1 hM2 hM3 hM4 hM5 hM6 hM7 hM8 hM9 hM10 hM11 hM12 hM13 hM14 hM15 hM16 hn fr
              · skip
                refine xa_iload_n (pc := 66) dX10_jointItem_66 rfl ?_
                refine xa_bipush (pc := 67) dX10_jointItem_67 rfl ?_
                refine xa_icmp_eq (pc := 69) (tgt := 108) dX10_jointItem_69 (by decide) ⟨by omega, by omega⟩ (by decide) (fun c_69 => ?_) (fun c_69 => ?_)
                · skip
                  refine xa_iconst (pc := 108) dX10_jointItem_108 ?_
                  refine xa_goto (pc := 109) (tgt := 113) dX10_jointItem_109 (by decide) ?_
                  refine xa_istorew (pc := 113) [some (xa_r k), some (xa_i 1), some (xa_i u.1), some (xa_i 1), some (xa_i 1)] dX10_jointItem_113 (by decide) (Nat.le_of_ble_eq_true rfl) rfl rfl ?_
                  exact c_jointTail (by omega) (by omega) hu i5 i6 i4 (by omega) (by omega) (by unfold sp_wagL; omega) hM0 hM1 hM2 hM3 hM4 hM5 hM6 hM7 hM8 hM9 hM10 hM11 hM12 hM13 hM14 hM15 hM16 hn fr
                · skip
                  refine xa_iload_n (pc := 72) dX10_jointItem_72 rfl ?_
                  refine xa_bipush (pc := 73) dX10_jointItem_73 rfl ?_
                  refine xa_icmp_eq (pc := 75) (tgt := 108) dX10_jointItem_75 (by decide) ⟨by omega, by omega⟩ (by decide) (fun c_75 => ?_) (fun c_75 => ?_)
                  · skip
                    refine xa_iconst (pc := 108) dX10_jointItem_108 ?_
                    refine xa_goto (pc := 109) (tgt := 113) dX10_jointItem_109 (by decide) ?_
                    refine xa_istorew (pc := 113) [some (xa_r k), some (xa_i 1), some (xa_i u.1), some (xa_i 1), some (xa_i 1)] dX10_jointItem_113 (by decide) (Nat.le_of_ble_eq_true rfl) rfl rfl ?_
                    exact c_jointTail (by omega) (by omega) hu i5 i6 i4 (by omega) (by omega) (by unfold sp_wagL; omega) hM0 hM1 hM2 hM3 hM4 hM5 hM6 hM7 hM8 hM9 hM10 hM11 hM12 hM13 hM14 hM15 hM16 hn fr
                  · skip
                    refine xa_iload_n (pc := 78) dX10_jointItem_78 rfl ?_
                    refine xa_bipush (pc := 79) dX10_jointItem_79 rfl ?_
                    refine xa_icmp_eq (pc := 81) (tgt := 108) dX10_jointItem_81 (by decide) ⟨by omega, by omega⟩ (by decide) (fun c_81 => ?_) (fun c_81 => ?_)
                    · skip
                      refine xa_iconst (pc := 108) dX10_jointItem_108 ?_
                      refine xa_goto (pc := 109) (tgt := 113) dX10_jointItem_109 (by decide) ?_
                      refine xa_istorew (pc := 113) [some (xa_r k), some (xa_i 1), some (xa_i u.1), some (xa_i 1), some (xa_i 1)] dX10_jointItem_113 (by decide) (Nat.le_of_ble_eq_true rfl) rfl rfl ?_
                      exact c_jointTail (by omega) (by omega) hu i5 i6 i4 (by omega) (by omega) (by unfold sp_wagL; omega) hM0 hM1 hM2 hM3 hM4 hM5 hM6 hM7 hM8 hM9 hM10 hM11 hM12 hM13 hM14 hM15 hM16 hn fr
                    · skip
                      refine xa_iload_n (pc := 84) dX10_jointItem_84 rfl ?_
                      refine xa_bipush (pc := 85) dX10_jointItem_85 rfl ?_
                      refine xa_icmp_eq (pc := 87) (tgt := 108) dX10_jointItem_87 (by decide) ⟨by omega, by omega⟩ (by decide) (fun c_87 => ?_) (fun c_87 => ?_)
                      · skip
                        refine xa_iconst (pc := 108) dX10_jointItem_108 ?_
                        refine xa_goto (pc := 109) (tgt := 113) dX10_jointItem_109 (by decide) ?_
                        refine xa_istorew (pc := 113) [some (xa_r k), some (xa_i 1), some (xa_i u.1), some (xa_i 1), some (xa_i 1)] dX10_jointItem_113 (by decide) (Nat.le_of_ble_eq_true rfl) rfl rfl ?_
                        exact c_jointTail (by omega) (by omega) hu i5 i6 i4 (by omega) (by omega) (by unfold sp_wagL; omega) hM0 hM1 hM2 hM3 hM4 hM5 hM6 hM7 hM8 hM9 hM10 hM11 hM12 hM13 hM14 hM15 hM16 hn fr
                      · skip
                        refine xa_iload_n (pc := 90) dX10_jointItem_90 rfl ?_
                        refine xa_bipush (pc := 91) dX10_jointItem_91 rfl ?_
                        refine xa_icmp_eq (pc := 93) (tgt := 108) dX10_jointItem_93 (by decide) ⟨by omega, by omega⟩ (by decide) (fun c_93 => ?_) (fun c_93 => ?_)
                        · skip
                          refine xa_iconst (pc := 108) dX10_jointItem_108 ?_
                          refine xa_goto (pc := 109) (tgt := 113) dX10_jointItem_109 (by decide) ?_
                          refine xa_istorew (pc := 113) [some (xa_r k), some (xa_i 1), some (xa_i u.1), some (xa_i 1), some (xa_i 1)] dX10_jointItem_113 (by decide) (Nat.le_of_ble_eq_true rfl) rfl rfl ?_
                          exact c_jointTail (by omega) (by omega) hu i5 i6 i4 (by omega) (by omega) (by unfold sp_wagL; omega) hM0 hM1 hM2 hM3 hM4 hM5 hM6 hM7 hM8 hM9 hM10 hM11 hM12 hM13 hM14 hM15 hM16 hn fr
                        · skip
                          refine xa_iload_n (pc := 96) dX10_jointItem_96 rfl ?_
                          refine xa_bipush (pc := 97) dX10_jointItem_97 rfl ?_
                          refine xa_icmp_eq (pc := 99) (tgt := 108) dX10_jointItem_99 (by decide) ⟨by omega, by omega⟩ (by decide) (fun c_99 => ?_) (fun c_99 => ?_)
                          · skip
                            refine xa_iconst (pc := 108) dX10_jointItem_108 ?_
                            refine xa_goto (pc := 109) (tgt := 113) dX10_jointItem_109 (by decide) ?_
                            refine xa_istorew (pc := 113) [some (xa_r k), some (xa_i 1), some (xa_i u.1), some (xa_i 1), some (xa_i 1)] dX10_jointItem_113 (by decide) (Nat.le_of_ble_eq_true rfl) rfl rfl ?_
                            exact c_jointTail (by omega) (by omega) hu i5 i6 i4 (by omega) (by omega) (by unfold sp_wagL; omega) hM0 hM1 hM2 hM3 hM4 hM5 hM6 hM7 hM8 hM9 hM10 hM11 hM12 hM13 hM14 hM15 hM16 hn fr
                          · skip
                            refine xa_iload_n (pc := 102) dX10_jointItem_102 rfl ?_
                            refine xa_bipush (pc := 103) dX10_jointItem_103 rfl ?_
                            refine xa_icmp_ne (pc := 105) (tgt := 112) dX10_jointItem_105 (by decide) ⟨by omega, by omega⟩ (by decide) (fun c_105 => ?_) (fun c_105 => ?_)
                            · skip
                              refine xa_iconst (pc := 112) dX10_jointItem_112 ?_
                              refine xa_istorew (pc := 113) [some (xa_r k), some (xa_i 1), some (xa_i u.1), some (xa_i 1), some (xa_i 0)] dX10_jointItem_113 (by decide) (Nat.le_of_ble_eq_true rfl) rfl rfl ?_
                              exact c_jointTail (by omega) (by omega) hu i5 i6 i4 (by omega) (by omega) (by unfold sp_wagL; omega) hM0 hM1 hM2 hM3 hM4 hM5 hM6 hM7 hM8 hM9 hM10 hM11 hM12 hM13 hM14 hM15 hM16 hn fr
                            · skip
                              refine xa_iconst (pc := 108) dX10_jointItem_108 ?_
                              refine xa_goto (pc := 109) (tgt := 113) dX10_jointItem_109 (by decide) ?_
                              refine xa_istorew (pc := 113) [some (xa_r k), some (xa_i 1), some (xa_i u.1), some (xa_i 1), some (xa_i 1)] dX10_jointItem_113 (by decide) (Nat.le_of_ble_eq_true rfl) rfl rfl ?_
                              exact c_jointTail (by omega) (by omega) hu i5 i6 i4 (by omega) (by omega) (by unfold sp_wagL; omega) hM0 hM1 hM2 hM3 hM4 hM5 hM6 hM7 hM8 hM9 hM10 hM11 hM12 hM13 hM14 hM15 hM16 hn fr
        · have c_32 := xa_b0.mp c_32
          refine xa_iconst (pc := 35) dX10_jointItem_35 ?_
          refine xa_ireturn (pc := 36) dX10_jointItem_36 rfl (Or.inl rfl) ?_
          exact ⟨Or.inr ⟨Or.inr ⟨u, hu, by unfold sp_wagL; omega⟩, rfl, (xa_upf (F 13) 0 u.1), (F 5), (F 6), (F 4), ((u.2 + 1 : Nat) : Int), ⟨i5, i6, i4⟩, ⟨fun _ _ => rfl, fun _ _ => rfl, rfl⟩, ⟨hM0, hM1, hM2, hM3, hM4, hM5, hM6, hM7, hM8, hM9, hM10, hM11, hM12, hM13, hM14, hM15, hM16, by omega, by omega⟩⟩, hn, fr⟩
  · skip
    obtain ⟨hM0, hM1, hM2, hM3, hM4, hM5, hM6, hM7, hM8, hM9, hM10, hM11, hM12, hM13, hM14, hM15, hM16, hMk, hMn⟩ := hM
    have hM0 : h'.1 k = xa_o 10 [xa_i (s 0), xa_r (k + 1), xa_r (k + 2), xa_r (k + 3), xa_r (k + 4), xa_r (k + 5), xa_r (k + 6), xa_r (k + 7), xa_r (k + 8), xa_r (k + 9), xa_r (k + 10), xa_r (k + 11), xa_r (k + 12), xa_i (s 13), xa_i (s 14), xa_i x, xa_r (k + 13), xa_i (s 17), xa_i (s 18), xa_i (s 19), xa_i (s 20), xa_r (k + 14), xa_r (k + 15), xa_i (s 23), xa_r (k + 16)] := hM0
    have hM1 : h'.1 (k + 1) = xa_a 120 (F 1) := hM1
    have hM2 : h'.1 (k + 2) = xa_a 2 (F 2) := hM2
    have hM3 : h'.1 (k + 3) = xa_a 18 (F 3) := hM3
    have hM4 : h'.1 (k + 4) = xa_a 2 (F 4) := hM4
    have hM5 : h'.1 (k + 5) = xa_a 4 (F 5) := hM5
    have hM6 : h'.1 (k + 6) = xa_a 4 (F 6) := hM6
    have hM7 : h'.1 (k + 7) = xa_a 2 (F 7) := hM7
    have hM8 : h'.1 (k + 8) = xa_a 2 (F 8) := hM8
    have hM9 : h'.1 (k + 9) = xa_a 12 (F 9) := hM9
    have hM10 : h'.1 (k + 10) = xa_a 720 (F 10) := hM10
    have hM11 : h'.1 (k + 11) = xa_a 3 (F 11) := hM11
    have hM12 : h'.1 (k + 12) = xa_a 360 (F 12) := hM12
    have hM13 : h'.1 (k + 13) = xa_a 3 nu := hM13
    have hM14 : h'.1 (k + 14) = xa_a 583200 (F 14) := hM14
    have hM15 : h'.1 (k + 15) = xa_a 583200 (F 15) := hM15
    have hM16 : h'.1 (k + 16) = xa_a 4 (F 16) := hM16
    have hn : h'.2 = h.2 := hqn.trans hn
    have fr : ∀ i, (i < k ∨ k + 17 ≤ i) → h'.1 i = h.1 i := fun i hi => (hqf i (by omega)).trans (fr i hi)
    refine xa_if_eq (pc := 5) (tgt := 35) dX10_jointItem_5 (by decide) (by decide) (fun c_5 => ?_) (fun c_5 => ?_)
    · skip
      refine xa_iconst (pc := 35) dX10_jointItem_35 ?_
      refine xa_ireturn (pc := 36) dX10_jointItem_36 rfl (Or.inl rfl) ?_
      exact ⟨Or.inr ⟨Or.inl hu, rfl, nu, (F 5), (F 6), (F 4), x, ⟨i5, i6, i4⟩, ⟨fun _ _ => rfl, fun _ _ => rfl, rfl⟩, ⟨hM0, hM1, hM2, hM3, hM4, hM5, hM6, hM7, hM8, hM9, hM10, hM11, hM12, hM13, hM14, hM15, hM16, by omega, by omega⟩⟩, hn, fr⟩
    · skip
      exfalso; omega
