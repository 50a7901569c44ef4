/-! The model's reading -/
theorem sm_by {n : Nat} {f : Nat → Int} (j : Nat) (z : Int) (hz : z = (n : Int)) : (if ((j : Nat) : Int) < z then f ((j : Nat) : Int).toNat else 0) = sp_at n f ((j : Nat) : Int) ∨ (if ((j : Nat) : Int) < z then f ((j : Nat) : Int).toNat else 0) = 0 ∧ sp_at n f ((j : Nat) : Int) = -1 := by
  subst hz
  unfold sp_at
  by_cases h : ((j : Nat) : Int) < (n : Int)
  · rw [if_pos h, if_pos ⟨by omega, h⟩]
    exact Or.inl rfl
  · rw [if_neg h, if_neg (fun q => h q.2)]
    exact Or.inr ⟨rfl, rfl⟩
theorem c_mByteN {G : xa_G} {h : xa_H} (k n p : Nat) (F : Nat → Nat → Int) (s : Nat → Int) (hp : p ≤ 1000) (hs0 : s 0 = (n : Int)) (hn9 : n ≤ 120) (hM : xM h k F s)  : xa_M G mX10_byteAt [xa_r k, xa_i ((p : Nat) : Int)] h 0 0 (fun r h' => (∃ y, r = some (xa_i y) ∧ (y = sp_at n (F 1) ((p : Nat) : Int) ∨ y = 0 ∧ sp_at n (F 1) ((p : Nat) : Int) = -1)) ∧ h' = h) := by
  refine xa_enter (by decide +kernel) (Nat.le_of_ble_eq_true rfl) ?_
  refine xa_locals (ls' := [some (xa_r k), some (xa_i ((p : Nat) : Int))]) rfl ?_
  obtain ⟨hM0, hM1, hM2, hM3, hM4, hM5, hM6, hM7, hM8, hM9, hM10, hM11, hM12, hM13, hM14, hM15, hM16, hMk, hMn⟩ := hM
  rw [hs0] at hM0
  refine xa_iload_n (pc := 0) dX10_byteAt_0 rfl ?_
  refine xa_aload_n (pc := 1) dX10_byteAt_1 rfl ?_
  refine xa_getfield (pc := 2) dX10_byteAt_2 flRX10_69 (by omega) (by omega) hM0 rfl ?_
  refine xa_icmp_ge (pc := 5) (tgt := 17) dX10_byteAt_5 (by decide) ⟨by omega, by omega⟩ ⟨by omega, by omega⟩ (fun c_5 => ?_) (fun c_5 => ?_)
  · skip
    refine xa_iconst (pc := 17) dX10_byteAt_17 ?_
    refine xa_ireturn (pc := 18) dX10_byteAt_18 rfl trivial ?_
    exact ⟨⟨_, rfl, by first | exact Or.inl (if_pos (show 0 ≤ ((p : Nat) : Int) ∧ ((p : Nat) : Int) < (n : Int) by omega)).symm | exact Or.inr ⟨rfl, by unfold sp_at; exact if_neg (by omega)⟩⟩, rfl⟩
  · skip
    refine xa_aload_n (pc := 8) dX10_byteAt_8 rfl ?_
    refine xa_getfield (pc := 9) dX10_byteAt_9 flRX10_7 (by omega) (by omega) hM0 rfl ?_
    refine xa_iload_n (pc := 12) dX10_byteAt_12 rfl ?_
    refine xa_ialdw (pc := 13) p dX10_byteAt_13 (by omega) hM1 (by omega) (by omega) (Int.toNat_natCast _) ?_
    refine xa_goto (pc := 14) (tgt := 18) dX10_byteAt_14 (by decide) ?_
    refine xa_ireturn (pc := 18) dX10_byteAt_18 rfl trivial ?_
    exact ⟨⟨_, rfl, by first | exact Or.inl (if_pos (show 0 ≤ ((p : Nat) : Int) ∧ ((p : Nat) : Int) < (n : Int) by omega)).symm | exact Or.inr ⟨rfl, by unfold sp_at; exact if_neg (by omega)⟩⟩, rfl⟩
theorem c_dig_loop {G : xa_G} {Z : xa_Zt} {h0 : xa_H} {k n a : Nat} {F : Nat → Nat → Int} {s : Nat → Int} {mn kk L : Int} (hk : 2 ≤ k) (hs0 : s 0 = (n : Int)) (hn9 : n ≤ 120) (hf : ∀ i, 0 ≤ F 1 i ∧ F 1 i ≤ 255) (ha : a ≤ 300) (K : ∀ (m : Nat) (h : xa_H), m ≤ 5 → (∀ j, j < m → sp_isd n (F 1) (a + j)) → (m = 5 ∨ ¬ sp_isd n (F 1) (a + m)) → xM h k F (xa_upf s 15 ((a + m : Nat) : Int)) → h.2 = h0.2 → (∀ i, i ≠ k → h.1 i = h0.1 i) → xa_W G mX10_figures Z 112 [some (xa_r k), some (xa_i mn), some (xa_i kk), some (xa_i L), some (xa_i ((m : Nat) : Int)), some (xa_i (sp_val n (F 1) a m))] [] h 0 0) : ∀ (d m : Nat) (h : xa_H), 5 - m < d → m ≤ 5 → (∀ j, j < m → sp_isd n (F 1) (a + j)) → xM h k F (xa_upf s 15 ((a + m : Nat) : Int)) → h.2 = h0.2 → (∀ i, i ≠ k → h.1 i = h0.1 i) → xa_W G mX10_figures Z 50 [some (xa_r k), some (xa_i mn), some (xa_i kk), some (xa_i L), some (xa_i ((m : Nat) : Int)), some (xa_i (sp_val n (F 1) a m))] [] h 0 0 := by
  intro d
  induction d with
  | zero => intros; exfalso; omega
  | succ d ih =>
    intro m h hd hm hdig hM hn fr
    obtain ⟨hM0, hM1, hM2, hM3, hM4, hM5, hM6, hM7, hM8, hM9, hM10, hM11, hM12, hM13, hM14, hM15, hM16, hMk, hMn⟩ := hM
    have hM0 : h.1 k = xa_o 10 [xa_i (s 0), xa_r (k + 1), xa_r (k + 2), xa_r (k + 3), xa_r (k + 4), xa_r (k + 5), xa_r (k + 6), xa_r (k + 7), xa_r (k + 8), xa_r (k + 9), xa_r (k + 10), xa_r (k + 11), xa_r (k + 12), xa_i (s 13), xa_i (s 14), xa_i ((a + m : Nat) : Int), xa_r (k + 13), xa_i (s 17), xa_i (s 18), xa_i (s 19), xa_i (s 20), xa_r (k + 14), xa_r (k + 15), xa_i (s 23), xa_r (k + 16)] := hM0
    have hM1 : h.1 (k + 1) = xa_a 120 (F 1) := hM1
    have hM2 : h.1 (k + 2) = xa_a 2 (F 2) := hM2
    have hM3 : h.1 (k + 3) = xa_a 18 (F 3) := hM3
    have hM4 : h.1 (k + 4) = xa_a 2 (F 4) := hM4
    have hM5 : h.1 (k + 5) = xa_a 4 (F 5) := hM5
    have hM6 : h.1 (k + 6) = xa_a 4 (F 6) := hM6
    have hM7 : h.1 (k + 7) = xa_a 2 (F 7) := hM7
    have hM8 : h.1 (k + 8) = xa_a 2 (F 8) := hM8
    have hM9 : h.1 (k + 9) = xa_a 12 (F 9) := hM9
    have hM10 : h.1 (k + 10) = xa_a 720 (F 10) := hM10
    have hM11 : h.1 (k + 11) = xa_a 3 (F 11) := hM11
    have hM12 : h.1 (k + 12) = xa_a 360 (F 12) := hM12
    have hM13 : h.1 (k + 13) = xa_a 3 (F 13) := hM13
    have hM14 : h.1 (k + 14) = xa_a 583200 (F 14) := hM14
    have hM15 : h.1 (k + 15) = xa_a 583200 (F 15) := hM15
    have hM16 : h.1 (k + 16) = xa_a 4 (F 16) := hM16
    have hvb : m ≤ 4 → 0 ≤ sp_val n (F 1) a m ∧ sp_val n (F 1) a m ≤ 9999 := fun q => sp_val_b q hdig
    have hv5 := sp_val_p n (F 1) a m hdig
    have hv6 : (10 : Int) ^ m ≤ 100000 := by
      have e : m = 0 ∨ m = 1 ∨ m = 2 ∨ m = 3 ∨ m = 4 ∨ m = 5 := by omega
      rcases e with rfl | rfl | rfl | rfl | rfl | rfl <;> decide
    refine xa_aload_n (pc := 50) dX10_figures_50 rfl ?_
    refine xa_aload_n (pc := 51) dX10_figures_51 rfl ?_
    refine xa_getfield (pc := 52) dX10_figures_52 flRX10_74 (by omega) (by omega) hM0 rfl ?_
    refine xa_callV (pc := 55) (as := [xa_i ((a + m : Nat) : Int)]) (rest := []) dX10_figures_55 ⟨qX10_byteAt.1, qX10_byteAt.2.1, qX10_byteAt.2.2, by decide, by decide⟩ lkRX10_77 imX10_byteAt seX10_byteAt rfl rfl (by omega) (by omega) hM0 rfl (Nat.le_of_ble_eq_true rfl) (Nat.zero_le _) (Nat.zero_le _) (c_mByteN _ n (a + m) F (xa_upf s 15 ((a + m : Nat) : Int)) (by omega) hs0 hn9 ⟨hM0, hM1, hM2, hM3, hM4, hM5, hM6, hM7, hM8, hM9, hM10, hM11, hM12, hM13, hM14, hM15, hM16, by omega, by omega⟩) (fun r h' hq => ?_)
    obtain ⟨⟨y55_1, rfl, by55_1⟩, hq⟩ := hq
    have by55_1 : y55_1 = sp_at n (F 1) ((a + m : Nat) : Int) ∨ y55_1 = 0 ∧ sp_at n (F 1) ((a + m : Nat) : Int) = -1 := by55_1
    have hq := hq.symm
    subst hq
    have ay55_1 := sp_at_b (n := n) hf ((a + m : Nat) : Int)
    refine xa_i2l (pc := 58) dX10_figures_58 ⟨by omega, by omega⟩ ?_
    refine xa_ldc2 (pc := 59) (n := 48) dX10_figures_59 ctRX10_81 rfl ?_
    refine xa_ldc2 (pc := 62) (n := 57) dX10_figures_62 ctRX10_83 rfl ?_
    refine xa_callS (pc := 65) (as := [xa_l y55_1, xa_l 48, xa_l 57]) (rest := []) dX10_figures_65 ⟨qX10_in.1, qX10_in.2.1, qX10_in.2.2, by decide, by decide⟩ lkRX10_65 smX10_in rfl rfl (Nat.le_of_ble_eq_true rfl) (Nat.zero_le _) (Nat.zero_le _) (c_in _ _ _ ⟨by omega, by omega⟩ ⟨by omega, by omega⟩ ⟨by omega, by omega⟩) (fun r h' hq => ?_)
    obtain ⟨rfl, hq⟩ := hq
    have hq := hq.symm
    subst hq
    refine xa_if_eq (pc := 68) (tgt := 112) dX10_figures_68 (by decide) xa_okb (fun c_68 => ?_) (fun c_68 => ?_)
    · have c_68 := xa_b0.mp c_68
      exact K m _ (by omega) hdig (by first | (left; omega) | (right; intro z; unfold sp_isd at z; omega)) ⟨hM0, hM1, hM2, hM3, hM4, hM5, hM6, hM7, hM8, hM9, hM10, hM11, hM12, hM13, hM14, hM15, hM16, by omega, by omega⟩ hn fr
    · have c_68 := xa_b1.mp c_68
      refine xa_iload (pc := 71) dX10_figures_71 rfl ?_
      refine xa_iconst (pc := 73) dX10_figures_73 ?_
      refine xa_icmp_ge (pc := 74) (tgt := 112) dX10_figures_74 (by decide) ⟨by omega, by omega⟩ (by decide) (fun c_74 => ?_) (fun c_74 => ?_)
      · skip
        exact K m _ (by omega) hdig (by first | (left; omega) | (right; intro z; unfold sp_isd at z; omega)) ⟨hM0, hM1, hM2, hM3, hM4, hM5, hM6, hM7, hM8, hM9, hM10, hM11, hM12, hM13, hM14, hM15, hM16, by omega, by omega⟩ hn fr
      · skip
        refine xa_bipush (pc := 77) dX10_figures_77 rfl ?_
        refine xa_iload (pc := 79) dX10_figures_79 rfl ?_
        refine xa_imul (pc := 81) dX10_figures_81 ?_
        refine xa_aload_n (pc := 82) dX10_figures_82 rfl ?_
        refine xa_aload_n (pc := 83) dX10_figures_83 rfl ?_
        refine xa_getfield (pc := 84) dX10_figures_84 flRX10_74 (by omega) (by omega) hM0 rfl ?_
        refine xa_callV (pc := 87) (as := [xa_i ((a + m : Nat) : Int)]) (rest := [xa_i (10 * (sp_val n (F 1) a m))]) dX10_figures_87 ⟨qX10_byteAt.1, qX10_byteAt.2.1, qX10_byteAt.2.2, by decide, by decide⟩ lkRX10_77 imX10_byteAt seX10_byteAt rfl rfl (by omega) (by omega) hM0 rfl (Nat.le_of_ble_eq_true rfl) (Nat.zero_le _) (Nat.zero_le _) (c_mByteN _ n (a + m) F (xa_upf s 15 ((a + m : Nat) : Int)) (by omega) hs0 hn9 ⟨hM0, hM1, hM2, hM3, hM4, hM5, hM6, hM7, hM8, hM9, hM10, hM11, hM12, hM13, hM14, hM15, hM16, by omega, by omega⟩) (fun r h' hq => ?_)
        obtain ⟨⟨y87_2, rfl, by87_2⟩, hq⟩ := hq
        have by87_2 : y87_2 = sp_at n (F 1) ((a + m : Nat) : Int) ∨ y87_2 = 0 ∧ sp_at n (F 1) ((a + m : Nat) : Int) = -1 := by87_2
        have hq := hq.symm
        subst hq
        have ay87_2 := sp_at_b (n := n) hf ((a + m : Nat) : Int)
        refine xa_iadd (pc := 90) dX10_figures_90 ?_
        refine xa_bipush (pc := 91) dX10_figures_91 rfl ?_
        refine xa_isub (pc := 93) dX10_figures_93 ?_
        refine xa_top (y := sp_val n (F 1) a (m + 1)) (by show ((10 * (sp_val n (F 1) a m)) + y87_2) - 48 = 10 * sp_val n (F 1) a m + sp_at n (F 1) ((a + m : Nat) : Int) - 48; omega) ?_
        refine xa_istorew (pc := 94) [some (xa_r k), some (xa_i mn), some (xa_i kk), some (xa_i L), some (xa_i ((m : Nat) : Int)), some (xa_i (sp_val n (F 1) a (m + 1)))] dX10_figures_94 (by decide) (Nat.le_of_ble_eq_true rfl) rfl rfl ?_
        refine xa_iincw (pc := 96) (y := ((m + 1 : Nat) : Int)) [some (xa_r k), some (xa_i mn), some (xa_i kk), some (xa_i L), some (xa_i ((m + 1 : Nat) : Int)), some (xa_i (sp_val n (F 1) a (m + 1)))] dX10_figures_96 (by decide) rfl rfl (by omega) rfl ?_
        refine xa_aload_n (pc := 99) dX10_figures_99 rfl ?_
        refine xa_dup (pc := 100) dX10_figures_100 rfl ?_
        refine xa_getfield (pc := 101) dX10_figures_101 flRX10_74 (by omega) (by omega) hM0 rfl ?_
        refine xa_iconst (pc := 104) dX10_figures_104 ?_
        refine xa_iadd (pc := 105) dX10_figures_105 ?_
        refine xa_top (y := ((a + (m + 1) : Nat) : Int)) (by omega) ?_
        refine xa_putw (pc := 106) [xa_i (s 0), xa_r (k + 1), xa_r (k + 2), xa_r (k + 3), xa_r (k + 4), xa_r (k + 5), xa_r (k + 6), xa_r (k + 7), xa_r (k + 8), xa_r (k + 9), xa_r (k + 10), xa_r (k + 11), xa_r (k + 12), xa_i (s 13), xa_i (s 14), xa_i ((a + (m + 1) : Nat) : Int), xa_r (k + 13), xa_i (s 17), xa_i (s 18), xa_i (s 19), xa_i (s 20), xa_r (k + 14), xa_r (k + 15), xa_i (s 23), xa_r (k + 16)] dX10_figures_106 flRX10_74 plX10_15 (by omega) (by omega) hM0 trivial rfl (fun h3 nh3 ch3 oh3 => ?_)
        have hM0 : h3.1 k = xa_o 10 [xa_i (s 0), xa_r (k + 1), xa_r (k + 2), xa_r (k + 3), xa_r (k + 4), xa_r (k + 5), xa_r (k + 6), xa_r (k + 7), xa_r (k + 8), xa_r (k + 9), xa_r (k + 10), xa_r (k + 11), xa_r (k + 12), xa_i (s 13), xa_i (s 14), xa_i ((a + (m + 1) : Nat) : Int), xa_r (k + 13), xa_i (s 17), xa_i (s 18), xa_i (s 19), xa_i (s 20), xa_r (k + 14), xa_r (k + 15), xa_i (s 23), xa_r (k + 16)] := ch3
        have hM1 : h3.1 (k + 1) = xa_a 120 (F 1) := (oh3 _ (by omega)).trans hM1
        have hM2 : h3.1 (k + 2) = xa_a 2 (F 2) := (oh3 _ (by omega)).trans hM2
        have hM3 : h3.1 (k + 3) = xa_a 18 (F 3) := (oh3 _ (by omega)).trans hM3
        have hM4 : h3.1 (k + 4) = xa_a 2 (F 4) := (oh3 _ (by omega)).trans hM4
        have hM5 : h3.1 (k + 5) = xa_a 4 (F 5) := (oh3 _ (by omega)).trans hM5
        have hM6 : h3.1 (k + 6) = xa_a 4 (F 6) := (oh3 _ (by omega)).trans hM6
        have hM7 : h3.1 (k + 7) = xa_a 2 (F 7) := (oh3 _ (by omega)).trans hM7
        have hM8 : h3.1 (k + 8) = xa_a 2 (F 8) := (oh3 _ (by omega)).trans hM8
        have hM9 : h3.1 (k + 9) = xa_a 12 (F 9) := (oh3 _ (by omega)).trans hM9
        have hM10 : h3.1 (k + 10) = xa_a 720 (F 10) := (oh3 _ (by omega)).trans hM10
        have hM11 : h3.1 (k + 11) = xa_a 3 (F 11) := (oh3 _ (by omega)).trans hM11
        have hM12 : h3.1 (k + 12) = xa_a 360 (F 12) := (oh3 _ (by omega)).trans hM12
        have hM13 : h3.1 (k + 13) = xa_a 3 (F 13) := (oh3 _ (by omega)).trans hM13
        have hM14 : h3.1 (k + 14) = xa_a 583200 (F 14) := (oh3 _ (by omega)).trans hM14
        have hM15 : h3.1 (k + 15) = xa_a 583200 (F 15) := (oh3 _ (by omega)).trans hM15
        have hM16 : h3.1 (k + 16) = xa_a 4 (F 16) := (oh3 _ (by omega)).trans hM16
        have hn : h3.2 = h0.2 := nh3.trans hn
        have fr : ∀ i, i ≠ k → h3.1 i = h0.1 i := fun i hi => (oh3 i (by omega)).trans (fr i hi)
        refine xa_goto (pc := 109) (tgt := 50) dX10_figures_109 (by decide) ?_
        exact ih (m + 1) _ (by omega) (by omega) (fun j hj => by by_cases e : j = m; subst e; exact ⟨by omega, by omega⟩; exact hdig j (by omega)) ⟨hM0, hM1, hM2, hM3, hM4, hM5, hM6, hM7, hM8, hM9, hM10, hM11, hM12, hM13, hM14, hM15, hM16, by omega, by omega⟩ hn fr
def fg1 (n : Nat) (f : Nat → Int) (p : Nat) : Option (Int × Nat) := (rd_num n f p).bind fun u => if sp_at n f ((u.2 : Nat) : Int) = 59 then some u else none
def fg3 (n : Nat) (f : Nat → Int) (p : Nat) : Option (Int × Int × Int × Nat) := (rd_num n f p).bind fun u0 => if sp_at n f ((u0.2 : Nat) : Int) = 44 then (rd_num n f (u0.2 + 1)).bind fun u1 => if sp_at n f ((u1.2 : Nat) : Int) = 44 then (rd_num n f (u1.2 + 1)).bind fun u2 => if sp_at n f ((u2.2 : Nat) : Int) = 59 then some (u0.1, u1.1, u2.1, u2.2) else none else none else none
theorem rd_item_fg (n : Nat) (f : Nat → Int) (p : Nat) (b : xBt) : rd_item n f p b = if sp_at n f ((p : Nat) : Int) = 112 then (fg3 n f (p + 1)).bind (fun u => (rd_bt b 112 3 (rd_nu u.1 u.2.1 u.2.2.1)).map (fun b' => (u.2.2.2 + 1, b'))) else (fg1 n f (p + 1)).bind (fun u => (rd_bt b (sp_at n f ((p : Nat) : Int)) 1 (rd_nu u.1 0 0)).map (fun b' => (u.2 + 1, b'))) := by
  unfold rd_item fg3 fg1
  by_cases hq : sp_at n f ((p : Nat) : Int) = 112
  · rw [if_pos hq, if_pos hq]
    cases rd_num n f (p + 1) with
    | none => rfl
    | some u0 =>
      dsimp only [Option.bind]
      by_cases h0 : sp_at n f ((u0.2 : Nat) : Int) = 44
      · rw [if_pos h0, if_pos h0]
        cases rd_num n f (u0.2 + 1) with
        | none => rfl
        | some u1 =>
          dsimp only [Option.bind]
          by_cases h1 : sp_at n f ((u1.2 : Nat) : Int) = 44
          · rw [if_pos h1, if_pos h1]
            cases rd_num n f (u1.2 + 1) with
            | none => rfl
            | some u2 =>
              dsimp only [Option.bind]
              by_cases h2 : sp_at n f ((u2.2 : Nat) : Int) = 59
              · rw [if_pos h2, if_pos h2]
              · rw [if_neg h2, if_neg h2]
          · rw [if_neg h1, if_neg h1]
      · rw [if_neg h0, if_neg h0]
  · rw [if_neg hq, if_neg hq]
    cases rd_num n f (p + 1) with
    | none => rfl
    | some u0 =>
      dsimp only [Option.bind]
      by_cases h0 : sp_at n f ((u0.2 : Nat) : Int) = 59
      · rw [if_pos h0, if_pos h0]
      · rw [if_neg h0, if_neg h0]
section FG
variable {n : Nat} {f : Nat → Int} {p a0 a1 a2 : Nat} {v0 v1 v2 : Int}
def nosg (n : Nat) (f : Nat → Int) (p g : Nat) : Prop := rd_num n f p = none ∨ ∃ v a, rd_num n f p = some (v, a) ∧ sp_at n f ((a : Nat) : Int) ≠ g
theorem fg1_0 (h : nosg n f p 59) : fg1 n f p = none := by
  unfold fg1
  rcases h with h | ⟨v, a, h, g⟩
  · rw [h]; rfl
  · rw [h]; exact if_neg g
theorem fg1_y (h : rd_num n f p = some (v0, a0)) (g : sp_at n f ((a0 : Nat) : Int) = 59) : fg1 n f p = some (v0, a0) := by
  unfold fg1
  rw [h]; exact if_pos g
theorem fg3_0 (h : nosg n f p 44) : fg3 n f p = none := by
  unfold fg3
  rcases h with h | ⟨v, a, h, g⟩
  · rw [h]; rfl
  · rw [h]; exact if_neg g
theorem fg3_1 (e0 : rd_num n f p = some (v0, a0)) (g0 : sp_at n f ((a0 : Nat) : Int) = 44) (h : nosg n f (a0 + 1) 44) : fg3 n f p = none := by
  unfold fg3
  rw [e0]
  refine (if_pos g0).trans ?_
  dsimp only
  rcases h with h | ⟨v, a, h, g⟩
  · rw [h]; rfl
  · rw [h]; exact if_neg g
theorem fg3_2 (e0 : rd_num n f p = some (v0, a0)) (g0 : sp_at n f ((a0 : Nat) : Int) = 44) (e1 : rd_num n f (a0 + 1) = some (v1, a1)) (g1 : sp_at n f ((a1 : Nat) : Int) = 44) (h : nosg n f (a1 + 1) 59) : fg3 n f p = none := by
  unfold fg3
  rw [e0]
  refine (if_pos g0).trans ?_
  dsimp only
  rw [e1]
  refine (if_pos g1).trans ?_
  dsimp only
  rcases h with h | ⟨v, a, h, g⟩
  · rw [h]; rfl
  · rw [h]; exact if_neg g
theorem fg3_y (e0 : rd_num n f p = some (v0, a0)) (g0 : sp_at n f ((a0 : Nat) : Int) = 44) (e1 : rd_num n f (a0 + 1) = some (v1, a1)) (g1 : sp_at n f ((a1 : Nat) : Int) = 44) (e2 : rd_num n f (a1 + 1) = some (v2, a2)) (g2 : sp_at n f ((a2 : Nat) : Int) = 59) : fg3 n f p = some (v0, v1, v2, a2) := by
  unfold fg3
  rw [e0]
  refine (if_pos g0).trans ?_
  dsimp only
  rw [e1]
  refine (if_pos g1).trans ?_
  dsimp only
  rw [e2]
  exact if_pos g2
/-- the model's count of figures, five at most -/
theorem rd_num_m {m g : Nat} (hg : sp_neg n f p = g) (h5 : m ≤ 5) (hd : ∀ j, j < m → sp_isd n f (p + g + j)) (hs : m = 5 ∨ ¬ sp_isd n f (p + g + m)) : rd_num n f p = if (1 ≤ m ∧ m ≤ 4) ∧ ¬ (g = 1 ∧ sp_val n f (p + g) m = 0) then some (if g = 1 then -sp_val n f (p + g) m else sp_val n f (p + g) m, p + g + m) else none := by
  have e : rd_cnt n f 5 (p + g) = m := rd_cnt_eq 5 _ m h5 hd hs
  unfold rd_num
  rw [hg, e]
end FG
theorem c_figures1 {G : xa_G} {h : xa_H} (k n p : Nat) (F : Nat → Nat → Int) (s : Nat → Int) (hs0 : s 0 = (n : Int)) (hn9 : n ≤ 120) (hf : ∀ i, 0 ≤ F 1 i ∧ F 1 i ≤ 255) (hp : s 15 = ((p : Nat) : Int)) (hp9 : p ≤ 200) (hM : xM h k F s)  : xa_M G mX10_figures [xa_r k, xa_i 1] h 0 0 (fun r h' => ((∃ u, fg1 n (F 1) p = some u ∧ r = some (xa_i 1) ∧ xM h' k (xa_uF F 13 (xa_upf (F 13) 0 u.1)) (xa_upf s 15 ((u.2 + 1 : Nat) : Int)) ∧ h'.2 = h.2 ∧ ∀ i, (i < k ∨ k + 17 ≤ i) → h'.1 i = h.1 i) ∨ (fg1 n (F 1) p = none ∧ r = some (xa_i 0) ∧ ∃ (nu : Nat → Int) (x : Int), xM h' k (xa_uF F 13 nu) (xa_upf s 15 x) ∧ h'.2 = h.2 ∧ ∀ i, (i < k ∨ k + 17 ≤ i) → h'.1 i = h.1 i))) := by
  refine xa_enter (by decide +kernel) (Nat.le_of_ble_eq_true rfl) ?_
  refine xa_locals (ls' := [some (xa_r k), some (xa_i 1), none, none, none, none]) rfl ?_
  have hn : h.2 = h.2 := rfl
  have fr : ∀ i, (i < k ∨ k + 17 ≤ i) → h.1 i = h.1 i := fun _ _ => rfl
  obtain ⟨hM0, hM1, hM2, hM3, hM4, hM5, hM6, hM7, hM8, hM9, hM10, hM11, hM12, hM13, hM14, hM15, hM16, hMk, hMn⟩ := hM
  rw [hp] at hM0
  refine xa_iconst (pc := 0) dX10_figures_0 ?_
  refine xa_istoren (pc := 1) [some (xa_r k), some (xa_i 1), some (xa_i 0), none, none, none] dX10_figures_1 (by decide) (Nat.le_of_ble_eq_true rfl) rfl rfl ?_
  refine xa_iload_n (pc := 2) dX10_figures_2 rfl ?_
  refine xa_iload_n (pc := 3) dX10_figures_3 rfl ?_
  refine xa_icmp_ge (pc := 4) (tgt := 195) dX10_figures_4 (by decide) (by decide) (by decide) (fun c_4 => ?_) (fun c_4 => ?_)
  · skip
    exfalso; omega
  · skip
    refine xa_aload_n (pc := 7) dX10_figures_7 rfl ?_
    refine xa_aload_n (pc := 8) dX10_figures_8 rfl ?_
    refine xa_getfield (pc := 9) dX10_figures_9 flRX10_74 (by omega) (by omega) hM0 rfl ?_
    refine xa_callV (pc := 12) (as := [xa_i ((p : Nat) : Int)]) (rest := []) dX10_figures_12 ⟨qX10_byteAt.1, qX10_byteAt.2.1, qX10_byteAt.2.2, by decide, by decide⟩ lkRX10_77 imX10_byteAt seX10_byteAt rfl rfl (by omega) (by omega) hM0 rfl (Nat.le_of_ble_eq_true rfl) (Nat.zero_le _) (Nat.zero_le _) (c_mByteN _ n p F (xa_upf s 15 ((p : Nat) : Int)) (by omega) hs0 hn9 ⟨hM0, hM1, hM2, hM3, hM4, hM5, hM6, hM7, hM8, hM9, hM10, hM11, hM12, hM13, hM14, hM15, hM16, by omega, by omega⟩) (fun r h' hq => ?_)
    obtain ⟨⟨y12_1, rfl, by12_1⟩, hq⟩ := hq
    have by12_1 : y12_1 = sp_at n (F 1) ((p : Nat) : Int) ∨ y12_1 = 0 ∧ sp_at n (F 1) ((p : Nat) : Int) = -1 := by12_1
    have hq := hq.symm
    subst hq
    have ay12_1 := sp_at_b (n := n) hf ((p : Nat) : Int)
    refine xa_bipush (pc := 15) dX10_figures_15 rfl ?_
    refine xa_icmp_ne (pc := 17) (tgt := 24) dX10_figures_17 (by decide) ⟨by omega, by omega⟩ (by decide) (fun c_17 => ?_) (fun c_17 => ?_)
    · skip
      refine xa_iconst (pc := 24) dX10_figures_24 ?_
      refine xa_istoren (pc := 25) [some (xa_r k), some (xa_i 1), some (xa_i 0), some (xa_i 0), none, none] dX10_figures_25 (by decide) (Nat.le_of_ble_eq_true rfl) rfl rfl ?_
      refine xa_aload_n (pc := 26) dX10_figures_26 rfl ?_
      refine xa_dup (pc := 27) dX10_figures_27 rfl ?_
      refine xa_getfield (pc := 28) dX10_figures_28 flRX10_74 (by omega) (by omega) hM0 rfl ?_
      refine xa_iload_n (pc := 31) dX10_figures_31 rfl ?_
      refine xa_if_eq (pc := 32) (tgt := 39) dX10_figures_32 (by decide) (by decide) (fun c_32 => ?_) (fun c_32 => ?_)
      · skip
        refine xa_iconst (pc := 39) dX10_figures_39 ?_
        refine xa_iadd (pc := 40) dX10_figures_40 ?_
        refine xa_top (y := ((p + 0 : Nat) : Int)) (by omega) ?_
        refine xa_putw (pc := 41) [xa_i (s 0), xa_r (k + 1), xa_r (k + 2), xa_r (k + 3), xa_r (k + 4), xa_r (k + 5), xa_r (k + 6), xa_r (k + 7), xa_r (k + 8), xa_r (k + 9), xa_r (k + 10), xa_r (k + 11), xa_r (k + 12), xa_i (s 13), xa_i (s 14), xa_i ((p + 0 : Nat) : Int), xa_r (k + 13), xa_i (s 17), xa_i (s 18), xa_i (s 19), xa_i (s 20), xa_r (k + 14), xa_r (k + 15), xa_i (s 23), xa_r (k + 16)] dX10_figures_41 flRX10_74 plX10_15 (by omega) (by omega) hM0 trivial rfl (fun h2 nh2 ch2 oh2 => ?_)
        have hM0 : h2.1 k = xa_o 10 [xa_i (s 0), xa_r (k + 1), xa_r (k + 2), xa_r (k + 3), xa_r (k + 4), xa_r (k + 5), xa_r (k + 6), xa_r (k + 7), xa_r (k + 8), xa_r (k + 9), xa_r (k + 10), xa_r (k + 11), xa_r (k + 12), xa_i (s 13), xa_i (s 14), xa_i ((p + 0 : Nat) : Int), xa_r (k + 13), xa_i (s 17), xa_i (s 18), xa_i (s 19), xa_i (s 20), xa_r (k + 14), xa_r (k + 15), xa_i (s 23), xa_r (k + 16)] := ch2
        have hM1 : h2.1 (k + 1) = xa_a 120 (F 1) := (oh2 _ (by omega)).trans hM1
        have hM2 : h2.1 (k + 2) = xa_a 2 (F 2) := (oh2 _ (by omega)).trans hM2
        have hM3 : h2.1 (k + 3) = xa_a 18 (F 3) := (oh2 _ (by omega)).trans hM3
        have hM4 : h2.1 (k + 4) = xa_a 2 (F 4) := (oh2 _ (by omega)).trans hM4
        have hM5 : h2.1 (k + 5) = xa_a 4 (F 5) := (oh2 _ (by omega)).trans hM5
        have hM6 : h2.1 (k + 6) = xa_a 4 (F 6) := (oh2 _ (by omega)).trans hM6
        have hM7 : h2.1 (k + 7) = xa_a 2 (F 7) := (oh2 _ (by omega)).trans hM7
        have hM8 : h2.1 (k + 8) = xa_a 2 (F 8) := (oh2 _ (by omega)).trans hM8
        have hM9 : h2.1 (k + 9) = xa_a 12 (F 9) := (oh2 _ (by omega)).trans hM9
        have hM10 : h2.1 (k + 10) = xa_a 720 (F 10) := (oh2 _ (by omega)).trans hM10
        have hM11 : h2.1 (k + 11) = xa_a 3 (F 11) := (oh2 _ (by omega)).trans hM11
        have hM12 : h2.1 (k + 12) = xa_a 360 (F 12) := (oh2 _ (by omega)).trans hM12
        have hM13 : h2.1 (k + 13) = xa_a 3 (F 13) := (oh2 _ (by omega)).trans hM13
        have hM14 : h2.1 (k + 14) = xa_a 583200 (F 14) := (oh2 _ (by omega)).trans hM14
        have hM15 : h2.1 (k + 15) = xa_a 583200 (F 15) := (oh2 _ (by omega)).trans hM15
        have hM16 : h2.1 (k + 16) = xa_a 4 (F 16) := (oh2 _ (by omega)).trans hM16
        have hn : h2.2 = h.2 := nh2.trans hn
        have fr : ∀ i, (i < k ∨ k + 17 ≤ i) → h2.1 i = h.1 i := fun i hi => (oh2 i (by omega)).trans (fr i hi)
        refine xa_iconst (pc := 44) dX10_figures_44 ?_
        refine xa_istorew (pc := 45) [some (xa_r k), some (xa_i 1), some (xa_i 0), some (xa_i 0), some (xa_i 0), none] dX10_figures_45 (by decide) (Nat.le_of_ble_eq_true rfl) rfl rfl ?_
        refine xa_iconst (pc := 47) dX10_figures_47 ?_
        refine xa_istorew (pc := 48) [some (xa_r k), some (xa_i 1), some (xa_i 0), some (xa_i 0), some (xa_i 0), some (xa_i 0)] dX10_figures_48 (by decide) (Nat.le_of_ble_eq_true rfl) rfl rfl ?_
        refine c_dig_loop (a := (p + 0)) (F := F) (s := (xa_upf s 15 ((p + 0 : Nat) : Int))) (mn := 1) (kk := 0) (L := 0) (h0 := h2) (by omega) hs0 hn9 hf (by omega) (fun m0 hq0 hm0 hd0 ht0 hM hqn hqf => ?_) 6 0 _ (by omega) (by omega) (fun j hj => absurd hj (Nat.not_lt_zero _)) ⟨hM0, hM1, hM2, hM3, hM4, hM5, hM6, hM7, hM8, hM9, hM10, hM11, hM12, hM13, hM14, hM15, hM16, by omega, by omega⟩ rfl (fun _ _ => rfl)
        obtain ⟨hM0, hM1, hM2, hM3, hM4, hM5, hM6, hM7, hM8, hM9, hM10, hM11, hM12, hM13, hM14, hM15, hM16, hMk, hMn⟩ := hM
        have hM0 : hq0.1 k = xa_o 10 [xa_i (s 0), xa_r (k + 1), xa_r (k + 2), xa_r (k + 3), xa_r (k + 4), xa_r (k + 5), xa_r (k + 6), xa_r (k + 7), xa_r (k + 8), xa_r (k + 9), xa_r (k + 10), xa_r (k + 11), xa_r (k + 12), xa_i (s 13), xa_i (s 14), xa_i (((p + 0) + m0 : Nat) : Int), xa_r (k + 13), xa_i (s 17), xa_i (s 18), xa_i (s 19), xa_i (s 20), xa_r (k + 14), xa_r (k + 15), xa_i (s 23), xa_r (k + 16)] := hM0
        have hM1 : hq0.1 (k + 1) = xa_a 120 (F 1) := hM1
        have hM2 : hq0.1 (k + 2) = xa_a 2 (F 2) := hM2
        have hM3 : hq0.1 (k + 3) = xa_a 18 (F 3) := hM3
        have hM4 : hq0.1 (k + 4) = xa_a 2 (F 4) := hM4
        have hM5 : hq0.1 (k + 5) = xa_a 4 (F 5) := hM5
        have hM6 : hq0.1 (k + 6) = xa_a 4 (F 6) := hM6
        have hM7 : hq0.1 (k + 7) = xa_a 2 (F 7) := hM7
        have hM8 : hq0.1 (k + 8) = xa_a 2 (F 8) := hM8
        have hM9 : hq0.1 (k + 9) = xa_a 12 (F 9) := hM9
        have hM10 : hq0.1 (k + 10) = xa_a 720 (F 10) := hM10
        have hM11 : hq0.1 (k + 11) = xa_a 3 (F 11) := hM11
        have hM12 : hq0.1 (k + 12) = xa_a 360 (F 12) := hM12
        have hM13 : hq0.1 (k + 13) = xa_a 3 (F 13) := hM13
        have hM14 : hq0.1 (k + 14) = xa_a 583200 (F 14) := hM14
        have hM15 : hq0.1 (k + 15) = xa_a 583200 (F 15) := hM15
        have hM16 : hq0.1 (k + 16) = xa_a 4 (F 16) := hM16
        have hn : hq0.2 = h.2 := hqn.trans hn
        have fr : ∀ i, (i < k ∨ k + 17 ≤ i) → hq0.1 i = h.1 i := fun i hi => (hqf i (by omega)).trans (fr i hi)
        have hd0 : ∀ j, j < m0 → sp_isd n (F 1) ((p + 0) + j) := hd0
        have ht0 : m0 = 5 ∨ ¬ sp_isd n (F 1) ((p + 0) + m0) := ht0
        refine xa_locals (ls' := [some (xa_r k), some (xa_i 1), some (xa_i 0), some (xa_i 0), some (xa_i ((m0 : Nat) : Int)), some (xa_i (sp_val n (F 1) (p + 0) m0))]) rfl ?_
        have hg0 : sp_neg n (F 1) p = 0 := by unfold sp_neg; first | exact if_pos (by omega) | exact if_neg (by omega)
        have z0 := rd_num_m (p := p) (g := 0) hg0 hm0 hd0 ht0
        have hvp0 := sp_val_p n (F 1) (p + 0) m0 hd0
        have hvm0 : m0 ≤ 4 → sp_val n (F 1) (p + 0) m0 ≤ 9999 := fun q => (sp_val_b q hd0).2
        have hvx0 : (10 : Int) ^ m0 ≤ 100000 := by
          have e : m0 = 0 ∨ m0 = 1 ∨ m0 = 2 ∨ m0 = 3 ∨ m0 = 4 ∨ m0 = 5 := by omega
          rcases e with e | e | e | e | e | e <;> rw [e] <;> decide
        generalize hx0 : sp_val n (F 1) (p + 0) m0 = x0 at z0 hvp0 hvm0 ⊢
        generalize ha0 : (p + 0) + m0 = a0 at z0 ⊢
        have hM0 : hq0.1 k = xa_o 10 [xa_i (s 0), xa_r (k + 1), xa_r (k + 2), xa_r (k + 3), xa_r (k + 4), xa_r (k + 5), xa_r (k + 6), xa_r (k + 7), xa_r (k + 8), xa_r (k + 9), xa_r (k + 10), xa_r (k + 11), xa_r (k + 12), xa_i (s 13), xa_i (s 14), xa_i ((a0 : Nat) : Int), xa_r (k + 13), xa_i (s 17), xa_i (s 18), xa_i (s 19), xa_i (s 20), xa_r (k + 14), xa_r (k + 15), xa_i (s 23), xa_r (k + 16)] := by rw [← ha0]; exact hM0
        refine xa_iload (pc := 112) dX10_figures_112 rfl ?_
        refine xa_i2l (pc := 114) dX10_figures_114 ⟨by omega, by omega⟩ ?_
        refine xa_lconst (pc := 115) (n := 1) dX10_figures_115 rfl ?_
        refine xa_ldc2 (pc := 116) (n := 4) dX10_figures_116 ctRX10_85 rfl ?_
        refine xa_callS (pc := 119) (as := [xa_l ((m0 : Nat) : Int), xa_l 1, xa_l 4]) (rest := []) dX10_figures_119 ⟨qX10_in.1, qX10_in.2.1, qX10_in.2.2, by decide, by decide⟩ lkRX10_65 smX10_in rfl rfl (Nat.le_of_ble_eq_true rfl) (Nat.zero_le _) (Nat.zero_le _) (c_in _ _ _ ⟨by omega, by omega⟩ ⟨by omega, by omega⟩ ⟨by omega, by omega⟩) (fun r h' hq => ?_)
        obtain ⟨rfl, hq⟩ := hq
        have hq := hq.symm
        subst hq
        refine xa_if_eq (pc := 122) (tgt := 159) dX10_figures_122 (by decide) xa_okb (fun c_122 => ?_) (fun c_122 => ?_)
        · have c_122 := xa_b0.mp c_122
          refine xa_iconst (pc := 159) dX10_figures_159 ?_
          refine xa_ireturn (pc := 160) dX10_figures_160 rfl (Or.inl rfl) ?_
          have ng : nosg n (F 1) p 59 := by
            by_cases hc : (1 ≤ m0 ∧ m0 ≤ 4) ∧ ¬ ((0 : Nat) = 1 ∧ x0 = 0)
            · exact Or.inr ⟨_, _, by rw [z0, if_pos hc], by omega⟩
            · exact Or.inl (by rw [z0, if_neg hc])
          exact Or.inr ⟨fg1_0 ng, rfl, _, _, ⟨hM0, hM1, hM2, hM3, hM4, hM5, hM6, hM7, hM8, hM9, hM10, hM11, hM12, hM13, hM14, hM15, hM16, by omega, by omega⟩, hn, fr⟩
        · have c_122 := xa_b1.mp c_122
          refine xa_iload_n (pc := 125) dX10_figures_125 rfl ?_
          refine xa_if_eq (pc := 126) (tgt := 134) dX10_figures_126 (by decide) (by decide) (fun c_126 => ?_) (fun c_126 => ?_)
          · skip
            refine xa_aload_n (pc := 134) dX10_figures_134 rfl ?_
            refine xa_aload_n (pc := 135) dX10_figures_135 rfl ?_
            refine xa_getfield (pc := 136) dX10_figures_136 flRX10_74 (by omega) (by omega) hM0 rfl ?_
            refine xa_callV (pc := 139) (as := [xa_i ((a0 : Nat) : Int)]) (rest := []) dX10_figures_139 ⟨qX10_byteAt.1, qX10_byteAt.2.1, qX10_byteAt.2.2, by decide, by decide⟩ lkRX10_77 imX10_byteAt seX10_byteAt rfl rfl (by omega) (by omega) hM0 rfl (Nat.le_of_ble_eq_true rfl) (Nat.zero_le _) (Nat.zero_le _) (c_mByteN _ n a0 F (xa_upf s 15 ((a0 : Nat) : Int)) (by omega) hs0 hn9 ⟨hM0, hM1, hM2, hM3, hM4, hM5, hM6, hM7, hM8, hM9, hM10, hM11, hM12, hM13, hM14, hM15, hM16, by omega, by omega⟩) (fun r h' hq => ?_)
            obtain ⟨⟨y139_3, rfl, by139_3⟩, hq⟩ := hq
            have by139_3 : y139_3 = sp_at n (F 1) ((a0 : Nat) : Int) ∨ y139_3 = 0 ∧ sp_at n (F 1) ((a0 : Nat) : Int) = -1 := by139_3
            have hq := hq.symm
            subst hq
            have ay139_3 := sp_at_b (n := n) hf ((a0 : Nat) : Int)
            refine xa_iload_n (pc := 142) dX10_figures_142 rfl ?_
            refine xa_iload_n (pc := 143) dX10_figures_143 rfl ?_
            refine xa_iconst (pc := 144) dX10_figures_144 ?_
            refine xa_isub (pc := 145) dX10_figures_145 ?_
            refine xa_top (y := 0) (by decide) ?_
            refine xa_icmp_ge (pc := 146) (tgt := 154) dX10_figures_146 (by decide) (by decide) (by decide) (fun c_146 => ?_) (fun c_146 => ?_)
            · skip
              refine xa_bipush (pc := 154) dX10_figures_154 rfl ?_
              refine xa_icmp_eq (pc := 156) (tgt := 161) dX10_figures_156 (by decide) ⟨by omega, by omega⟩ (by decide) (fun c_156 => ?_) (fun c_156 => ?_)
              · skip
                refine xa_aload_n (pc := 161) dX10_figures_161 rfl ?_
                refine xa_getfield (pc := 162) dX10_figures_162 flRX10_46 (by omega) (by omega) hM0 rfl ?_
                refine xa_iload_n (pc := 165) dX10_figures_165 rfl ?_
                refine xa_iload_n (pc := 166) dX10_figures_166 rfl ?_
                refine xa_if_eq (pc := 167) (tgt := 176) dX10_figures_167 (by decide) (by decide) (fun c_167 => ?_) (fun c_167 => ?_)
                · skip
                  refine xa_iload (pc := 176) dX10_figures_176 rfl ?_
                  refine xa_iastw (pc := 178) 0 dX10_figures_178 (by omega) (by omega) hM13 (by omega) (by omega) rfl (fun h4 nh4 ch4 oh4 => ?_)
                  have hM13 : h4.1 (k + 13) = xa_a 3 (xa_upf (F 13) 0 x0) := ch4
                  have hM0 : h4.1 k = xa_o 10 [xa_i (s 0), xa_r (k + 1), xa_r (k + 2), xa_r (k + 3), xa_r (k + 4), xa_r (k + 5), xa_r (k + 6), xa_r (k + 7), xa_r (k + 8), xa_r (k + 9), xa_r (k + 10), xa_r (k + 11), xa_r (k + 12), xa_i (s 13), xa_i (s 14), xa_i ((a0 : Nat) : Int), xa_r (k + 13), xa_i (s 17), xa_i (s 18), xa_i (s 19), xa_i (s 20), xa_r (k + 14), xa_r (k + 15), xa_i (s 23), xa_r (k + 16)] := (oh4 _ (by omega)).trans hM0
                  have hM1 : h4.1 (k + 1) = xa_a 120 (F 1) := (oh4 _ (by omega)).trans hM1
                  have hM2 : h4.1 (k + 2) = xa_a 2 (F 2) := (oh4 _ (by omega)).trans hM2
                  have hM3 : h4.1 (k + 3) = xa_a 18 (F 3) := (oh4 _ (by omega)).trans hM3
                  have hM4 : h4.1 (k + 4) = xa_a 2 (F 4) := (oh4 _ (by omega)).trans hM4
                  have hM5 : h4.1 (k + 5) = xa_a 4 (F 5) := (oh4 _ (by omega)).trans hM5
                  have hM6 : h4.1 (k + 6) = xa_a 4 (F 6) := (oh4 _ (by omega)).trans hM6
                  have hM7 : h4.1 (k + 7) = xa_a 2 (F 7) := (oh4 _ (by omega)).trans hM7
                  have hM8 : h4.1 (k + 8) = xa_a 2 (F 8) := (oh4 _ (by omega)).trans hM8
                  have hM9 : h4.1 (k + 9) = xa_a 12 (F 9) := (oh4 _ (by omega)).trans hM9
                  have hM10 : h4.1 (k + 10) = xa_a 720 (F 10) := (oh4 _ (by omega)).trans hM10
                  have hM11 : h4.1 (k + 11) = xa_a 3 (F 11) := (oh4 _ (by omega)).trans hM11
                  have hM12 : h4.1 (k + 12) = xa_a 360 (F 12) := (oh4 _ (by omega)).trans hM12
                  have hM14 : h4.1 (k + 14) = xa_a 583200 (F 14) := (oh4 _ (by omega)).trans hM14
                  have hM15 : h4.1 (k + 15) = xa_a 583200 (F 15) := (oh4 _ (by omega)).trans hM15
                  have hM16 : h4.1 (k + 16) = xa_a 4 (F 16) := (oh4 _ (by omega)).trans hM16
                  have hn : h4.2 = h.2 := nh4.trans hn
                  have fr : ∀ i, (i < k ∨ k + 17 ≤ i) → h4.1 i = h.1 i := fun i hi => (oh4 i (by omega)).trans (fr i hi)
                  refine xa_aload_n (pc := 179) dX10_figures_179 rfl ?_
                  refine xa_dup (pc := 180) dX10_figures_180 rfl ?_
                  refine xa_getfield (pc := 181) dX10_figures_181 flRX10_74 (by omega) (by omega) hM0 rfl ?_
                  refine xa_iconst (pc := 184) dX10_figures_184 ?_
                  refine xa_iadd (pc := 185) dX10_figures_185 ?_
                  refine xa_top (y := ((a0 + 1 : Nat) : Int)) (by omega) ?_
                  refine xa_putw (pc := 186) [xa_i (s 0), xa_r (k + 1), xa_r (k + 2), xa_r (k + 3), xa_r (k + 4), xa_r (k + 5), xa_r (k + 6), xa_r (k + 7), xa_r (k + 8), xa_r (k + 9), xa_r (k + 10), xa_r (k + 11), xa_r (k + 12), xa_i (s 13), xa_i (s 14), xa_i ((a0 + 1 : Nat) : Int), xa_r (k + 13), xa_i (s 17), xa_i (s 18), xa_i (s 19), xa_i (s 20), xa_r (k + 14), xa_r (k + 15), xa_i (s 23), xa_r (k + 16)] dX10_figures_186 flRX10_74 plX10_15 (by omega) (by omega) hM0 trivial rfl (fun h5 nh5 ch5 oh5 => ?_)
                  have hM0 : h5.1 k = xa_o 10 [xa_i (s 0), xa_r (k + 1), xa_r (k + 2), xa_r (k + 3), xa_r (k + 4), xa_r (k + 5), xa_r (k + 6), xa_r (k + 7), xa_r (k + 8), xa_r (k + 9), xa_r (k + 10), xa_r (k + 11), xa_r (k + 12), xa_i (s 13), xa_i (s 14), xa_i ((a0 + 1 : Nat) : Int), xa_r (k + 13), xa_i (s 17), xa_i (s 18), xa_i (s 19), xa_i (s 20), xa_r (k + 14), xa_r (k + 15), xa_i (s 23), xa_r (k + 16)] := ch5
                  have hM1 : h5.1 (k + 1) = xa_a 120 (F 1) := (oh5 _ (by omega)).trans hM1
                  have hM2 : h5.1 (k + 2) = xa_a 2 (F 2) := (oh5 _ (by omega)).trans hM2
                  have hM3 : h5.1 (k + 3) = xa_a 18 (F 3) := (oh5 _ (by omega)).trans hM3
                  have hM4 : h5.1 (k + 4) = xa_a 2 (F 4) := (oh5 _ (by omega)).trans hM4
                  have hM5 : h5.1 (k + 5) = xa_a 4 (F 5) := (oh5 _ (by omega)).trans hM5
                  have hM6 : h5.1 (k + 6) = xa_a 4 (F 6) := (oh5 _ (by omega)).trans hM6
                  have hM7 : h5.1 (k + 7) = xa_a 2 (F 7) := (oh5 _ (by omega)).trans hM7
                  have hM8 : h5.1 (k + 8) = xa_a 2 (F 8) := (oh5 _ (by omega)).trans hM8
                  have hM9 : h5.1 (k + 9) = xa_a 12 (F 9) := (oh5 _ (by omega)).trans hM9
                  have hM10 : h5.1 (k + 10) = xa_a 720 (F 10) := (oh5 _ (by omega)).trans hM10
                  have hM11 : h5.1 (k + 11) = xa_a 3 (F 11) := (oh5 _ (by omega)).trans hM11
                  have hM12 : h5.1 (k + 12) = xa_a 360 (F 12) := (oh5 _ (by omega)).trans hM12
                  have hM13 : h5.1 (k + 13) = xa_a 3 (xa_upf (F 13) 0 x0) := (oh5 _ (by omega)).trans hM13
                  have hM14 : h5.1 (k + 14) = xa_a 583200 (F 14) := (oh5 _ (by omega)).trans hM14
                  have hM15 : h5.1 (k + 15) = xa_a 583200 (F 15) := (oh5 _ (by omega)).trans hM15
                  have hM16 : h5.1 (k + 16) = xa_a 4 (F 16) := (oh5 _ (by omega)).trans hM16
                  have hn : h5.2 = h.2 := nh5.trans hn
                  have fr : ∀ i, (i < k ∨ k + 17 ≤ i) → h5.1 i = h.1 i := fun i hi => (oh5 i (by omega)).trans (fr i hi)
                  refine xa_iincw (pc := 189) (y := 1) [some (xa_r k), some (xa_i 1), some (xa_i 1), some (xa_i 0), some (xa_i ((m0 : Nat) : Int)), some (xa_i x0)] dX10_figures_189 (by decide) rfl rfl rfl rfl ?_
                  refine xa_goto (pc := 192) (tgt := 2) dX10_figures_192 (by decide) ?_
                  refine xa_iload_n (pc := 2) dX10_figures_2 rfl ?_
                  refine xa_iload_n (pc := 3) dX10_figures_3 rfl ?_
                  refine xa_icmp_ge (pc := 4) (tgt := 195) dX10_figures_4 (by decide) (by decide) (by decide) (fun c_4 => ?_) (fun c_4 => ?_)
                  · skip
                    refine xa_iconst (pc := 195) dX10_figures_195 ?_
                    refine xa_ireturn (pc := 196) dX10_figures_196 rfl (Or.inr rfl) ?_
                    have e0 : rd_num n (F 1) p = some (x0, a0) := by rw [z0, if_pos (by omega)]; rfl
                    exact Or.inl ⟨_, fg1_y e0 (by omega), rfl, ⟨hM0, hM1, hM2, hM3, hM4, hM5, hM6, hM7, hM8, hM9, hM10, hM11, hM12, hM13, hM14, hM15, hM16, by omega, by omega⟩, hn, fr⟩
                  · skip
                    exfalso; omega
                · skip
                  exfalso; omega
              · skip
                refine xa_iconst (pc := 159) dX10_figures_159 ?_
                refine xa_ireturn (pc := 160) dX10_figures_160 rfl (Or.inl rfl) ?_
                have ng : nosg n (F 1) p 59 := by
                  by_cases hc : (1 ≤ m0 ∧ m0 ≤ 4) ∧ ¬ ((0 : Nat) = 1 ∧ x0 = 0)
                  · exact Or.inr ⟨_, _, by rw [z0, if_pos hc], by omega⟩
                  · exact Or.inl (by rw [z0, if_neg hc])
                exact Or.inr ⟨fg1_0 ng, rfl, _, _, ⟨hM0, hM1, hM2, hM3, hM4, hM5, hM6, hM7, hM8, hM9, hM10, hM11, hM12, hM13, hM14, hM15, hM16, by omega, by omega⟩, hn, fr⟩
            · skip
              exfalso; omega
          · skip
            exfalso; omega
      · skip
        exfalso; omega
    · skip
      refine xa_iconst (pc := 20) dX10_figures_20 ?_
      refine xa_goto (pc := 21) (tgt := 25) dX10_figures_21 (by decide) ?_
      refine xa_istoren (pc := 25) [some (xa_r k), some (xa_i 1), some (xa_i 0), some (xa_i 1), none, none] dX10_figures_25 (by decide) (Nat.le_of_ble_eq_true rfl) rfl rfl ?_
      refine xa_aload_n (pc := 26) dX10_figures_26 rfl ?_
      refine xa_dup (pc := 27) dX10_figures_27 rfl ?_
      refine xa_getfield (pc := 28) dX10_figures_28 flRX10_74 (by omega) (by omega) hM0 rfl ?_
      refine xa_iload_n (pc := 31) dX10_figures_31 rfl ?_
      refine xa_if_eq (pc := 32) (tgt := 39) dX10_figures_32 (by decide) (by decide) (fun c_32 => ?_) (fun c_32 => ?_)
      · skip
        exfalso; omega
      · skip
        refine xa_iconst (pc := 35) dX10_figures_35 ?_
        refine xa_goto (pc := 36) (tgt := 40) dX10_figures_36 (by decide) ?_
        refine xa_iadd (pc := 40) dX10_figures_40 ?_
        refine xa_top (y := ((p + 1 : Nat) : Int)) (by omega) ?_
        refine xa_putw (pc := 41) [xa_i (s 0), xa_r (k + 1), xa_r (k + 2), xa_r (k + 3), xa_r (k + 4), xa_r (k + 5), xa_r (k + 6), xa_r (k + 7), xa_r (k + 8), xa_r (k + 9), xa_r (k + 10), xa_r (k + 11), xa_r (k + 12), xa_i (s 13), xa_i (s 14), xa_i ((p + 1 : Nat) : Int), xa_r (k + 13), xa_i (s 17), xa_i (s 18), xa_i (s 19), xa_i (s 20), xa_r (k + 14), xa_r (k + 15), xa_i (s 23), xa_r (k + 16)] dX10_figures_41 flRX10_74 plX10_15 (by omega) (by omega) hM0 trivial rfl (fun h6 nh6 ch6 oh6 => ?_)
        have hM0 : h6.1 k = xa_o 10 [xa_i (s 0), xa_r (k + 1), xa_r (k + 2), xa_r (k + 3), xa_r (k + 4), xa_r (k + 5), xa_r (k + 6), xa_r (k + 7), xa_r (k + 8), xa_r (k + 9), xa_r (k + 10), xa_r (k + 11), xa_r (k + 12), xa_i (s 13), xa_i (s 14), xa_i ((p + 1 : Nat) : Int), xa_r (k + 13), xa_i (s 17), xa_i (s 18), xa_i (s 19), xa_i (s 20), xa_r (k + 14), xa_r (k + 15), xa_i (s 23), xa_r (k + 16)] := ch6
        have hM1 : h6.1 (k + 1) = xa_a 120 (F 1) := (oh6 _ (by omega)).trans hM1
        have hM2 : h6.1 (k + 2) = xa_a 2 (F 2) := (oh6 _ (by omega)).trans hM2
        have hM3 : h6.1 (k + 3) = xa_a 18 (F 3) := (oh6 _ (by omega)).trans hM3
        have hM4 : h6.1 (k + 4) = xa_a 2 (F 4) := (oh6 _ (by omega)).trans hM4
        have hM5 : h6.1 (k + 5) = xa_a 4 (F 5) := (oh6 _ (by omega)).trans hM5
        have hM6 : h6.1 (k + 6) = xa_a 4 (F 6) := (oh6 _ (by omega)).trans hM6
        have hM7 : h6.1 (k + 7) = xa_a 2 (F 7) := (oh6 _ (by omega)).trans hM7
        have hM8 : h6.1 (k + 8) = xa_a 2 (F 8) := (oh6 _ (by omega)).trans hM8
        have hM9 : h6.1 (k + 9) = xa_a 12 (F 9) := (oh6 _ (by omega)).trans hM9
        have hM10 : h6.1 (k + 10) = xa_a 720 (F 10) := (oh6 _ (by omega)).trans hM10
        have hM11 : h6.1 (k + 11) = xa_a 3 (F 11) := (oh6 _ (by omega)).trans hM11
        have hM12 : h6.1 (k + 12) = xa_a 360 (F 12) := (oh6 _ (by omega)).trans hM12
        have hM13 : h6.1 (k + 13) = xa_a 3 (F 13) := (oh6 _ (by omega)).trans hM13
        have hM14 : h6.1 (k + 14) = xa_a 583200 (F 14) := (oh6 _ (by omega)).trans hM14
        have hM15 : h6.1 (k + 15) = xa_a 583200 (F 15) := (oh6 _ (by omega)).trans hM15
        have hM16 : h6.1 (k + 16) = xa_a 4 (F 16) := (oh6 _ (by omega)).trans hM16
        have hn : h6.2 = h.2 := nh6.trans hn
        have fr : ∀ i, (i < k ∨ k + 17 ≤ i) → h6.1 i = h.1 i := fun i hi => (oh6 i (by omega)).trans (fr i hi)
        refine xa_iconst (pc := 44) dX10_figures_44 ?_
        refine xa_istorew (pc := 45) [some (xa_r k), some (xa_i 1), some (xa_i 0), some (xa_i 1), some (xa_i 0), none] dX10_figures_45 (by decide) (Nat.le_of_ble_eq_true rfl) rfl rfl ?_
        refine xa_iconst (pc := 47) dX10_figures_47 ?_
        refine xa_istorew (pc := 48) [some (xa_r k), some (xa_i 1), some (xa_i 0), some (xa_i 1), some (xa_i 0), some (xa_i 0)] dX10_figures_48 (by decide) (Nat.le_of_ble_eq_true rfl) rfl rfl ?_
        refine c_dig_loop (a := (p + 1)) (F := F) (s := (xa_upf s 15 ((p + 1 : Nat) : Int))) (mn := 1) (kk := 0) (L := 1) (h0 := h6) (by omega) hs0 hn9 hf (by omega) (fun m0 hq0 hm0 hd0 ht0 hM hqn hqf => ?_) 6 0 _ (by omega) (by omega) (fun j hj => absurd hj (Nat.not_lt_zero _)) ⟨hM0, hM1, hM2, hM3, hM4, hM5, hM6, hM7, hM8, hM9, hM10, hM11, hM12, hM13, hM14, hM15, hM16, by omega, by omega⟩ rfl (fun _ _ => rfl)
        obtain ⟨hM0, hM1, hM2, hM3, hM4, hM5, hM6, hM7, hM8, hM9, hM10, hM11, hM12, hM13, hM14, hM15, hM16, hMk, hMn⟩ := hM
        have hM0 : hq0.1 k = xa_o 10 [xa_i (s 0), xa_r (k + 1), xa_r (k + 2), xa_r (k + 3), xa_r (k + 4), xa_r (k + 5), xa_r (k + 6), xa_r (k + 7), xa_r (k + 8), xa_r (k + 9), xa_r (k + 10), xa_r (k + 11), xa_r (k + 12), xa_i (s 13), xa_i (s 14), xa_i (((p + 1) + m0 : Nat) : Int), xa_r (k + 13), xa_i (s 17), xa_i (s 18), xa_i (s 19), xa_i (s 20), xa_r (k + 14), xa_r (k + 15), xa_i (s 23), xa_r (k + 16)] := hM0
        have hM1 : hq0.1 (k + 1) = xa_a 120 (F 1) := hM1
        have hM2 : hq0.1 (k + 2) = xa_a 2 (F 2) := hM2
        have hM3 : hq0.1 (k + 3) = xa_a 18 (F 3) := hM3
        have hM4 : hq0.1 (k + 4) = xa_a 2 (F 4) := hM4
        have hM5 : hq0.1 (k + 5) = xa_a 4 (F 5) := hM5
        have hM6 : hq0.1 (k + 6) = xa_a 4 (F 6) := hM6
        have hM7 : hq0.1 (k + 7) = xa_a 2 (F 7) := hM7
        have hM8 : hq0.1 (k + 8) = xa_a 2 (F 8) := hM8
        have hM9 : hq0.1 (k + 9) = xa_a 12 (F 9) := hM9
        have hM10 : hq0.1 (k + 10) = xa_a 720 (F 10) := hM10
        have hM11 : hq0.1 (k + 11) = xa_a 3 (F 11) := hM11
        have hM12 : hq0.1 (k + 12) = xa_a 360 (F 12) := hM12
        have hM13 : hq0.1 (k + 13) = xa_a 3 (F 13) := hM13
        have hM14 : hq0.1 (k + 14) = xa_a 583200 (F 14) := hM14
        have hM15 : hq0.1 (k + 15) = xa_a 583200 (F 15) := hM15
        have hM16 : hq0.1 (k + 16) = xa_a 4 (F 16) := hM16
        have hn : hq0.2 = h.2 := hqn.trans hn
        have fr : ∀ i, (i < k ∨ k + 17 ≤ i) → hq0.1 i = h.1 i := fun i hi => (hqf i (by omega)).trans (fr i hi)
        have hd0 : ∀ j, j < m0 → sp_isd n (F 1) ((p + 1) + j) := hd0
        have ht0 : m0 = 5 ∨ ¬ sp_isd n (F 1) ((p + 1) + m0) := ht0
        refine xa_locals (ls' := [some (xa_r k), some (xa_i 1), some (xa_i 0), some (xa_i 1), some (xa_i ((m0 : Nat) : Int)), some (xa_i (sp_val n (F 1) (p + 1) m0))]) rfl ?_
        have hg0 : sp_neg n (F 1) p = 1 := by unfold sp_neg; first | exact if_pos (by omega) | exact if_neg (by omega)
        have z0 := rd_num_m (p := p) (g := 1) hg0 hm0 hd0 ht0
        have hvp0 := sp_val_p n (F 1) (p + 1) m0 hd0
        have hvm0 : m0 ≤ 4 → sp_val n (F 1) (p + 1) m0 ≤ 9999 := fun q => (sp_val_b q hd0).2
        have hvx0 : (10 : Int) ^ m0 ≤ 100000 := by
          have e : m0 = 0 ∨ m0 = 1 ∨ m0 = 2 ∨ m0 = 3 ∨ m0 = 4 ∨ m0 = 5 := by omega
          rcases e with e | e | e | e | e | e <;> rw [e] <;> decide
        generalize hx0 : sp_val n (F 1) (p + 1) m0 = x0 at z0 hvp0 hvm0 ⊢
        generalize ha0 : (p + 1) + m0 = a0 at z0 ⊢
        have hM0 : hq0.1 k = xa_o 10 [xa_i (s 0), xa_r (k + 1), xa_r (k + 2), xa_r (k + 3), xa_r (k + 4), xa_r (k + 5), xa_r (k + 6), xa_r (k + 7), xa_r (k + 8), xa_r (k + 9), xa_r (k + 10), xa_r (k + 11), xa_r (k + 12), xa_i (s 13), xa_i (s 14), xa_i ((a0 : Nat) : Int), xa_r (k + 13), xa_i (s 17), xa_i (s 18), xa_i (s 19), xa_i (s 20), xa_r (k + 14), xa_r (k + 15), xa_i (s 23), xa_r (k + 16)] := by rw [← ha0]; exact hM0
        refine xa_iload (pc := 112) dX10_figures_112 rfl ?_
        refine xa_i2l (pc := 114) dX10_figures_114 ⟨by omega, by omega⟩ ?_
        refine xa_lconst (pc := 115) (n := 1) dX10_figures_115 rfl ?_
        refine xa_ldc2 (pc := 116) (n := 4) dX10_figures_116 ctRX10_85 rfl ?_
        refine xa_callS (pc := 119) (as := [xa_l ((m0 : Nat) : Int), xa_l 1, xa_l 4]) (rest := []) dX10_figures_119 ⟨qX10_in.1, qX10_in.2.1, qX10_in.2.2, by decide, by decide⟩ lkRX10_65 smX10_in rfl rfl (Nat.le_of_ble_eq_true rfl) (Nat.zero_le _) (Nat.zero_le _) (c_in _ _ _ ⟨by omega, by omega⟩ ⟨by omega, by omega⟩ ⟨by omega, by omega⟩) (fun r h' hq => ?_)
        obtain ⟨rfl, hq⟩ := hq
        have hq := hq.symm
        subst hq
        refine xa_if_eq (pc := 122) (tgt := 159) dX10_figures_122 (by decide) xa_okb (fun c_122 => ?_) (fun c_122 => ?_)
        · have c_122 := xa_b0.mp c_122
          refine xa_iconst (pc := 159) dX10_figures_159 ?_
          refine xa_ireturn (pc := 160) dX10_figures_160 rfl (Or.inl rfl) ?_
          have ng : nosg n (F 1) p 59 := by
            by_cases hc : (1 ≤ m0 ∧ m0 ≤ 4) ∧ ¬ ((1 : Nat) = 1 ∧ x0 = 0)
            · exact Or.inr ⟨_, _, by rw [z0, if_pos hc], by omega⟩
            · exact Or.inl (by rw [z0, if_neg hc])
          exact Or.inr ⟨fg1_0 ng, rfl, _, _, ⟨hM0, hM1, hM2, hM3, hM4, hM5, hM6, hM7, hM8, hM9, hM10, hM11, hM12, hM13, hM14, hM15, hM16, by omega, by omega⟩, hn, fr⟩
        · have c_122 := xa_b1.mp c_122
          refine xa_iload_n (pc := 125) dX10_figures_125 rfl ?_
          refine xa_if_eq (pc := 126) (tgt := 134) dX10_figures_126 (by decide) (by decide) (fun c_126 => ?_) (fun c_126 => ?_)
          · skip
            exfalso; omega
          · skip
            refine xa_iload (pc := 129) dX10_figures_129 rfl ?_
            refine xa_if_eq (pc := 131) (tgt := 159) dX10_figures_131 (by decide) ⟨by omega, by omega⟩ (fun c_131 => ?_) (fun c_131 => ?_)
            · skip
              refine xa_iconst (pc := 159) dX10_figures_159 ?_
              refine xa_ireturn (pc := 160) dX10_figures_160 rfl (Or.inl rfl) ?_
              have ng : nosg n (F 1) p 59 := by
                by_cases hc : (1 ≤ m0 ∧ m0 ≤ 4) ∧ ¬ ((1 : Nat) = 1 ∧ x0 = 0)
                · exact Or.inr ⟨_, _, by rw [z0, if_pos hc], by omega⟩
                · exact Or.inl (by rw [z0, if_neg hc])
              exact Or.inr ⟨fg1_0 ng, rfl, _, _, ⟨hM0, hM1, hM2, hM3, hM4, hM5, hM6, hM7, hM8, hM9, hM10, hM11, hM12, hM13, hM14, hM15, hM16, by omega, by omega⟩, hn, fr⟩
            · skip
              refine xa_aload_n (pc := 134) dX10_figures_134 rfl ?_
              refine xa_aload_n (pc := 135) dX10_figures_135 rfl ?_
              refine xa_getfield (pc := 136) dX10_figures_136 flRX10_74 (by omega) (by omega) hM0 rfl ?_
              refine xa_callV (pc := 139) (as := [xa_i ((a0 : Nat) : Int)]) (rest := []) dX10_figures_139 ⟨qX10_byteAt.1, qX10_byteAt.2.1, qX10_byteAt.2.2, by decide, by decide⟩ lkRX10_77 imX10_byteAt seX10_byteAt rfl rfl (by omega) (by omega) hM0 rfl (Nat.le_of_ble_eq_true rfl) (Nat.zero_le _) (Nat.zero_le _) (c_mByteN _ n a0 F (xa_upf s 15 ((a0 : Nat) : Int)) (by omega) hs0 hn9 ⟨hM0, hM1, hM2, hM3, hM4, hM5, hM6, hM7, hM8, hM9, hM10, hM11, hM12, hM13, hM14, hM15, hM16, by omega, by omega⟩) (fun r h' hq => ?_)
              obtain ⟨⟨y139_7, rfl, by139_7⟩, hq⟩ := hq
              have by139_7 : y139_7 = sp_at n (F 1) ((a0 : Nat) : Int) ∨ y139_7 = 0 ∧ sp_at n (F 1) ((a0 : Nat) : Int) = -1 := by139_7
              have hq := hq.symm
              subst hq
              have ay139_7 := sp_at_b (n := n) hf ((a0 : Nat) : Int)
              refine xa_iload_n (pc := 142) dX10_figures_142 rfl ?_
              refine xa_iload_n (pc := 143) dX10_figures_143 rfl ?_
              refine xa_iconst (pc := 144) dX10_figures_144 ?_
              refine xa_isub (pc := 145) dX10_figures_145 ?_
              refine xa_top (y := 0) (by decide) ?_
              refine xa_icmp_ge (pc := 146) (tgt := 154) dX10_figures_146 (by decide) (by decide) (by decide) (fun c_146 => ?_) (fun c_146 => ?_)
              · skip
                refine xa_bipush (pc := 154) dX10_figures_154 rfl ?_
                refine xa_icmp_eq (pc := 156) (tgt := 161) dX10_figures_156 (by decide) ⟨by omega, by omega⟩ (by decide) (fun c_156 => ?_) (fun c_156 => ?_)
                · skip
                  refine xa_aload_n (pc := 161) dX10_figures_161 rfl ?_
                  refine xa_getfield (pc := 162) dX10_figures_162 flRX10_46 (by omega) (by omega) hM0 rfl ?_
                  refine xa_iload_n (pc := 165) dX10_figures_165 rfl ?_
                  refine xa_iload_n (pc := 166) dX10_figures_166 rfl ?_
                  refine xa_if_eq (pc := 167) (tgt := 176) dX10_figures_167 (by decide) (by decide) (fun c_167 => ?_) (fun c_167 => ?_)
                  · skip
                    exfalso; omega
                  · skip
                    refine xa_iload (pc := 170) dX10_figures_170 rfl ?_
                    refine xa_ineg (pc := 172) dX10_figures_172 ?_
                    refine xa_goto (pc := 173) (tgt := 178) dX10_figures_173 (by decide) ?_
                    refine xa_iastw (pc := 178) 0 dX10_figures_178 (by omega) (by omega) hM13 (by omega) (by omega) rfl (fun h8 nh8 ch8 oh8 => ?_)
                    have hM13 : h8.1 (k + 13) = xa_a 3 (xa_upf (F 13) 0 (-x0)) := ch8
                    have hM0 : h8.1 k = xa_o 10 [xa_i (s 0), xa_r (k + 1), xa_r (k + 2), xa_r (k + 3), xa_r (k + 4), xa_r (k + 5), xa_r (k + 6), xa_r (k + 7), xa_r (k + 8), xa_r (k + 9), xa_r (k + 10), xa_r (k + 11), xa_r (k + 12), xa_i (s 13), xa_i (s 14), xa_i ((a0 : Nat) : Int), xa_r (k + 13), xa_i (s 17), xa_i (s 18), xa_i (s 19), xa_i (s 20), xa_r (k + 14), xa_r (k + 15), xa_i (s 23), xa_r (k + 16)] := (oh8 _ (by omega)).trans hM0
                    have hM1 : h8.1 (k + 1) = xa_a 120 (F 1) := (oh8 _ (by omega)).trans hM1
                    have hM2 : h8.1 (k + 2) = xa_a 2 (F 2) := (oh8 _ (by omega)).trans hM2
                    have hM3 : h8.1 (k + 3) = xa_a 18 (F 3) := (oh8 _ (by omega)).trans hM3
                    have hM4 : h8.1 (k + 4) = xa_a 2 (F 4) := (oh8 _ (by omega)).trans hM4
                    have hM5 : h8.1 (k + 5) = xa_a 4 (F 5) := (oh8 _ (by omega)).trans hM5
                    have hM6 : h8.1 (k + 6) = xa_a 4 (F 6) := (oh8 _ (by omega)).trans hM6
                    have hM7 : h8.1 (k + 7) = xa_a 2 (F 7) := (oh8 _ (by omega)).trans hM7
                    have hM8 : h8.1 (k + 8) = xa_a 2 (F 8) := (oh8 _ (by omega)).trans hM8
                    have hM9 : h8.1 (k + 9) = xa_a 12 (F 9) := (oh8 _ (by omega)).trans hM9
                    have hM10 : h8.1 (k + 10) = xa_a 720 (F 10) := (oh8 _ (by omega)).trans hM10
                    have hM11 : h8.1 (k + 11) = xa_a 3 (F 11) := (oh8 _ (by omega)).trans hM11
                    have hM12 : h8.1 (k + 12) = xa_a 360 (F 12) := (oh8 _ (by omega)).trans hM12
                    have hM14 : h8.1 (k + 14) = xa_a 583200 (F 14) := (oh8 _ (by omega)).trans hM14
                    have hM15 : h8.1 (k + 15) = xa_a 583200 (F 15) := (oh8 _ (by omega)).trans hM15
                    have hM16 : h8.1 (k + 16) = xa_a 4 (F 16) := (oh8 _ (by omega)).trans hM16
                    have hn : h8.2 = h.2 := nh8.trans hn
                    have fr : ∀ i, (i < k ∨ k + 17 ≤ i) → h8.1 i = h.1 i := fun i hi => (oh8 i (by omega)).trans (fr i hi)
                    refine xa_aload_n (pc := 179) dX10_figures_179 rfl ?_
                    refine xa_dup (pc := 180) dX10_figures_180 rfl ?_
                    refine xa_getfield (pc := 181) dX10_figures_181 flRX10_74 (by omega) (by omega) hM0 rfl ?_
                    refine xa_iconst (pc := 184) dX10_figures_184 ?_
                    refine xa_iadd (pc := 185) dX10_figures_185 ?_
                    refine xa_top (y := ((a0 + 1 : Nat) : Int)) (by omega) ?_
                    refine xa_putw (pc := 186) [xa_i (s 0), xa_r (k + 1), xa_r (k + 2), xa_r (k + 3), xa_r (k + 4), xa_r (k + 5), xa_r (k + 6), xa_r (k + 7), xa_r (k + 8), xa_r (k + 9), xa_r (k + 10), xa_r (k + 11), xa_r (k + 12), xa_i (s 13), xa_i (s 14), xa_i ((a0 + 1 : Nat) : Int), xa_r (k + 13), xa_i (s 17), xa_i (s 18), xa_i (s 19), xa_i (s 20), xa_r (k + 14), xa_r (k + 15), xa_i (s 23), xa_r (k + 16)] dX10_figures_186 flRX10_74 plX10_15 (by omega) (by omega) hM0 trivial rfl (fun h9 nh9 ch9 oh9 => ?_)
                    have hM0 : h9.1 k = xa_o 10 [xa_i (s 0), xa_r (k + 1), xa_r (k + 2), xa_r (k + 3), xa_r (k + 4), xa_r (k + 5), xa_r (k + 6), xa_r (k + 7), xa_r (k + 8), xa_r (k + 9), xa_r (k + 10), xa_r (k + 11), xa_r (k + 12), xa_i (s 13), xa_i (s 14), xa_i ((a0 + 1 : Nat) : Int), xa_r (k + 13), xa_i (s 17), xa_i (s 18), xa_i (s 19), xa_i (s 20), xa_r (k + 14), xa_r (k + 15), xa_i (s 23), xa_r (k + 16)] := ch9
                    have hM1 : h9.1 (k + 1) = xa_a 120 (F 1) := (oh9 _ (by omega)).trans hM1
                    have hM2 : h9.1 (k + 2) = xa_a 2 (F 2) := (oh9 _ (by omega)).trans hM2
                    have hM3 : h9.1 (k + 3) = xa_a 18 (F 3) := (oh9 _ (by omega)).trans hM3
                    have hM4 : h9.1 (k + 4) = xa_a 2 (F 4) := (oh9 _ (by omega)).trans hM4
                    have hM5 : h9.1 (k + 5) = xa_a 4 (F 5) := (oh9 _ (by omega)).trans hM5
                    have hM6 : h9.1 (k + 6) = xa_a 4 (F 6) := (oh9 _ (by omega)).trans hM6
                    have hM7 : h9.1 (k + 7) = xa_a 2 (F 7) := (oh9 _ (by omega)).trans hM7
                    have hM8 : h9.1 (k + 8) = xa_a 2 (F 8) := (oh9 _ (by omega)).trans hM8
                    have hM9 : h9.1 (k + 9) = xa_a 12 (F 9) := (oh9 _ (by omega)).trans hM9
                    have hM10 : h9.1 (k + 10) = xa_a 720 (F 10) := (oh9 _ (by omega)).trans hM10
                    have hM11 : h9.1 (k + 11) = xa_a 3 (F 11) := (oh9 _ (by omega)).trans hM11
                    have hM12 : h9.1 (k + 12) = xa_a 360 (F 12) := (oh9 _ (by omega)).trans hM12
                    have hM13 : h9.1 (k + 13) = xa_a 3 (xa_upf (F 13) 0 (-x0)) := (oh9 _ (by omega)).trans hM13
                    have hM14 : h9.1 (k + 14) = xa_a 583200 (F 14) := (oh9 _ (by omega)).trans hM14
                    have hM15 : h9.1 (k + 15) = xa_a 583200 (F 15) := (oh9 _ (by omega)).trans hM15
                    have hM16 : h9.1 (k + 16) = xa_a 4 (F 16) := (oh9 _ (by omega)).trans hM16
                    have hn : h9.2 = h.2 := nh9.trans hn
                    have fr : ∀ i, (i < k ∨ k + 17 ≤ i) → h9.1 i = h.1 i := fun i hi => (oh9 i (by omega)).trans (fr i hi)
                    refine xa_iincw (pc := 189) (y := 1) [some (xa_r k), some (xa_i 1), some (xa_i 1), some (xa_i 1), some (xa_i ((m0 : Nat) : Int)), some (xa_i x0)] dX10_figures_189 (by decide) rfl rfl rfl rfl ?_
                    refine xa_goto (pc := 192) (tgt := 2) dX10_figures_192 (by decide) ?_
                    refine xa_iload_n (pc := 2) dX10_figures_2 rfl ?_
                    refine xa_iload_n (pc := 3) dX10_figures_3 rfl ?_
                    refine xa_icmp_ge (pc := 4) (tgt := 195) dX10_figures_4 (by decide) (by decide) (by decide) (fun c_4 => ?_) (fun c_4 => ?_)
                    · skip
                      refine xa_iconst (pc := 195) dX10_figures_195 ?_
                      refine xa_ireturn (pc := 196) dX10_figures_196 rfl (Or.inr rfl) ?_
                      have e0 : rd_num n (F 1) p = some ((-x0), a0) := by rw [z0, if_pos (by omega)]; rfl
                      exact Or.inl ⟨_, fg1_y e0 (by omega), rfl, ⟨hM0, hM1, hM2, hM3, hM4, hM5, hM6, hM7, hM8, hM9, hM10, hM11, hM12, hM13, hM14, hM15, hM16, by omega, by omega⟩, hn, fr⟩
                    · skip
                      exfalso; omega
                · skip
                  refine xa_iconst (pc := 159) dX10_figures_159 ?_
                  refine xa_ireturn (pc := 160) dX10_figures_160 rfl (Or.inl rfl) ?_
                  have ng : nosg n (F 1) p 59 := by
                    by_cases hc : (1 ≤ m0 ∧ m0 ≤ 4) ∧ ¬ ((1 : Nat) = 1 ∧ x0 = 0)
                    · exact Or.inr ⟨_, _, by rw [z0, if_pos hc], by omega⟩
                    · exact Or.inl (by rw [z0, if_neg hc])
                  exact Or.inr ⟨fg1_0 ng, rfl, _, _, ⟨hM0, hM1, hM2, hM3, hM4, hM5, hM6, hM7, hM8, hM9, hM10, hM11, hM12, hM13, hM14, hM15, hM16, by omega, by omega⟩, hn, fr⟩
              · skip
                exfalso; omega
