/-! Reader.takesItem -/
abbrev xBt : Type := (Nat → Int) × (Nat → Int) × Nat × Nat × Int × Int × Int × Int
def xBb (h : xa_H) (k : Nat) (b : xBt) : Prop := xB h k b.1 b.2.1 b.2.2.1 b.2.2.2.1 b.2.2.2.2.1 b.2.2.2.2.2.1 b.2.2.2.2.2.2.1 b.2.2.2.2.2.2.2
/-- what an item makes of a body: its letter, how many numbers, the numbers -/
def sp_item (ld dg : Nat → Int) (pa jo : Nat) (wa sr pu ri : Int) (q c : Int) (nu : Nat → Int) : Option xBt :=
  if q = 112 then (if c = 3 ∧ pa ≤ 2 ∧ (1 ≤ nu 0 ∧ nu 0 ≤ 99) ∧ (1 ≤ nu 1 ∧ nu 1 ≤ 99) ∧ (1 ≤ nu 2 ∧ nu 2 ≤ 99) then some (xa_upf (xa_upf (xa_upf ld (pa * 3) (nu 0)) (pa * 3 + 1) (nu 1)) (pa * 3 + 2) (nu 2), dg, pa + 1, jo, wa, sr, pu, ri) else none)
  else if c ≠ 1 then none
  else if q = 106 then (if jo < 2 ∧ 1 ≤ nu 0 ∧ nu 0 ≤ 90 then some (ld, xa_upf dg jo (nu 0), pa, jo + 1, wa, sr, pu, ri) else none)
  else if q = 119 then (if sp_told (nu 0) 8 = true ∧ wa = -4 ∧ jo < 2 then some (ld, xa_upf dg jo (nu 0), pa, jo + 1, ((jo : Nat) : Int), (360 : Int).tdiv (nu 0), pu, ri) else none)
  else if q = 108 then some (ld, dg, pa, jo, wa, sr, nu 0, ri)
  else if q = 101 then (if 0 ≤ nu 0 ∧ nu 0 ≤ 90 then some (ld, dg, pa, jo, wa, sr, pu, nu 0) else none)
  else none

theorem c_takesItem {G : xa_G} {h : xa_H} (k kt kb p : Nat) (nu ld dg : Nat → Int) (pa jo : Nat) (wa sr pu ri q c : Int) (hk : 2 ≤ k) (hkn : k + 1 < h.2) (hkk : kb + 3 ≤ k) (hq : xa_ok q) (hc : xa_ok c) (hpa : pa ≤ 3) (hjo : jo ≤ 2) (hwa : xa_ok wa) (hnu : ∀ i, -9999 ≤ nu i ∧ nu i ≤ 9999) (hR0 : h.1 k = xa_o 2 [xa_r kt, xa_r kb, xa_r (k + 1), xa_i ((p : Nat) : Int)]) (hR1 : h.1 (k + 1) = xa_a 3 nu) (hW : h.1 1 = xa_a 8 xa_wagf) (hB : xB h kb ld dg pa jo wa sr pu ri)  : xa_M G mX2_takesItem [xa_r k, xa_i q, xa_i c] h 0 0 (fun r h' => ((∃ b, sp_item ld dg pa jo wa sr pu ri q c nu = some b ∧ r = some (xa_i 1) ∧ xBb h' kb b) ∨ (sp_item ld dg pa jo wa sr pu ri q c nu = none ∧ r = some (xa_i 0) ∧ xB h' kb ld dg pa jo wa sr pu ri)) ∧ h'.2 = h.2 ∧ ∀ i, (i < kb ∨ kb + 3 ≤ i) → h'.1 i = h.1 i) := by
  refine xa_enter (by decide +kernel) (Nat.le_of_ble_eq_true rfl) ?_
  refine xa_locals (ls' := [some (xa_r k), some (xa_i q), some (xa_i c)]) rfl ?_
  have hn : h.2 = h.2 := rfl
  have fr : ∀ i, (i < kb ∨ kb + 3 ≤ i) → h.1 i = h.1 i := fun _ _ => rfl
  obtain ⟨hB0, hB1, hB2, hBk, hBn⟩ := hB
  refine xa_aload_n (pc := 0) dX2_takesItem_0 rfl ?_
  refine xa_getfield (pc := 1) dX2_takesItem_1 flRX2_9 (by omega) (by omega) hR0 rfl ?_
  refine xa_alen (pc := 4) dX2_takesItem_4 (by omega) hR1 ?_
  refine xa_top (y := 3) rfl ?_
  refine xa_iconst (pc := 5) dX2_takesItem_5 ?_
  refine xa_icmp_ge (pc := 6) (tgt := 11) dX2_takesItem_6 (by decide) (by decide) (by decide) (fun c_6 => ?_) (fun c_6 => ?_)
  · skip
    refine xa_iload_n (pc := 11) dX2_takesItem_11 rfl ?_
    refine xa_bipush (pc := 12) dX2_takesItem_12 rfl ?_
    refine xa_icmp_ne (pc := 14) (tgt := 56) dX2_takesItem_14 (by decide) ⟨by omega, by omega⟩ (by decide) (fun c_14 => ?_) (fun c_14 => ?_)
    · skip
      refine xa_iload_n (pc := 56) dX2_takesItem_56 rfl ?_
      refine xa_iconst (pc := 57) dX2_takesItem_57 ?_
      refine xa_icmp_eq (pc := 58) (tgt := 63) dX2_takesItem_58 (by decide) ⟨by omega, by omega⟩ (by decide) (fun c_58 => ?_) (fun c_58 => ?_)
      · skip
        refine xa_iload_n (pc := 63) dX2_takesItem_63 rfl ?_
        by_cases w_64_101 : q = 101
        · refine xa_lookup (pc := 64) (off := 86) (tgt := 150) dX2_takesItem_64 rfl ⟨by omega, by omega⟩ (by rw [w_64_101]; rfl) (by decide) ?_
          refine xa_aload_n (pc := 150) dX2_takesItem_150 rfl ?_
          refine xa_getfield (pc := 151) dX2_takesItem_151 flRX2_19 (by omega) (by omega) hR0 rfl ?_
          refine xa_aload_n (pc := 154) dX2_takesItem_154 rfl ?_
          refine xa_getfield (pc := 155) dX2_takesItem_155 flRX2_9 (by omega) (by omega) hR0 rfl ?_
          refine xa_iconst (pc := 158) dX2_takesItem_158 ?_
          refine xa_ialdw (pc := 159) 0 dX2_takesItem_159 (by omega) hR1 (by omega) (by omega) rfl ?_
          have b_159 := hnu (0)
          refine xa_callV (pc := 160) (as := [xa_i (nu 0)]) (rest := []) dX2_takesItem_160 ⟨qX0_takesRight.1, qX0_takesRight.2.1, qX0_takesRight.2.2, by decide, by decide⟩ lkRX2_69 imX0_takesRight seX0_takesRight rfl rfl (by omega) (by omega) hB0 rfl (Nat.le_of_ble_eq_true rfl) (Nat.zero_le _) (Nat.zero_le _) (c_takesRight _ _ _ _ _ _ _ _ _ _ ⟨by omega, by omega⟩ ⟨hB0, hB1, hB2, by omega, by omega⟩) (fun r h' hq => ?_)
          obtain ⟨hq, hqn, hqf⟩ := hq
          rcases hq with ⟨hj, rfl, hB0, hB1, hB2, -, -⟩ | ⟨hj, rfl, hB0, hB1, hB2, -, -⟩
          · skip
            have hR0 : h'.1 k = xa_o 2 [xa_r kt, xa_r kb, xa_r (k + 1), xa_i ((p : Nat) : Int)] := (hqf _ (by omega)).trans hR0
            have hR1 : h'.1 (k + 1) = xa_a 3 nu := (hqf _ (by omega)).trans hR1
            have hW : h'.1 1 = xa_a 8 xa_wagf := (hqf _ (by omega)).trans hW
            have hn : h'.2 = h.2 := hqn.trans hn
            have fr : ∀ i, (i < kb ∨ kb + 3 ≤ i) → h'.1 i = h.1 i := fun i hi => (hqf i (by omega)).trans (fr i hi)
            refine xa_ireturn (pc := 163) dX2_takesItem_163 rfl (Or.inr rfl) ?_
            first | exact ⟨Or.inl ⟨_, by unfold sp_item; first | (rw [if_pos (by omega), if_pos (by omega)]; done) | (rw [if_pos (by omega), if_neg (by omega)]; done) | (rw [if_neg (by omega), if_pos (by omega)]; done) | (rw [if_neg (by omega), if_neg (by omega), if_pos (by omega)]; first | (rw [if_pos (by omega)]; done) | (rw [if_neg (by omega)]; done)) | (rw [if_neg (by omega), if_neg (by omega), if_neg (by omega), if_pos (by omega)]; first | (rw [if_pos (by rw [sp_told_8]; exact hj)]; done) | (rw [if_neg (by rw [sp_told_8]; exact hj)]; done)) | (rw [if_neg (by omega), if_neg (by omega), if_neg (by omega), if_neg (by omega), if_pos (by omega)]; done) | (rw [if_neg (by omega), if_neg (by omega), if_neg (by omega), if_neg (by omega), if_neg (by omega)]; first | (rw [if_pos (by omega)]; first | (rw [if_pos (by omega)]; done) | (rw [if_neg (by omega)]; done)) | (rw [if_neg (by omega)]; done)), rfl, hB0, hB1, hB2, by omega, by omega⟩, hn, fr⟩ | (exfalso; omega)
          · skip
            have hR0 : h'.1 k = xa_o 2 [xa_r kt, xa_r kb, xa_r (k + 1), xa_i ((p : Nat) : Int)] := (hqf _ (by omega)).trans hR0
            have hR1 : h'.1 (k + 1) = xa_a 3 nu := (hqf _ (by omega)).trans hR1
            have hW : h'.1 1 = xa_a 8 xa_wagf := (hqf _ (by omega)).trans hW
            have hn : h'.2 = h.2 := hqn.trans hn
            have fr : ∀ i, (i < kb ∨ kb + 3 ≤ i) → h'.1 i = h.1 i := fun i hi => (hqf i (by omega)).trans (fr i hi)
            refine xa_ireturn (pc := 163) dX2_takesItem_163 rfl (Or.inl rfl) ?_
            first | exact ⟨Or.inr ⟨by unfold sp_item; first | (rw [if_pos (by omega), if_pos (by omega)]; done) | (rw [if_pos (by omega), if_neg (by omega)]; done) | (rw [if_neg (by omega), if_pos (by omega)]; done) | (rw [if_neg (by omega), if_neg (by omega), if_pos (by omega)]; first | (rw [if_pos (by omega)]; done) | (rw [if_neg (by omega)]; done)) | (rw [if_neg (by omega), if_neg (by omega), if_neg (by omega), if_pos (by omega)]; first | (rw [if_pos (by rw [sp_told_8]; exact hj)]; done) | (rw [if_neg (by rw [sp_told_8]; exact hj)]; done)) | (rw [if_neg (by omega), if_neg (by omega), if_neg (by omega), if_neg (by omega), if_pos (by omega)]; done) | (rw [if_neg (by omega), if_neg (by omega), if_neg (by omega), if_neg (by omega), if_neg (by omega)]; first | (rw [if_pos (by omega)]; first | (rw [if_pos (by omega)]; done) | (rw [if_neg (by omega)]; done)) | (rw [if_neg (by omega)]; done)), rfl, hB0, hB1, hB2, by omega, by omega⟩, hn, fr⟩ | (exfalso; omega)
        by_cases w_64_106 : q = 106
        · refine xa_lookup (pc := 64) (off := 44) (tgt := 108) dX2_takesItem_64 rfl ⟨by omega, by omega⟩ (by rw [w_64_106]; rfl) (by decide) ?_
          refine xa_aload_n (pc := 108) dX2_takesItem_108 rfl ?_
          refine xa_getfield (pc := 109) dX2_takesItem_109 flRX2_19 (by omega) (by omega) hR0 rfl ?_
          refine xa_aload_n (pc := 112) dX2_takesItem_112 rfl ?_
          refine xa_getfield (pc := 113) dX2_takesItem_113 flRX2_9 (by omega) (by omega) hR0 rfl ?_
          refine xa_iconst (pc := 116) dX2_takesItem_116 ?_
          refine xa_ialdw (pc := 117) 0 dX2_takesItem_117 (by omega) hR1 (by omega) (by omega) rfl ?_
          have b_117 := hnu (0)
          refine xa_callV (pc := 118) (as := [xa_i (nu 0)]) (rest := []) dX2_takesItem_118 ⟨qX0_takesBend.1, qX0_takesBend.2.1, qX0_takesBend.2.2, by decide, by decide⟩ lkRX2_60 imX0_takesBend seX0_takesBend rfl rfl (by omega) (by omega) hB0 rfl (Nat.le_of_ble_eq_true rfl) (Nat.zero_le _) (Nat.zero_le _) (c_takesBend _ _ _ _ _ _ _ _ _ _ ⟨by omega, by omega⟩ (by omega) ⟨hB0, hB1, hB2, by omega, by omega⟩) (fun r h' hq => ?_)
          obtain ⟨hq, hqn, hqf⟩ := hq
          rcases hq with ⟨hj, rfl, hB0, hB1, hB2, -, -⟩ | ⟨hj, rfl, hB0, hB1, hB2, -, -⟩
          · skip
            have hR0 : h'.1 k = xa_o 2 [xa_r kt, xa_r kb, xa_r (k + 1), xa_i ((p : Nat) : Int)] := (hqf _ (by omega)).trans hR0
            have hR1 : h'.1 (k + 1) = xa_a 3 nu := (hqf _ (by omega)).trans hR1
            have hW : h'.1 1 = xa_a 8 xa_wagf := (hqf _ (by omega)).trans hW
            have hn : h'.2 = h.2 := hqn.trans hn
            have fr : ∀ i, (i < kb ∨ kb + 3 ≤ i) → h'.1 i = h.1 i := fun i hi => (hqf i (by omega)).trans (fr i hi)
            refine xa_ireturn (pc := 121) dX2_takesItem_121 rfl (Or.inr rfl) ?_
            first | exact ⟨Or.inl ⟨_, by unfold sp_item; first | (rw [if_pos (by omega), if_pos (by omega)]; done) | (rw [if_pos (by omega), if_neg (by omega)]; done) | (rw [if_neg (by omega), if_pos (by omega)]; done) | (rw [if_neg (by omega), if_neg (by omega), if_pos (by omega)]; first | (rw [if_pos (by omega)]; done) | (rw [if_neg (by omega)]; done)) | (rw [if_neg (by omega), if_neg (by omega), if_neg (by omega), if_pos (by omega)]; first | (rw [if_pos (by rw [sp_told_8]; exact hj)]; done) | (rw [if_neg (by rw [sp_told_8]; exact hj)]; done)) | (rw [if_neg (by omega), if_neg (by omega), if_neg (by omega), if_neg (by omega), if_pos (by omega)]; done) | (rw [if_neg (by omega), if_neg (by omega), if_neg (by omega), if_neg (by omega), if_neg (by omega)]; first | (rw [if_pos (by omega)]; first | (rw [if_pos (by omega)]; done) | (rw [if_neg (by omega)]; done)) | (rw [if_neg (by omega)]; done)), rfl, hB0, hB1, hB2, by omega, by omega⟩, hn, fr⟩ | (exfalso; omega)
          · skip
            have hR0 : h'.1 k = xa_o 2 [xa_r kt, xa_r kb, xa_r (k + 1), xa_i ((p : Nat) : Int)] := (hqf _ (by omega)).trans hR0
            have hR1 : h'.1 (k + 1) = xa_a 3 nu := (hqf _ (by omega)).trans hR1
            have hW : h'.1 1 = xa_a 8 xa_wagf := (hqf _ (by omega)).trans hW
            have hn : h'.2 = h.2 := hqn.trans hn
            have fr : ∀ i, (i < kb ∨ kb + 3 ≤ i) → h'.1 i = h.1 i := fun i hi => (hqf i (by omega)).trans (fr i hi)
            refine xa_ireturn (pc := 121) dX2_takesItem_121 rfl (Or.inl rfl) ?_
            first | exact ⟨Or.inr ⟨by unfold sp_item; first | (rw [if_pos (by omega), if_pos (by omega)]; done) | (rw [if_pos (by omega), if_neg (by omega)]; done) | (rw [if_neg (by omega), if_pos (by omega)]; done) | (rw [if_neg (by omega), if_neg (by omega), if_pos (by omega)]; first | (rw [if_pos (by omega)]; done) | (rw [if_neg (by omega)]; done)) | (rw [if_neg (by omega), if_neg (by omega), if_neg (by omega), if_pos (by omega)]; first | (rw [if_pos (by rw [sp_told_8]; exact hj)]; done) | (rw [if_neg (by rw [sp_told_8]; exact hj)]; done)) | (rw [if_neg (by omega), if_neg (by omega), if_neg (by omega), if_neg (by omega), if_pos (by omega)]; done) | (rw [if_neg (by omega), if_neg (by omega), if_neg (by omega), if_neg (by omega), if_neg (by omega)]; first | (rw [if_pos (by omega)]; first | (rw [if_pos (by omega)]; done) | (rw [if_neg (by omega)]; done)) | (rw [if_neg (by omega)]; done)), rfl, hB0, hB1, hB2, by omega, by omega⟩, hn, fr⟩ | (exfalso; omega)
        by_cases w_64_108 : q = 108
        · refine xa_lookup (pc := 64) (off := 72) (tgt := 136) dX2_takesItem_64 rfl ⟨by omega, by omega⟩ (by rw [w_64_108]; rfl) (by decide) ?_
          refine xa_aload_n (pc := 136) dX2_takesItem_136 rfl ?_
          refine xa_getfield (pc := 137) dX2_takesItem_137 flRX2_19 (by omega) (by omega) hR0 rfl ?_
          refine xa_aload_n (pc := 140) dX2_takesItem_140 rfl ?_
          refine xa_getfield (pc := 141) dX2_takesItem_141 flRX2_9 (by omega) (by omega) hR0 rfl ?_
          refine xa_iconst (pc := 144) dX2_takesItem_144 ?_
          refine xa_ialdw (pc := 145) 0 dX2_takesItem_145 (by omega) hR1 (by omega) (by omega) rfl ?_
          have b_145 := hnu (0)
          refine xa_callV (pc := 146) (as := [xa_i (nu 0)]) (rest := []) dX2_takesItem_146 ⟨qX0_takesPush.1, qX0_takesPush.2.1, qX0_takesPush.2.2, by decide, by decide⟩ lkRX2_66 imX0_takesPush seX0_takesPush rfl rfl (by omega) (by omega) hB0 rfl (Nat.le_of_ble_eq_true rfl) (Nat.zero_le _) (Nat.zero_le _) (c_takesPush _ _ _ _ _ _ _ _ _ _ ⟨hB0, hB1, hB2, by omega, by omega⟩) (fun r h' hq => ?_)
          obtain ⟨rfl, ⟨hB0, hB1, hB2, -, -⟩, hqn, hqf⟩ := hq
          have hR0 : h'.1 k = xa_o 2 [xa_r kt, xa_r kb, xa_r (k + 1), xa_i ((p : Nat) : Int)] := (hqf _ (by omega)).trans hR0
          have hR1 : h'.1 (k + 1) = xa_a 3 nu := (hqf _ (by omega)).trans hR1
          have hW : h'.1 1 = xa_a 8 xa_wagf := (hqf _ (by omega)).trans hW
          have hn : h'.2 = h.2 := hqn.trans hn
          have fr : ∀ i, (i < kb ∨ kb + 3 ≤ i) → h'.1 i = h.1 i := fun i hi => (hqf i (by omega)).trans (fr i hi)
          refine xa_ireturn (pc := 149) dX2_takesItem_149 rfl (Or.inr rfl) ?_
          first | exact ⟨Or.inl ⟨_, by unfold sp_item; first | (rw [if_pos (by omega), if_pos (by omega)]; done) | (rw [if_pos (by omega), if_neg (by omega)]; done) | (rw [if_neg (by omega), if_pos (by omega)]; done) | (rw [if_neg (by omega), if_neg (by omega), if_pos (by omega)]; first | (rw [if_pos (by omega)]; done) | (rw [if_neg (by omega)]; done)) | (rw [if_neg (by omega), if_neg (by omega), if_neg (by omega), if_pos (by omega)]; first | (rw [if_pos (by rw [sp_told_8]; exact hj)]; done) | (rw [if_neg (by rw [sp_told_8]; exact hj)]; done)) | (rw [if_neg (by omega), if_neg (by omega), if_neg (by omega), if_neg (by omega), if_pos (by omega)]; done) | (rw [if_neg (by omega), if_neg (by omega), if_neg (by omega), if_neg (by omega), if_neg (by omega)]; first | (rw [if_pos (by omega)]; first | (rw [if_pos (by omega)]; done) | (rw [if_neg (by omega)]; done)) | (rw [if_neg (by omega)]; done)), rfl, hB0, hB1, hB2, by omega, by omega⟩, hn, fr⟩ | (exfalso; omega)
        by_cases w_64_119 : q = 119
        · refine xa_lookup (pc := 64) (off := 58) (tgt := 122) dX2_takesItem_64 rfl ⟨by omega, by omega⟩ (by rw [w_64_119]; rfl) (by decide) ?_
          refine xa_aload_n (pc := 122) dX2_takesItem_122 rfl ?_
          refine xa_getfield (pc := 123) dX2_takesItem_123 flRX2_19 (by omega) (by omega) hR0 rfl ?_
          refine xa_aload_n (pc := 126) dX2_takesItem_126 rfl ?_
          refine xa_getfield (pc := 127) dX2_takesItem_127 flRX2_9 (by omega) (by omega) hR0 rfl ?_
          refine xa_iconst (pc := 130) dX2_takesItem_130 ?_
          refine xa_ialdw (pc := 131) 0 dX2_takesItem_131 (by omega) hR1 (by omega) (by omega) rfl ?_
          have b_131 := hnu (0)
          refine xa_callV (pc := 132) (as := [xa_i (nu 0)]) (rest := []) dX2_takesItem_132 ⟨qX0_takesWag.1, qX0_takesWag.2.1, qX0_takesWag.2.2, by decide, by decide⟩ lkRX2_63 imX0_takesWag seX0_takesWag rfl rfl (by omega) (by omega) hB0 rfl (Nat.le_of_ble_eq_true rfl) (Nat.zero_le _) (Nat.zero_le _) (c_takesWag _ _ _ _ _ _ _ _ _ _ (by omega) (by omega) hwa hW ⟨hB0, hB1, hB2, by omega, by omega⟩) (fun r h' hq => ?_)
          obtain ⟨hq, hqn, hqf⟩ := hq
          rcases hq with ⟨hj, rfl, hB0, hB1, hB2, -, -⟩ | ⟨hj, rfl, hB0, hB1, hB2, -, -⟩
          · skip
            have hR0 : h'.1 k = xa_o 2 [xa_r kt, xa_r kb, xa_r (k + 1), xa_i ((p : Nat) : Int)] := (hqf _ (by omega)).trans hR0
            have hR1 : h'.1 (k + 1) = xa_a 3 nu := (hqf _ (by omega)).trans hR1
            have hW : h'.1 1 = xa_a 8 xa_wagf := (hqf _ (by omega)).trans hW
            have hn : h'.2 = h.2 := hqn.trans hn
            have fr : ∀ i, (i < kb ∨ kb + 3 ≤ i) → h'.1 i = h.1 i := fun i hi => (hqf i (by omega)).trans (fr i hi)
            refine xa_ireturn (pc := 135) dX2_takesItem_135 rfl (Or.inr rfl) ?_
            first | exact ⟨Or.inl ⟨_, by unfold sp_item; first | (rw [if_pos (by omega), if_pos (by omega)]; done) | (rw [if_pos (by omega), if_neg (by omega)]; done) | (rw [if_neg (by omega), if_pos (by omega)]; done) | (rw [if_neg (by omega), if_neg (by omega), if_pos (by omega)]; first | (rw [if_pos (by omega)]; done) | (rw [if_neg (by omega)]; done)) | (rw [if_neg (by omega), if_neg (by omega), if_neg (by omega), if_pos (by omega)]; first | (rw [if_pos (by rw [sp_told_8]; exact hj)]; done) | (rw [if_neg (by rw [sp_told_8]; exact hj)]; done)) | (rw [if_neg (by omega), if_neg (by omega), if_neg (by omega), if_neg (by omega), if_pos (by omega)]; done) | (rw [if_neg (by omega), if_neg (by omega), if_neg (by omega), if_neg (by omega), if_neg (by omega)]; first | (rw [if_pos (by omega)]; first | (rw [if_pos (by omega)]; done) | (rw [if_neg (by omega)]; done)) | (rw [if_neg (by omega)]; done)), rfl, hB0, hB1, hB2, by omega, by omega⟩, hn, fr⟩ | (exfalso; omega)
          · skip
            have hR0 : h'.1 k = xa_o 2 [xa_r kt, xa_r kb, xa_r (k + 1), xa_i ((p : Nat) : Int)] := (hqf _ (by omega)).trans hR0
            have hR1 : h'.1 (k + 1) = xa_a 3 nu := (hqf _ (by omega)).trans hR1
            have hW : h'.1 1 = xa_a 8 xa_wagf := (hqf _ (by omega)).trans hW
            have hn : h'.2 = h.2 := hqn.trans hn
            have fr : ∀ i, (i < kb ∨ kb + 3 ≤ i) → h'.1 i = h.1 i := fun i hi => (hqf i (by omega)).trans (fr i hi)
            refine xa_ireturn (pc := 135) dX2_takesItem_135 rfl (Or.inl rfl) ?_
            first | exact ⟨Or.inr ⟨by unfold sp_item; first | (rw [if_pos (by omega), if_pos (by omega)]; done) | (rw [if_pos (by omega), if_neg (by omega)]; done) | (rw [if_neg (by omega), if_pos (by omega)]; done) | (rw [if_neg (by omega), if_neg (by omega), if_pos (by omega)]; first | (rw [if_pos (by omega)]; done) | (rw [if_neg (by omega)]; done)) | (rw [if_neg (by omega), if_neg (by omega), if_neg (by omega), if_pos (by omega)]; first | (rw [if_pos (by rw [sp_told_8]; exact hj)]; done) | (rw [if_neg (by rw [sp_told_8]; exact hj)]; done)) | (rw [if_neg (by omega), if_neg (by omega), if_neg (by omega), if_neg (by omega), if_pos (by omega)]; done) | (rw [if_neg (by omega), if_neg (by omega), if_neg (by omega), if_neg (by omega), if_neg (by omega)]; first | (rw [if_pos (by omega)]; first | (rw [if_pos (by omega)]; done) | (rw [if_neg (by omega)]; done)) | (rw [if_neg (by omega)]; done)), rfl, hB0, hB1, hB2, by omega, by omega⟩, hn, fr⟩ | (exfalso; omega)
        refine xa_lookup (pc := 64) (off := 100) (tgt := 164) dX2_takesItem_64 rfl ⟨by omega, by omega⟩ (by simp [Op.lookupswitch.offset, Ne.symm w_64_101, Ne.symm w_64_106, Ne.symm w_64_108, Ne.symm w_64_119]) (by decide) ?_
        refine xa_iconst (pc := 164) dX2_takesItem_164 ?_
        refine xa_ireturn (pc := 165) dX2_takesItem_165 rfl (Or.inl rfl) ?_
        first | exact ⟨Or.inr ⟨by unfold sp_item; first | (rw [if_pos (by omega), if_pos (by omega)]; done) | (rw [if_pos (by omega), if_neg (by omega)]; done) | (rw [if_neg (by omega), if_pos (by omega)]; done) | (rw [if_neg (by omega), if_neg (by omega), if_pos (by omega)]; first | (rw [if_pos (by omega)]; done) | (rw [if_neg (by omega)]; done)) | (rw [if_neg (by omega), if_neg (by omega), if_neg (by omega), if_pos (by omega)]; first | (rw [if_pos (by rw [sp_told_8]; exact hj)]; done) | (rw [if_neg (by rw [sp_told_8]; exact hj)]; done)) | (rw [if_neg (by omega), if_neg (by omega), if_neg (by omega), if_neg (by omega), if_pos (by omega)]; done) | (rw [if_neg (by omega), if_neg (by omega), if_neg (by omega), if_neg (by omega), if_neg (by omega)]; first | (rw [if_pos (by omega)]; first | (rw [if_pos (by omega)]; done) | (rw [if_neg (by omega)]; done)) | (rw [if_neg (by omega)]; done)), rfl, hB0, hB1, hB2, by omega, by omega⟩, hn, fr⟩ | (exfalso; omega)
      · skip
        refine xa_iconst (pc := 61) dX2_takesItem_61 ?_
        refine xa_ireturn (pc := 62) dX2_takesItem_62 rfl (Or.inl rfl) ?_
        first | exact ⟨Or.inr ⟨by unfold sp_item; first | (rw [if_pos (by omega), if_pos (by omega)]; done) | (rw [if_pos (by omega), if_neg (by omega)]; done) | (rw [if_neg (by omega), if_pos (by omega)]; done) | (rw [if_neg (by omega), if_neg (by omega), if_pos (by omega)]; first | (rw [if_pos (by omega)]; done) | (rw [if_neg (by omega)]; done)) | (rw [if_neg (by omega), if_neg (by omega), if_neg (by omega), if_pos (by omega)]; first | (rw [if_pos (by rw [sp_told_8]; exact hj)]; done) | (rw [if_neg (by rw [sp_told_8]; exact hj)]; done)) | (rw [if_neg (by omega), if_neg (by omega), if_neg (by omega), if_neg (by omega), if_pos (by omega)]; done) | (rw [if_neg (by omega), if_neg (by omega), if_neg (by omega), if_neg (by omega), if_neg (by omega)]; first | (rw [if_pos (by omega)]; first | (rw [if_pos (by omega)]; done) | (rw [if_neg (by omega)]; done)) | (rw [if_neg (by omega)]; done)), rfl, hB0, hB1, hB2, by omega, by omega⟩, hn, fr⟩ | (exfalso; omega)
    · skip
      refine xa_iload_n (pc := 17) dX2_takesItem_17 rfl ?_
      refine xa_iconst (pc := 18) dX2_takesItem_18 ?_
      refine xa_icmp_ne (pc := 19) (tgt := 54) dX2_takesItem_19 (by decide) ⟨by omega, by omega⟩ (by decide) (fun c_19 => ?_) (fun c_19 => ?_)
      · skip
        refine xa_iconst (pc := 54) dX2_takesItem_54 ?_
        refine xa_ireturn (pc := 55) dX2_takesItem_55 rfl (Or.inl rfl) ?_
        first | exact ⟨Or.inr ⟨by unfold sp_item; first | (rw [if_pos (by omega), if_pos (by omega)]; done) | (rw [if_pos (by omega), if_neg (by omega)]; done) | (rw [if_neg (by omega), if_pos (by omega)]; done) | (rw [if_neg (by omega), if_neg (by omega), if_pos (by omega)]; first | (rw [if_pos (by omega)]; done) | (rw [if_neg (by omega)]; done)) | (rw [if_neg (by omega), if_neg (by omega), if_neg (by omega), if_pos (by omega)]; first | (rw [if_pos (by rw [sp_told_8]; exact hj)]; done) | (rw [if_neg (by rw [sp_told_8]; exact hj)]; done)) | (rw [if_neg (by omega), if_neg (by omega), if_neg (by omega), if_neg (by omega), if_pos (by omega)]; done) | (rw [if_neg (by omega), if_neg (by omega), if_neg (by omega), if_neg (by omega), if_neg (by omega)]; first | (rw [if_pos (by omega)]; first | (rw [if_pos (by omega)]; done) | (rw [if_neg (by omega)]; done)) | (rw [if_neg (by omega)]; done)), rfl, hB0, hB1, hB2, by omega, by omega⟩, hn, fr⟩ | (exfalso; omega)
      · skip
        refine xa_aload_n (pc := 22) dX2_takesItem_22 rfl ?_
        refine xa_getfield (pc := 23) dX2_takesItem_23 flRX2_19 (by omega) (by omega) hR0 rfl ?_
        refine xa_aload_n (pc := 26) dX2_takesItem_26 rfl ?_
        refine xa_getfield (pc := 27) dX2_takesItem_27 flRX2_9 (by omega) (by omega) hR0 rfl ?_
        refine xa_iconst (pc := 30) dX2_takesItem_30 ?_
        refine xa_ialdw (pc := 31) 0 dX2_takesItem_31 (by omega) hR1 (by omega) (by omega) rfl ?_
        have b_31 := hnu (0)
        refine xa_aload_n (pc := 32) dX2_takesItem_32 rfl ?_
        refine xa_getfield (pc := 33) dX2_takesItem_33 flRX2_9 (by omega) (by omega) hR0 rfl ?_
        refine xa_iconst (pc := 36) dX2_takesItem_36 ?_
        refine xa_ialdw (pc := 37) 1 dX2_takesItem_37 (by omega) hR1 (by omega) (by omega) rfl ?_
        have b_37 := hnu (1)
        refine xa_aload_n (pc := 38) dX2_takesItem_38 rfl ?_
        refine xa_getfield (pc := 39) dX2_takesItem_39 flRX2_9 (by omega) (by omega) hR0 rfl ?_
        refine xa_iconst (pc := 42) dX2_takesItem_42 ?_
        refine xa_ialdw (pc := 43) 2 dX2_takesItem_43 (by omega) hR1 (by omega) (by omega) rfl ?_
        have b_43 := hnu (2)
        refine xa_callV (pc := 44) (as := [xa_i (nu 0), xa_i (nu 1), xa_i (nu 2)]) (rest := []) dX2_takesItem_44 ⟨qX0_takesPart.1, qX0_takesPart.2.1, qX0_takesPart.2.2, by decide, by decide⟩ lkRX2_57 imX0_takesPart seX0_takesPart rfl rfl (by omega) (by omega) hB0 rfl (Nat.le_of_ble_eq_true rfl) (Nat.zero_le _) (Nat.zero_le _) (c_takesPart _ _ _ _ _ _ _ _ _ _ _ _ ⟨by omega, by omega⟩ ⟨by omega, by omega⟩ ⟨by omega, by omega⟩ (by omega) ⟨hB0, hB1, hB2, by omega, by omega⟩) (fun r h' hq => ?_)
        obtain ⟨hq, hqn, hqf⟩ := hq
        rcases hq with ⟨hj, rfl, hB0, hB1, hB2, -, -⟩ | ⟨hj, rfl, hB0, hB1, hB2, -, -⟩
        · skip
          have hR0 : h'.1 k = xa_o 2 [xa_r kt, xa_r kb, xa_r (k + 1), xa_i ((p : Nat) : Int)] := (hqf _ (by omega)).trans hR0
          have hR1 : h'.1 (k + 1) = xa_a 3 nu := (hqf _ (by omega)).trans hR1
          have hW : h'.1 1 = xa_a 8 xa_wagf := (hqf _ (by omega)).trans hW
          have hn : h'.2 = h.2 := hqn.trans hn
          have fr : ∀ i, (i < kb ∨ kb + 3 ≤ i) → h'.1 i = h.1 i := fun i hi => (hqf i (by omega)).trans (fr i hi)
          refine xa_if_eq (pc := 47) (tgt := 54) dX2_takesItem_47 (by decide) (by decide) (fun c_47 => ?_) (fun c_47 => ?_)
          · skip
            exfalso; omega
          · skip
            refine xa_iconst (pc := 50) dX2_takesItem_50 ?_
            refine xa_goto (pc := 51) (tgt := 55) dX2_takesItem_51 (by decide) ?_
            refine xa_ireturn (pc := 55) dX2_takesItem_55 rfl (Or.inr rfl) ?_
            first | exact ⟨Or.inl ⟨_, by unfold sp_item; first | (rw [if_pos (by omega), if_pos (by omega)]; done) | (rw [if_pos (by omega), if_neg (by omega)]; done) | (rw [if_neg (by omega), if_pos (by omega)]; done) | (rw [if_neg (by omega), if_neg (by omega), if_pos (by omega)]; first | (rw [if_pos (by omega)]; done) | (rw [if_neg (by omega)]; done)) | (rw [if_neg (by omega), if_neg (by omega), if_neg (by omega), if_pos (by omega)]; first | (rw [if_pos (by rw [sp_told_8]; exact hj)]; done) | (rw [if_neg (by rw [sp_told_8]; exact hj)]; done)) | (rw [if_neg (by omega), if_neg (by omega), if_neg (by omega), if_neg (by omega), if_pos (by omega)]; done) | (rw [if_neg (by omega), if_neg (by omega), if_neg (by omega), if_neg (by omega), if_neg (by omega)]; first | (rw [if_pos (by omega)]; first | (rw [if_pos (by omega)]; done) | (rw [if_neg (by omega)]; done)) | (rw [if_neg (by omega)]; done)), rfl, hB0, hB1, hB2, by omega, by omega⟩, hn, fr⟩ | (exfalso; omega)
        · skip
          have hR0 : h'.1 k = xa_o 2 [xa_r kt, xa_r kb, xa_r (k + 1), xa_i ((p : Nat) : Int)] := (hqf _ (by omega)).trans hR0
          have hR1 : h'.1 (k + 1) = xa_a 3 nu := (hqf _ (by omega)).trans hR1
          have hW : h'.1 1 = xa_a 8 xa_wagf := (hqf _ (by omega)).trans hW
          have hn : h'.2 = h.2 := hqn.trans hn
          have fr : ∀ i, (i < kb ∨ kb + 3 ≤ i) → h'.1 i = h.1 i := fun i hi => (hqf i (by omega)).trans (fr i hi)
          refine xa_if_eq (pc := 47) (tgt := 54) dX2_takesItem_47 (by decide) (by decide) (fun c_47 => ?_) (fun c_47 => ?_)
          · skip
            refine xa_iconst (pc := 54) dX2_takesItem_54 ?_
            refine xa_ireturn (pc := 55) dX2_takesItem_55 rfl (Or.inl rfl) ?_
            first | exact ⟨Or.inr ⟨by unfold sp_item; first | (rw [if_pos (by omega), if_pos (by omega)]; done) | (rw [if_pos (by omega), if_neg (by omega)]; done) | (rw [if_neg (by omega), if_pos (by omega)]; done) | (rw [if_neg (by omega), if_neg (by omega), if_pos (by omega)]; first | (rw [if_pos (by omega)]; done) | (rw [if_neg (by omega)]; done)) | (rw [if_neg (by omega), if_neg (by omega), if_neg (by omega), if_pos (by omega)]; first | (rw [if_pos (by rw [sp_told_8]; exact hj)]; done) | (rw [if_neg (by rw [sp_told_8]; exact hj)]; done)) | (rw [if_neg (by omega), if_neg (by omega), if_neg (by omega), if_neg (by omega), if_pos (by omega)]; done) | (rw [if_neg (by omega), if_neg (by omega), if_neg (by omega), if_neg (by omega), if_neg (by omega)]; first | (rw [if_pos (by omega)]; first | (rw [if_pos (by omega)]; done) | (rw [if_neg (by omega)]; done)) | (rw [if_neg (by omega)]; done)), rfl, hB0, hB1, hB2, by omega, by omega⟩, hn, fr⟩ | (exfalso; omega)
          · skip
            exfalso; omega
  · skip
    exfalso; omega
