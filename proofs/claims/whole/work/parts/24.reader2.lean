/-! Reader.takesItem -/
abbrev xBt : Type := (Nat → Int) × (Nat → Int) × Nat × Nat × Int × Int × Int × Int
def xBb (h : xa_H) (k : Nat) (b : xBt) : Prop := xB h k b.1 b.2.1 b.2.2.1 b.2.2.2.1 b.2.2.2.2.1 b.2.2.2.2.2.1 b.2.2.2.2.2.2.1 b.2.2.2.2.2.2.2
/-- what an item makes of a body: its letter, how many numbers, the numbers -/
def sp_item (ld dg : Nat → Int) (pa jo : Nat) (wa sr pu ri : Int) (q c : Int) (nu : Nat → Int) : Option xBt :=
  if q = 112 then (if c = 3 ∧ pa ≤ 2 ∧ (1 ≤ nu 0 ∧ nu 0 ≤ 99) ∧ (1 ≤ nu 1 ∧ nu 1 ≤ 99) ∧ (1 ≤ nu 2 ∧ nu 2 ≤ 99) then some (xa_upf (xa_upf (xa_upf ld (pa * 3) (nu 0)) (pa * 3 + 1) (nu 1)) (pa * 3 + 2) (nu 2), dg, pa + 1, jo, wa, sr, pu, ri) else none)
  else if c ≠ 1 then none
  else if q = 106 then (if jo < 2 ∧ 1 ≤ nu 0 ∧ nu 0 ≤ 90 then some (ld, xa_upf dg jo (nu 0), pa, jo + 1, wa, sr, pu, ri) else none)
  else if q = 119 then (if sp_told (nu 0) 8 = true ∧ wa = -4 ∧ jo < 2 then some (ld, xa_upf dg jo (nu 0), pa, jo + 1, ((jo : Nat) : Int), (360 : Int).tdiv (nu 0), pu, ri) else none)
  else if q = 108 then some (ld, dg, pa, jo, wa, sr, nu 0, ri)
  else if q = 101 then (if 0 ≤ nu 0 ∧ nu 0 ≤ 90 then some (ld, dg, pa, jo, wa, sr, pu, nu 0) else none)
  else none

theorem c_takesItem {G : xa_G} {h : xa_H} (k kt kb p : Nat) (nu ld dg : Nat → Int) (pa jo : Nat) (wa sr pu ri q c : Int) (hk : 2 ≤ k) (hkn : k + 1 < h.2) (hkk : kb + 3 ≤ k) (hq : xa_ok q) (hc : xa_ok c) (hpa : pa ≤ 3) (hjo : jo ≤ 2) (hwa : xa_ok wa) (hnu : ∀ i, -9999 ≤ nu i ∧ nu i ≤ 9999) (hR0 : h.1 k = xa_o 2 [xa_r kt, xa_r kb, xa_r (k + 1), xa_i ((p : Nat) : Int)]) (hR1 : h.1 (k + 1) = xa_a 3 nu) (hW : h.1 1 = xa_a 8 xa_wagf) (hB : xB h kb ld dg pa jo wa sr pu ri)  : xa_M G mX2_takesItem [xa_r k, xa_i q, xa_i c] h 0 0 (fun r h' => ((∃ b, sp_item ld dg pa jo wa sr pu ri q c nu = some b ∧ r = some (xa_i 1) ∧ xBb h' kb b) ∨ (sp_item ld dg pa jo wa sr pu ri q c nu = none ∧ r = some (xa_i 0) ∧ xB h' kb ld dg pa jo wa sr pu ri)) ∧ h'.2 = h.2 ∧ ∀ i, (i < kb ∨ kb + 3 ≤ i) → h'.1 i = h.1 i) := by
  refine xa_enter (by decide +kernel) (Nat.le_of_ble_eq_true rfl) ?_
  refine xa_locals (ls' := [some (xa_r k), some (xa_i q), some (xa_i c)]) rfl ?_
  have hn : h.2 = h.2 := rfl
  have fr : ∀ i, (i < kb ∨ kb + 3 ≤ i) → h.1 i = h.1 i := fun _ _ => rfl
  obtain ⟨hB0, hB1, hB2, hBk, hBn⟩ := hB
  refine xa_iload_n (pc := 0) dX2_takesItem_0 rfl ?_
  refine xa_bipush (pc := 1) dX2_takesItem_1 rfl ?_
  refine xa_icmp_ne (pc := 3) (tgt := 45) dX2_takesItem_3 (by decide) ⟨by omega, by omega⟩ (by decide) (fun c_3 => ?_) (fun c_3 => ?_)
  · skip
    refine xa_iload_n (pc := 45) dX2_takesItem_45 rfl ?_
    refine xa_iconst (pc := 46) dX2_takesItem_46 ?_
    refine xa_icmp_eq (pc := 47) (tgt := 52) dX2_takesItem_47 (by decide) ⟨by omega, by omega⟩ (by decide) (fun c_47 => ?_) (fun c_47 => ?_)
    · skip
      refine xa_iload_n (pc := 52) dX2_takesItem_52 rfl ?_
      by_cases w_53_101 : q = 101
      · refine xa_lookup (pc := 53) (off := 85) (tgt := 138) dX2_takesItem_53 rfl ⟨by omega, by omega⟩ (by rw [w_53_101]; rfl) (by decide) ?_
        refine xa_aload_n (pc := 138) dX2_takesItem_138 rfl ?_
        refine xa_getfield (pc := 139) dX2_takesItem_139 flRX2_19 (by omega) (by omega) hR0 rfl ?_
        refine xa_aload_n (pc := 142) dX2_takesItem_142 rfl ?_
        refine xa_getfield (pc := 143) dX2_takesItem_143 flRX2_9 (by omega) (by omega) hR0 rfl ?_
        refine xa_iconst (pc := 146) dX2_takesItem_146 ?_
        refine xa_ialdw (pc := 147) 0 dX2_takesItem_147 (by omega) hR1 (by omega) (by omega) rfl ?_
        have b_147 := hnu (0)
        refine xa_callV (pc := 148) (as := [xa_i (nu 0)]) (rest := []) dX2_takesItem_148 ⟨qX0_takesRight.1, qX0_takesRight.2.1, qX0_takesRight.2.2, by decide, by decide⟩ lkRX2_69 imX0_takesRight seX0_takesRight rfl rfl (by omega) (by omega) hB0 rfl (Nat.le_of_ble_eq_true rfl) (Nat.zero_le _) (Nat.zero_le _) (c_takesRight _ _ _ _ _ _ _ _ _ _ ⟨by omega, by omega⟩ ⟨hB0, hB1, hB2, by omega, by omega⟩) (fun r h' hq => ?_)
        obtain ⟨hq, hqn, hqf⟩ := hq
        rcases hq with ⟨hj, rfl, hB0, hB1, hB2, -, -⟩ | ⟨hj, rfl, hB0, hB1, hB2, -, -⟩
        · skip
          have hR0 : h'.1 k = xa_o 2 [xa_r kt, xa_r kb, xa_r (k + 1), xa_i ((p : Nat) : Int)] := (hqf _ (by omega)).trans hR0
          have hR1 : h'.1 (k + 1) = xa_a 3 nu := (hqf _ (by omega)).trans hR1
          have hW : h'.1 1 = xa_a 8 xa_wagf := (hqf _ (by omega)).trans hW
          have hn : h'.2 = h.2 := hqn.trans hn
          have fr : ∀ i, (i < kb ∨ kb + 3 ≤ i) → h'.1 i = h.1 i := fun i hi => (hqf i (by omega)).trans (fr i hi)
          refine xa_ireturn (pc := 151) dX2_takesItem_151 rfl (Or.inr rfl) ?_
          first | exact ⟨Or.inl ⟨_, by unfold sp_item; first | (rw [if_pos (by omega), if_pos (by omega)]; done) | (rw [if_pos (by omega), if_neg (by omega)]; done) | (rw [if_neg (by omega), if_pos (by omega)]; done) | (rw [if_neg (by omega), if_neg (by omega), if_pos (by omega)]; first | (rw [if_pos (by omega)]; done) | (rw [if_neg (by omega)]; done)) | (rw [if_neg (by omega), if_neg (by omega), if_neg (by omega), if_pos (by omega)]; first | (rw [if_pos (by rw [sp_told_8]; exact hj)]; done) | (rw [if_neg (by rw [sp_told_8]; exact hj)]; done)) | (rw [if_neg (by omega), if_neg (by omega), if_neg (by omega), if_neg (by omega), if_pos (by omega)]; done) | (rw [if_neg (by omega), if_neg (by omega), if_neg (by omega), if_neg (by omega), if_neg (by omega)]; first | (rw [if_pos (by omega)]; first | (rw [if_pos (by omega)]; done) | (rw [if_neg (by omega)]; done)) | (rw [if_neg (by omega)]; done)), rfl, hB0, hB1, hB2, by omega, by omega⟩, hn, fr⟩ | (exfalso; omega)
        · skip
          have hR0 : h'.1 k = xa_o 2 [xa_r kt, xa_r kb, xa_r (k + 1), xa_i ((p : Nat) : Int)] := (hqf _ (by omega)).trans hR0
          have hR1 : h'.1 (k + 1) = xa_a 3 nu := (hqf _ (by omega)).trans hR1
          have hW : h'.1 1 = xa_a 8 xa_wagf := (hqf _ (by omega)).trans hW
          have hn : h'.2 = h.2 := hqn.trans hn
          have fr : ∀ i, (i < kb ∨ kb + 3 ≤ i) → h'.1 i = h.1 i := fun i hi => (hqf i (by omega)).trans (fr i hi)
          refine xa_ireturn (pc := 151) dX2_takesItem_151 rfl (Or.inl rfl) ?_
          first | exact ⟨Or.inr ⟨by unfold sp_item; first | (rw [if_pos (by omega), if_pos (by omega)]; done) | (rw [if_pos (by omega), if_neg (by omega)]; done) | (rw [if_neg (by omega), if_pos (by omega)]; done) | (rw [if_neg (by omega), if_neg (by omega), if_pos (by omega)]; first | (rw [if_pos (by omega)]; done) | (rw [if_neg (by omega)]; done)) | (rw [if_neg (by omega), if_neg (by omega), if_neg (by omega), if_pos (by omega)]; first | (rw [if_pos (by rw [sp_told_8]; exact hj)]; done) | (rw [if_neg (by rw [sp_told_8]; exact hj)]; done)) | (rw [if_neg (by omega), if_neg (by omega), if_neg (by omega), if_neg (by omega), if_pos (by omega)]; done) | (rw [if_neg (by omega), if_neg (by omega), if_neg (by omega), if_neg (by omega), if_neg (by omega)]; first | (rw [if_pos (by omega)]; first | (rw [if_pos (by omega)]; done) | (rw [if_neg (by omega)]; done)) | (rw [if_neg (by omega)]; done)), rfl, hB0, hB1, hB2, by omega, by omega⟩, hn, fr⟩ | (exfalso; omega)
      by_cases w_53_106 : q = 106
      · refine xa_lookup (pc := 53) (off := 43) (tgt := 96) dX2_takesItem_53 rfl ⟨by omega, by omega⟩ (by rw [w_53_106]; rfl) (by decide) ?_
        refine xa_aload_n (pc := 96) dX2_takesItem_96 rfl ?_
        refine xa_getfield (pc := 97) dX2_takesItem_97 flRX2_19 (by omega) (by omega) hR0 rfl ?_
        refine xa_aload_n (pc := 100) dX2_takesItem_100 rfl ?_
        refine xa_getfield (pc := 101) dX2_takesItem_101 flRX2_9 (by omega) (by omega) hR0 rfl ?_
        refine xa_iconst (pc := 104) dX2_takesItem_104 ?_
        refine xa_ialdw (pc := 105) 0 dX2_takesItem_105 (by omega) hR1 (by omega) (by omega) rfl ?_
        have b_105 := hnu (0)
        refine xa_callV (pc := 106) (as := [xa_i (nu 0)]) (rest := []) dX2_takesItem_106 ⟨qX0_takesBend.1, qX0_takesBend.2.1, qX0_takesBend.2.2, by decide, by decide⟩ lkRX2_60 imX0_takesBend seX0_takesBend rfl rfl (by omega) (by omega) hB0 rfl (Nat.le_of_ble_eq_true rfl) (Nat.zero_le _) (Nat.zero_le _) (c_takesBend _ _ _ _ _ _ _ _ _ _ ⟨by omega, by omega⟩ (by omega) ⟨hB0, hB1, hB2, by omega, by omega⟩) (fun r h' hq => ?_)
        obtain ⟨hq, hqn, hqf⟩ := hq
        rcases hq with ⟨hj, rfl, hB0, hB1, hB2, -, -⟩ | ⟨hj, rfl, hB0, hB1, hB2, -, -⟩
        · skip
          have hR0 : h'.1 k = xa_o 2 [xa_r kt, xa_r kb, xa_r (k + 1), xa_i ((p : Nat) : Int)] := (hqf _ (by omega)).trans hR0
          have hR1 : h'.1 (k + 1) = xa_a 3 nu := (hqf _ (by omega)).trans hR1
          have hW : h'.1 1 = xa_a 8 xa_wagf := (hqf _ (by omega)).trans hW
          have hn : h'.2 = h.2 := hqn.trans hn
          have fr : ∀ i, (i < kb ∨ kb + 3 ≤ i) → h'.1 i = h.1 i := fun i hi => (hqf i (by omega)).trans (fr i hi)
          refine xa_ireturn (pc := 109) dX2_takesItem_109 rfl (Or.inr rfl) ?_
          first | exact ⟨Or.inl ⟨_, by unfold sp_item; first | (rw [if_pos (by omega), if_pos (by omega)]; done) | (rw [if_pos (by omega), if_neg (by omega)]; done) | (rw [if_neg (by omega), if_pos (by omega)]; done) | (rw [if_neg (by omega), if_neg (by omega), if_pos (by omega)]; first | (rw [if_pos (by omega)]; done) | (rw [if_neg (by omega)]; done)) | (rw [if_neg (by omega), if_neg (by omega), if_neg (by omega), if_pos (by omega)]; first | (rw [if_pos (by rw [sp_told_8]; exact hj)]; done) | (rw [if_neg (by rw [sp_told_8]; exact hj)]; done)) | (rw [if_neg (by omega), if_neg (by omega), if_neg (by omega), if_neg (by omega), if_pos (by omega)]; done) | (rw [if_neg (by omega), if_neg (by omega), if_neg (by omega), if_neg (by omega), if_neg (by omega)]; first | (rw [if_pos (by omega)]; first | (rw [if_pos (by omega)]; done) | (rw [if_neg (by omega)]; done)) | (rw [if_neg (by omega)]; done)), rfl, hB0, hB1, hB2, by omega, by omega⟩, hn, fr⟩ | (exfalso; omega)
        · skip
          have hR0 : h'.1 k = xa_o 2 [xa_r kt, xa_r kb, xa_r (k + 1), xa_i ((p : Nat) : Int)] := (hqf _ (by omega)).trans hR0
          have hR1 : h'.1 (k + 1) = xa_a 3 nu := (hqf _ (by omega)).trans hR1
          have hW : h'.1 1 = xa_a 8 xa_wagf := (hqf _ (by omega)).trans hW
          have hn : h'.2 = h.2 := hqn.trans hn
          have fr : ∀ i, (i < kb ∨ kb + 3 ≤ i) → h'.1 i = h.1 i := fun i hi => (hqf i (by omega)).trans (fr i hi)
          refine xa_ireturn (pc := 109) dX2_takesItem_109 rfl (Or.inl rfl) ?_
          first | exact ⟨Or.inr ⟨by unfold sp_item; first | (rw [if_pos (by omega), if_pos (by omega)]; done) | (rw [if_pos (by omega), if_neg (by omega)]; done) | (rw [if_neg (by omega), if_pos (by omega)]; done) | (rw [if_neg (by omega), if_neg (by omega), if_pos (by omega)]; first | (rw [if_pos (by omega)]; done) | (rw [if_neg (by omega)]; done)) | (rw [if_neg (by omega), if_neg (by omega), if_neg (by omega), if_pos (by omega)]; first | (rw [if_pos (by rw [sp_told_8]; exact hj)]; done) | (rw [if_neg (by rw [sp_told_8]; exact hj)]; done)) | (rw [if_neg (by omega), if_neg (by omega), if_neg (by omega), if_neg (by omega), if_pos (by omega)]; done) | (rw [if_neg (by omega), if_neg (by omega), if_neg (by omega), if_neg (by omega), if_neg (by omega)]; first | (rw [if_pos (by omega)]; first | (rw [if_pos (by omega)]; done) | (rw [if_neg (by omega)]; done)) | (rw [if_neg (by omega)]; done)), rfl, hB0, hB1, hB2, by omega, by omega⟩, hn, fr⟩ | (exfalso; omega)
      by_cases w_53_108 : q = 108
      · refine xa_lookup (pc := 53) (off := 71) (tgt := 124) dX2_takesItem_53 rfl ⟨by omega, by omega⟩ (by rw [w_53_108]; rfl) (by decide) ?_
        refine xa_aload_n (pc := 124) dX2_takesItem_124 rfl ?_
        refine xa_getfield (pc := 125) dX2_takesItem_125 flRX2_19 (by omega) (by omega) hR0 rfl ?_
        refine xa_aload_n (pc := 128) dX2_takesItem_128 rfl ?_
        refine xa_getfield (pc := 129) dX2_takesItem_129 flRX2_9 (by omega) (by omega) hR0 rfl ?_
        refine xa_iconst (pc := 132) dX2_takesItem_132 ?_
        refine xa_ialdw (pc := 133) 0 dX2_takesItem_133 (by omega) hR1 (by omega) (by omega) rfl ?_
        have b_133 := hnu (0)
        refine xa_callV (pc := 134) (as := [xa_i (nu 0)]) (rest := []) dX2_takesItem_134 ⟨qX0_takesPush.1, qX0_takesPush.2.1, qX0_takesPush.2.2, by decide, by decide⟩ lkRX2_66 imX0_takesPush seX0_takesPush rfl rfl (by omega) (by omega) hB0 rfl (Nat.le_of_ble_eq_true rfl) (Nat.zero_le _) (Nat.zero_le _) (c_takesPush _ _ _ _ _ _ _ _ _ _ ⟨hB0, hB1, hB2, by omega, by omega⟩) (fun r h' hq => ?_)
        obtain ⟨rfl, ⟨hB0, hB1, hB2, -, -⟩, hqn, hqf⟩ := hq
        have hR0 : h'.1 k = xa_o 2 [xa_r kt, xa_r kb, xa_r (k + 1), xa_i ((p : Nat) : Int)] := (hqf _ (by omega)).trans hR0
        have hR1 : h'.1 (k + 1) = xa_a 3 nu := (hqf _ (by omega)).trans hR1
        have hW : h'.1 1 = xa_a 8 xa_wagf := (hqf _ (by omega)).trans hW
        have hn : h'.2 = h.2 := hqn.trans hn
        have fr : ∀ i, (i < kb ∨ kb + 3 ≤ i) → h'.1 i = h.1 i := fun i hi => (hqf i (by omega)).trans (fr i hi)
        refine xa_ireturn (pc := 137) dX2_takesItem_137 rfl (Or.inr rfl) ?_
        first | exact ⟨Or.inl ⟨_, by unfold sp_item; first | (rw [if_pos (by omega), if_pos (by omega)]; done) | (rw [if_pos (by omega), if_neg (by omega)]; done) | (rw [if_neg (by omega), if_pos (by omega)]; done) | (rw [if_neg (by omega), if_neg (by omega), if_pos (by omega)]; first | (rw [if_pos (by omega)]; done) | (rw [if_neg (by omega)]; done)) | (rw [if_neg (by omega), if_neg (by omega), if_neg (by omega), if_pos (by omega)]; first | (rw [if_pos (by rw [sp_told_8]; exact hj)]; done) | (rw [if_neg (by rw [sp_told_8]; exact hj)]; done)) | (rw [if_neg (by omega), if_neg (by omega), if_neg (by omega), if_neg (by omega), if_pos (by omega)]; done) | (rw [if_neg (by omega), if_neg (by omega), if_neg (by omega), if_neg (by omega), if_neg (by omega)]; first | (rw [if_pos (by omega)]; first | (rw [if_pos (by omega)]; done) | (rw [if_neg (by omega)]; done)) | (rw [if_neg (by omega)]; done)), rfl, hB0, hB1, hB2, by omega, by omega⟩, hn, fr⟩ | (exfalso; omega)
      by_cases w_53_119 : q = 119
      · refine xa_lookup (pc := 53) (off := 57) (tgt := 110) dX2_takesItem_53 rfl ⟨by omega, by omega⟩ (by rw [w_53_119]; rfl) (by decide) ?_
        refine xa_aload_n (pc := 110) dX2_takesItem_110 rfl ?_
        refine xa_getfield (pc := 111) dX2_takesItem_111 flRX2_19 (by omega) (by omega) hR0 rfl ?_
        refine xa_aload_n (pc := 114) dX2_takesItem_114 rfl ?_
        refine xa_getfield (pc := 115) dX2_takesItem_115 flRX2_9 (by omega) (by omega) hR0 rfl ?_
        refine xa_iconst (pc := 118) dX2_takesItem_118 ?_
        refine xa_ialdw (pc := 119) 0 dX2_takesItem_119 (by omega) hR1 (by omega) (by omega) rfl ?_
        have b_119 := hnu (0)
        refine xa_callV (pc := 120) (as := [xa_i (nu 0)]) (rest := []) dX2_takesItem_120 ⟨qX0_takesWag.1, qX0_takesWag.2.1, qX0_takesWag.2.2, by decide, by decide⟩ lkRX2_63 imX0_takesWag seX0_takesWag rfl rfl (by omega) (by omega) hB0 rfl (Nat.le_of_ble_eq_true rfl) (Nat.zero_le _) (Nat.zero_le _) (c_takesWag _ _ _ _ _ _ _ _ _ _ (by omega) (by omega) hwa hW ⟨hB0, hB1, hB2, by omega, by omega⟩) (fun r h' hq => ?_)
        obtain ⟨hq, hqn, hqf⟩ := hq
        rcases hq with ⟨hj, rfl, hB0, hB1, hB2, -, -⟩ | ⟨hj, rfl, hB0, hB1, hB2, -, -⟩
        · skip
          have hR0 : h'.1 k = xa_o 2 [xa_r kt, xa_r kb, xa_r (k + 1), xa_i ((p : Nat) : Int)] := (hqf _ (by omega)).trans hR0
          have hR1 : h'.1 (k + 1) = xa_a 3 nu := (hqf _ (by omega)).trans hR1
          have hW : h'.1 1 = xa_a 8 xa_wagf := (hqf _ (by omega)).trans hW
          have hn : h'.2 = h.2 := hqn.trans hn
          have fr : ∀ i, (i < kb ∨ kb + 3 ≤ i) → h'.1 i = h.1 i := fun i hi => (hqf i (by omega)).trans (fr i hi)
          refine xa_ireturn (pc := 123) dX2_takesItem_123 rfl (Or.inr rfl) ?_
          first | exact ⟨Or.inl ⟨_, by unfold sp_item; first | (rw [if_pos (by omega), if_pos (by omega)]; done) | (rw [if_pos (by omega), if_neg (by omega)]; done) | (rw [if_neg (by omega), if_pos (by omega)]; done) | (rw [if_neg (by omega), if_neg (by omega), if_pos (by omega)]; first | (rw [if_pos (by omega)]; done) | (rw [if_neg (by omega)]; done)) | (rw [if_neg (by omega), if_neg (by omega), if_neg (by omega), if_pos (by omega)]; first | (rw [if_pos (by rw [sp_told_8]; exact hj)]; done) | (rw [if_neg (by rw [sp_told_8]; exact hj)]; done)) | (rw [if_neg (by omega), if_neg (by omega), if_neg (by omega), if_neg (by omega), if_pos (by omega)]; done) | (rw [if_neg (by omega), if_neg (by omega), if_neg (by omega), if_neg (by omega), if_neg (by omega)]; first | (rw [if_pos (by omega)]; first | (rw [if_pos (by omega)]; done) | (rw [if_neg (by omega)]; done)) | (rw [if_neg (by omega)]; done)), rfl, hB0, hB1, hB2, by omega, by omega⟩, hn, fr⟩ | (exfalso; omega)
        · skip
          have hR0 : h'.1 k = xa_o 2 [xa_r kt, xa_r kb, xa_r (k + 1), xa_i ((p : Nat) : Int)] := (hqf _ (by omega)).trans hR0
          have hR1 : h'.1 (k + 1) = xa_a 3 nu := (hqf _ (by omega)).trans hR1
          have hW : h'.1 1 = xa_a 8 xa_wagf := (hqf _ (by omega)).trans hW
          have hn : h'.2 = h.2 := hqn.trans hn
          have fr : ∀ i, (i < kb ∨ kb + 3 ≤ i) → h'.1 i = h.1 i := fun i hi => (hqf i (by omega)).trans (fr i hi)
          refine xa_ireturn (pc := 123) dX2_takesItem_123 rfl (Or.inl rfl) ?_
          first | exact ⟨Or.inr ⟨by unfold sp_item; first | (rw [if_pos (by omega), if_pos (by omega)]; done) | (rw [if_pos (by omega), if_neg (by omega)]; done) | (rw [if_neg (by omega), if_pos (by omega)]; done) | (rw [if_neg (by omega), if_neg (by omega), if_pos (by omega)]; first | (rw [if_pos (by omega)]; done) | (rw [if_neg (by omega)]; done)) | (rw [if_neg (by omega), if_neg (by omega), if_neg (by omega), if_pos (by omega)]; first | (rw [if_pos (by rw [sp_told_8]; exact hj)]; done) | (rw [if_neg (by rw [sp_told_8]; exact hj)]; done)) | (rw [if_neg (by omega), if_neg (by omega), if_neg (by omega), if_neg (by omega), if_pos (by omega)]; done) | (rw [if_neg (by omega), if_neg (by omega), if_neg (by omega), if_neg (by omega), if_neg (by omega)]; first | (rw [if_pos (by omega)]; first | (rw [if_pos (by omega)]; done) | (rw [if_neg (by omega)]; done)) | (rw [if_neg (by omega)]; done)), rfl, hB0, hB1, hB2, by omega, by omega⟩, hn, fr⟩ | (exfalso; omega)
      refine xa_lookup (pc := 53) (off := 99) (tgt := 152) dX2_takesItem_53 rfl ⟨by omega, by omega⟩ (by simp [Op.lookupswitch.offset, Ne.symm w_53_101, Ne.symm w_53_106, Ne.symm w_53_108, Ne.symm w_53_119]) (by decide) ?_
      refine xa_iconst (pc := 152) dX2_takesItem_152 ?_
      refine xa_ireturn (pc := 153) dX2_takesItem_153 rfl (Or.inl rfl) ?_
      first | exact ⟨Or.inr ⟨by unfold sp_item; first | (rw [if_pos (by omega), if_pos (by omega)]; done) | (rw [if_pos (by omega), if_neg (by omega)]; done) | (rw [if_neg (by omega), if_pos (by omega)]; done) | (rw [if_neg (by omega), if_neg (by omega), if_pos (by omega)]; first | (rw [if_pos (by omega)]; done) | (rw [if_neg (by omega)]; done)) | (rw [if_neg (by omega), if_neg (by omega), if_neg (by omega), if_pos (by omega)]; first | (rw [if_pos (by rw [sp_told_8]; exact hj)]; done) | (rw [if_neg (by rw [sp_told_8]; exact hj)]; done)) | (rw [if_neg (by omega), if_neg (by omega), if_neg (by omega), if_neg (by omega), if_pos (by omega)]; done) | (rw [if_neg (by omega), if_neg (by omega), if_neg (by omega), if_neg (by omega), if_neg (by omega)]; first | (rw [if_pos (by omega)]; first | (rw [if_pos (by omega)]; done) | (rw [if_neg (by omega)]; done)) | (rw [if_neg (by omega)]; done)), rfl, hB0, hB1, hB2, by omega, by omega⟩, hn, fr⟩ | (exfalso; omega)
    · skip
      refine xa_iconst (pc := 50) dX2_takesItem_50 ?_
      refine xa_ireturn (pc := 51) dX2_takesItem_51 rfl (Or.inl rfl) ?_
      first | exact ⟨Or.inr ⟨by unfold sp_item; first | (rw [if_pos (by omega), if_pos (by omega)]; done) | (rw [if_pos (by omega), if_neg (by omega)]; done) | (rw [if_neg (by omega), if_pos (by omega)]; done) | (rw [if_neg (by omega), if_neg (by omega), if_pos (by omega)]; first | (rw [if_pos (by omega)]; done) | (rw [if_neg (by omega)]; done)) | (rw [if_neg (by omega), if_neg (by omega), if_neg (by omega), if_pos (by omega)]; first | (rw [if_pos (by rw [sp_told_8]; exact hj)]; done) | (rw [if_neg (by rw [sp_told_8]; exact hj)]; done)) | (rw [if_neg (by omega), if_neg (by omega), if_neg (by omega), if_neg (by omega), if_pos (by omega)]; done) | (rw [if_neg (by omega), if_neg (by omega), if_neg (by omega), if_neg (by omega), if_neg (by omega)]; first | (rw [if_pos (by omega)]; first | (rw [if_pos (by omega)]; done) | (rw [if_neg (by omega)]; done)) | (rw [if_neg (by omega)]; done)), rfl, hB0, hB1, hB2, by omega, by omega⟩, hn, fr⟩ | (exfalso; omega)
  · skip
    refine xa_iload_n (pc := 6) dX2_takesItem_6 rfl ?_
    refine xa_iconst (pc := 7) dX2_takesItem_7 ?_
    refine xa_icmp_ne (pc := 8) (tgt := 43) dX2_takesItem_8 (by decide) ⟨by omega, by omega⟩ (by decide) (fun c_8 => ?_) (fun c_8 => ?_)
    · skip
      refine xa_iconst (pc := 43) dX2_takesItem_43 ?_
      refine xa_ireturn (pc := 44) dX2_takesItem_44 rfl (Or.inl rfl) ?_
      first | exact ⟨Or.inr ⟨by unfold sp_item; first | (rw [if_pos (by omega), if_pos (by omega)]; done) | (rw [if_pos (by omega), if_neg (by omega)]; done) | (rw [if_neg (by omega), if_pos (by omega)]; done) | (rw [if_neg (by omega), if_neg (by omega), if_pos (by omega)]; first | (rw [if_pos (by omega)]; done) | (rw [if_neg (by omega)]; done)) | (rw [if_neg (by omega), if_neg (by omega), if_neg (by omega), if_pos (by omega)]; first | (rw [if_pos (by rw [sp_told_8]; exact hj)]; done) | (rw [if_neg (by rw [sp_told_8]; exact hj)]; done)) | (rw [if_neg (by omega), if_neg (by omega), if_neg (by omega), if_neg (by omega), if_pos (by omega)]; done) | (rw [if_neg (by omega), if_neg (by omega), if_neg (by omega), if_neg (by omega), if_neg (by omega)]; first | (rw [if_pos (by omega)]; first | (rw [if_pos (by omega)]; done) | (rw [if_neg (by omega)]; done)) | (rw [if_neg (by omega)]; done)), rfl, hB0, hB1, hB2, by omega, by omega⟩, hn, fr⟩ | (exfalso; omega)
    · skip
      refine xa_aload_n (pc := 11) dX2_takesItem_11 rfl ?_
      refine xa_getfield (pc := 12) dX2_takesItem_12 flRX2_19 (by omega) (by omega) hR0 rfl ?_
      refine xa_aload_n (pc := 15) dX2_takesItem_15 rfl ?_
      refine xa_getfield (pc := 16) dX2_takesItem_16 flRX2_9 (by omega) (by omega) hR0 rfl ?_
      refine xa_iconst (pc := 19) dX2_takesItem_19 ?_
      refine xa_ialdw (pc := 20) 0 dX2_takesItem_20 (by omega) hR1 (by omega) (by omega) rfl ?_
      have b_20 := hnu (0)
      refine xa_aload_n (pc := 21) dX2_takesItem_21 rfl ?_
      refine xa_getfield (pc := 22) dX2_takesItem_22 flRX2_9 (by omega) (by omega) hR0 rfl ?_
      refine xa_iconst (pc := 25) dX2_takesItem_25 ?_
      refine xa_ialdw (pc := 26) 1 dX2_takesItem_26 (by omega) hR1 (by omega) (by omega) rfl ?_
      have b_26 := hnu (1)
      refine xa_aload_n (pc := 27) dX2_takesItem_27 rfl ?_
      refine xa_getfield (pc := 28) dX2_takesItem_28 flRX2_9 (by omega) (by omega) hR0 rfl ?_
      refine xa_iconst (pc := 31) dX2_takesItem_31 ?_
      refine xa_ialdw (pc := 32) 2 dX2_takesItem_32 (by omega) hR1 (by omega) (by omega) rfl ?_
      have b_32 := hnu (2)
      refine xa_callV (pc := 33) (as := [xa_i (nu 0), xa_i (nu 1), xa_i (nu 2)]) (rest := []) dX2_takesItem_33 ⟨qX0_takesPart.1, qX0_takesPart.2.1, qX0_takesPart.2.2, by decide, by decide⟩ lkRX2_57 imX0_takesPart seX0_takesPart rfl rfl (by omega) (by omega) hB0 rfl (Nat.le_of_ble_eq_true rfl) (Nat.zero_le _) (Nat.zero_le _) (c_takesPart _ _ _ _ _ _ _ _ _ _ _ _ ⟨by omega, by omega⟩ ⟨by omega, by omega⟩ ⟨by omega, by omega⟩ (by omega) ⟨hB0, hB1, hB2, by omega, by omega⟩) (fun r h' hq => ?_)
      obtain ⟨hq, hqn, hqf⟩ := hq
      rcases hq with ⟨hj, rfl, hB0, hB1, hB2, -, -⟩ | ⟨hj, rfl, hB0, hB1, hB2, -, -⟩
      · skip
        have hR0 : h'.1 k = xa_o 2 [xa_r kt, xa_r kb, xa_r (k + 1), xa_i ((p : Nat) : Int)] := (hqf _ (by omega)).trans hR0
        have hR1 : h'.1 (k + 1) = xa_a 3 nu := (hqf _ (by omega)).trans hR1
        have hW : h'.1 1 = xa_a 8 xa_wagf := (hqf _ (by omega)).trans hW
        have hn : h'.2 = h.2 := hqn.trans hn
        have fr : ∀ i, (i < kb ∨ kb + 3 ≤ i) → h'.1 i = h.1 i := fun i hi => (hqf i (by omega)).trans (fr i hi)
        refine xa_if_eq (pc := 36) (tgt := 43) dX2_takesItem_36 (by decide) (by decide) (fun c_36 => ?_) (fun c_36 => ?_)
        · skip
          exfalso; omega
        · skip
          refine xa_iconst (pc := 39) dX2_takesItem_39 ?_
          refine xa_goto (pc := 40) (tgt := 44) dX2_takesItem_40 (by decide) ?_
          refine xa_ireturn (pc := 44) dX2_takesItem_44 rfl (Or.inr rfl) ?_
          first | exact ⟨Or.inl ⟨_, by unfold sp_item; first | (rw [if_pos (by omega), if_pos (by omega)]; done) | (rw [if_pos (by omega), if_neg (by omega)]; done) | (rw [if_neg (by omega), if_pos (by omega)]; done) | (rw [if_neg (by omega), if_neg (by omega), if_pos (by omega)]; first | (rw [if_pos (by omega)]; done) | (rw [if_neg (by omega)]; done)) | (rw [if_neg (by omega), if_neg (by omega), if_neg (by omega), if_pos (by omega)]; first | (rw [if_pos (by rw [sp_told_8]; exact hj)]; done) | (rw [if_neg (by rw [sp_told_8]; exact hj)]; done)) | (rw [if_neg (by omega), if_neg (by omega), if_neg (by omega), if_neg (by omega), if_pos (by omega)]; done) | (rw [if_neg (by omega), if_neg (by omega), if_neg (by omega), if_neg (by omega), if_neg (by omega)]; first | (rw [if_pos (by omega)]; first | (rw [if_pos (by omega)]; done) | (rw [if_neg (by omega)]; done)) | (rw [if_neg (by omega)]; done)), rfl, hB0, hB1, hB2, by omega, by omega⟩, hn, fr⟩ | (exfalso; omega)
      · skip
        have hR0 : h'.1 k = xa_o 2 [xa_r kt, xa_r kb, xa_r (k + 1), xa_i ((p : Nat) : Int)] := (hqf _ (by omega)).trans hR0
        have hR1 : h'.1 (k + 1) = xa_a 3 nu := (hqf _ (by omega)).trans hR1
        have hW : h'.1 1 = xa_a 8 xa_wagf := (hqf _ (by omega)).trans hW
        have hn : h'.2 = h.2 := hqn.trans hn
        have fr : ∀ i, (i < kb ∨ kb + 3 ≤ i) → h'.1 i = h.1 i := fun i hi => (hqf i (by omega)).trans (fr i hi)
        refine xa_if_eq (pc := 36) (tgt := 43) dX2_takesItem_36 (by decide) (by decide) (fun c_36 => ?_) (fun c_36 => ?_)
        · skip
          refine xa_iconst (pc := 43) dX2_takesItem_43 ?_
          refine xa_ireturn (pc := 44) dX2_takesItem_44 rfl (Or.inl rfl) ?_
          first | exact ⟨Or.inr ⟨by unfold sp_item; first | (rw [if_pos (by omega), if_pos (by omega)]; done) | (rw [if_pos (by omega), if_neg (by omega)]; done) | (rw [if_neg (by omega), if_pos (by omega)]; done) | (rw [if_neg (by omega), if_neg (by omega), if_pos (by omega)]; first | (rw [if_pos (by omega)]; done) | (rw [if_neg (by omega)]; done)) | (rw [if_neg (by omega), if_neg (by omega), if_neg (by omega), if_pos (by omega)]; first | (rw [if_pos (by rw [sp_told_8]; exact hj)]; done) | (rw [if_neg (by rw [sp_told_8]; exact hj)]; done)) | (rw [if_neg (by omega), if_neg (by omega), if_neg (by omega), if_neg (by omega), if_pos (by omega)]; done) | (rw [if_neg (by omega), if_neg (by omega), if_neg (by omega), if_neg (by omega), if_neg (by omega)]; first | (rw [if_pos (by omega)]; first | (rw [if_pos (by omega)]; done) | (rw [if_neg (by omega)]; done)) | (rw [if_neg (by omega)]; done)), rfl, hB0, hB1, hB2, by omega, by omega⟩, hn, fr⟩ | (exfalso; omega)
        · skip
          exfalso; omega
