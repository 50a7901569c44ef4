/-! Table: shapes by numbers are made ready -/
theorem tp_y {ld dg : Nat → Int} {pa jo : Nat} {wa sr pu ri sj : Int} (h : vB ld dg pa jo wa sr pu ri) {j : Nat} (hj : j < jo) (hs : ¬ (j : Int) = sj) : max (sp_steps wa sr (j : Int)) 1 = tp jo wa sr sj j := by
  have hw := h.wag
  unfold tp sp_steps cf_st
  rw [if_pos (show j < jo ∧ (j : Int) ≠ sj from ⟨hj, hs⟩), if_pos hj]
  split <;> omega
theorem tp_n {jo : Nat} {wa sr sj : Int} {j : Nat} (h : ¬ j < jo ∨ (j : Int) = sj) : (1 : Int) = tp jo wa sr sj j := by
  unfold tp
  rw [if_neg (fun z => h.elim (fun q => q z.1) (fun q => z.2 q))]
theorem tz_y {jo : Nat} {wa sj : Int} {j : Nat} (hj : j < jo) (hs : ¬ (j : Int) = sj) : sp_low wa (j : Int) = -tz jo wa sj j := by
  unfold tz sp_low cf_z
  rw [if_pos (show j < jo ∧ (j : Int) ≠ sj from ⟨hj, hs⟩)]
  by_cases e : (j : Int) = wa
  · rw [if_pos e, if_neg (fun z : j < jo ∧ (j : Int) ≠ wa => z.2 e)]; rfl
  · rw [if_neg e, if_pos (show j < jo ∧ (j : Int) ≠ wa from ⟨hj, e⟩)]
theorem tz_n {jo : Nat} {wa sj : Int} {j : Nat} (h : ¬ j < jo ∨ (j : Int) = sj) : (0 : Int) = -tz jo wa sj j := by
  unfold tz
  rw [if_neg (fun z => h.elim (fun q => q z.1) (fun q => z.2 q))]
  rfl
/-- the table's rows of places -/
def kP (jo : Nat) (wa sr sj : Int) (pl lw : Nat → Int) : Prop := pl 0 = tp jo wa sr sj 0 ∧ pl 1 = tp jo wa sr sj 1 ∧ lw 0 = -tz jo wa sj 0 ∧ lw 1 = -tz jo wa sj 1 ∧ ∀ i, 0 ≤ pl i ∧ pl i ≤ 12
theorem kF_E (pa jo : Nat) (wa sr sj : Int) : kF pa jo wa sr sj = kE pa jo wa sr sj (0, 0, 0, 0, 0) := by
  unfold kF kE kS
  dsimp only
  rw [Int.zero_add, Int.zero_add]
  generalize tz jo wa sj 1 * tp jo wa sr sj 0 + tz jo wa sj 0 = X
  split <;> omega
theorem num_E {pa jo : Nat} {wa sr sj : Int} {pl lw po sp : Nat → Int} (hP : kP jo wa sr sj pl lw) {c : xCf} (ha : cf_as pa c po sp) : (¬ 2 < pa → sp_num2 pl lw po sp = kE pa jo wa sr sj c) ∧ (2 < pa → sp_num3 pl lw po sp = kE pa jo wa sr sj c) := by
  obtain ⟨p0, p1, l0, l1, -⟩ := hP
  obtain ⟨a0, a1, a2, s0, s1⟩ := ha
  unfold sp_num2 sp_num3 kE kS
  rw [p0, p1, l0, l1, a0, a1, s0, s1, Int.zero_mul, Int.zero_add, Int.sub_neg, Int.sub_neg]
  generalize (c.2.2.2.2 + tz jo wa sj 1) * tp jo wa sr sj 0 = X
  constructor
  · intro z
    rw [if_neg z]
    omega
  · intro z
    rw [if_pos z, a2 z]
    omega
/-- the poses' row behind numberShapes -/
def nP (pa : Nat) (po : Nat → Int) : Nat → Int := if 2 < pa then xa_upf (xa_upf (xa_upf (xa_fl po 3 1) 0 0) 1 0) 2 0 else xa_upf (xa_upf (xa_fl po 3 1) 0 0) 1 0
theorem nP_b {pa : Nat} {po : Nat → Int} (h : ∀ i, 0 ≤ po i ∧ po i ≤ 2) : ∀ i, 0 ≤ nP pa po i ∧ nP pa po i ≤ 2 := by
  unfold nP
  split
  · exact xa_upf_b (xa_upf_b (xa_upf_b (xa_fl_b h (by decide)) (by decide)) (by decide)) (by decide)
  · exact xa_upf_b (xa_upf_b (xa_fl_b h (by decide)) (by decide)) (by decide)

theorem c_nsTn2 {G : xa_G} {h0 h : xa_H} {g3 : Option xa_V} (k kb kbr kam : Nat) (sj : Int) (pl lw br am : Nat → Int) (nb na : Nat) (fs lst : Int) (po sp : Nat → Int) (tj tb : Int) (ld dg : Nat → Int) (wa sr pu ri : Int) (hk : 2 ≤ k) (hkn : k + 7 < h.2) (hkb : 2 ≤ kb) (hkk : kb + 3 ≤ k) (hkbr : k + 8 ≤ kbr ∨ kbr = k + 3) (hkbr2 : kbr < h.2) (hkam : k + 8 ≤ kam ∨ kam = k + 4) (hkam2 : kam < h.2) (hkq : kbr ≠ kam) (hB9 : vB ld dg 2 1 wa sr pu ri) (hge : kN 2 1 wa sr sj ≤ (na : Int)) (hna : na ≤ 100000) (hP : kP 1 wa sr sj pl lw) (hT0 : h.1 k = xa_o 6 [xa_r kb, xa_r (k + 5), xa_i sj, xa_r (k + 1), xa_r (k + 2), xa_i (((kN 2 1 wa sr sj).toNat : Nat) : Int), xa_i fs, xa_i lst, xa_r kbr, xa_r kam]) (hT1 : h.1 (k + 1) = xa_a 2 pl) (hT2 : h.1 (k + 2) = xa_a 2 lw) (hT3 : h.1 kbr = xa_a nb br) (hT4 : h.1 kam = xa_a na am) (hS0 : h.1 (k + 5) = xa_o 4 [xa_r kb, xa_r (k + 5 + 1), xa_r (k + 5 + 2), xa_i tj, xa_i tb]) (hS1 : h.1 (k + 5 + 1) = xa_a 3 po) (hS2 : h.1 (k + 5 + 2) = xa_a 2 sp) (hB0 : h.1 kb = xa_o 0 [xa_r (kb + 1), xa_r (kb + 2), xa_i 2, xa_i 1, xa_i wa, xa_i sr, xa_i pu, xa_i ri]) (hB1 : h.1 (kb + 1) = xa_a 9 ld) (hB2 : h.1 (kb + 2) = xa_a 2 dg) (hn : h.2 = h0.2) (fr : ∀ i, ((i < k ∨ k + 8 ≤ i) ∧ i ≠ kbr ∧ i ≠ kam) → h.1 i = h0.1 i) : xa_W G mX6_numberShapes (xa_Z G (fun r h' => r = none ∧ (∃ pl' lw' : Nat → Int, kP 1 wa sr sj pl' lw' ∧ h'.1 k = xa_o 6 [xa_r kb, xa_r (k + 5), xa_i sj, xa_r (k + 1), xa_r (k + 2), xa_i (((kN 2 1 wa sr sj).toNat : Nat) : Int), xa_i (kF 2 1 wa sr sj), xa_i (kF 2 1 wa sr sj + 9 - 1), xa_r kbr, xa_r kam] ∧ h'.1 (k + 1) = xa_a 2 pl' ∧ h'.1 (k + 2) = xa_a 2 lw' ∧ h'.1 kbr = xa_a nb br ∧ h'.1 kam = xa_a na (xa_fl am na 0)) ∧ xS h' (k + 5) kb (xa_upf (xa_upf (xa_fl po 3 1) 0 0) 1 0) (xa_fl sp 2 0) tj 0 ∧ h'.2 = h0.2 ∧ ∀ i, ((i < k ∨ k + 8 ≤ i) ∧ i ≠ kbr ∧ i ≠ kam) → h'.1 i = h0.1 i)) 144 [some (xa_r k), some (xa_i 9), some (xa_i 2), g3] [] h 0 0 := by
  have hkN := kN_b (sj := sj) hB9
  have hkF := kF_b (sj := sj) hB9
  refine xa_aload_n (pc := 144) dX6_numberShapes_144 rfl ?_
  refine xa_getfield (pc := 145) dX6_numberShapes_145 flRX6_21 (by omega) (by omega) hT0 rfl ?_
  refine xa_alen (pc := 148) dX6_numberShapes_148 (by omega) hT4 ?_
  refine xa_aload_n (pc := 149) dX6_numberShapes_149 rfl ?_
  refine xa_getfield (pc := 150) dX6_numberShapes_150 flRX6_46 (by omega) (by omega) hT0 rfl ?_
  refine xa_icmp_ge (pc := 153) (tgt := 179) dX6_numberShapes_153 (by decide) ⟨by omega, by omega⟩ ⟨by omega, by omega⟩ (fun c_153 => ?_) (fun c_153 => ?_)
  · skip
    refine xa_aload_n (pc := 179) dX6_numberShapes_179 rfl ?_
    refine xa_getfield (pc := 180) dX6_numberShapes_180 flRX6_21 (by omega) (by omega) hT0 rfl ?_
    refine xa_iconst (pc := 183) dX6_numberShapes_183 ?_
    refine xa_callS (pc := 184) (as := [xa_r kam, xa_i 0]) (rest := []) dX6_numberShapes_184 ⟨qJ7_fill_53178.1, qJ7_fill_53178.2.1, qJ7_fill_53178.2.2, by decide, by decide⟩ lkRX6_65 smJ7_fill_53178 rfl rfl (Nat.le_of_ble_eq_true rfl) (Nat.zero_le _) (Nat.zero_le _) (c_fill _ _ _ _ (by omega) (by omega) (by omega) hT4) (fun r h' hq => ?_)
    obtain ⟨rfl, hqn, hqA, hqf⟩ := hq
    have hT4 : h'.1 kam = xa_a na (xa_fl am na 0) := hqA
    have hT0 : h'.1 k = xa_o 6 [xa_r kb, xa_r (k + 5), xa_i sj, xa_r (k + 1), xa_r (k + 2), xa_i (((kN 2 1 wa sr sj).toNat : Nat) : Int), xa_i fs, xa_i lst, xa_r kbr, xa_r kam] := (hqf _ (by omega)).trans hT0
    have hT1 : h'.1 (k + 1) = xa_a 2 pl := (hqf _ (by omega)).trans hT1
    have hT2 : h'.1 (k + 2) = xa_a 2 lw := (hqf _ (by omega)).trans hT2
    have hT3 : h'.1 kbr = xa_a nb br := (hqf _ (by omega)).trans hT3
    have hS0 : h'.1 (k + 5) = xa_o 4 [xa_r kb, xa_r (k + 5 + 1), xa_r (k + 5 + 2), xa_i tj, xa_i tb] := (hqf _ (by omega)).trans hS0
    have hS1 : h'.1 (k + 5 + 1) = xa_a 3 po := (hqf _ (by omega)).trans hS1
    have hS2 : h'.1 (k + 5 + 2) = xa_a 2 sp := (hqf _ (by omega)).trans hS2
    have hB0 : h'.1 kb = xa_o 0 [xa_r (kb + 1), xa_r (kb + 2), xa_i 2, xa_i 1, xa_i wa, xa_i sr, xa_i pu, xa_i ri] := (hqf _ (by omega)).trans hB0
    have hB1 : h'.1 (kb + 1) = xa_a 9 ld := (hqf _ (by omega)).trans hB1
    have hB2 : h'.1 (kb + 2) = xa_a 2 dg := (hqf _ (by omega)).trans hB2
    have hn : h'.2 = h0.2 := hqn.trans hn
    have fr : ∀ i, ((i < k ∨ k + 8 ≤ i) ∧ i ≠ kbr ∧ i ≠ kam) → h'.1 i = h0.1 i := fun i hi => (hqf i (by omega)).trans (fr i hi)
    refine xa_aload_n (pc := 187) dX6_numberShapes_187 rfl ?_
    refine xa_getfield (pc := 188) dX6_numberShapes_188 flRX6_37 (by omega) (by omega) hT0 rfl ?_
    refine xa_callV (pc := 191) (as := []) (rest := []) dX6_numberShapes_191 ⟨qX4_rest.1, qX4_rest.2.1, qX4_rest.2.2, by decide, by decide⟩ lkRX6_71 imX4_rest seX4_rest rfl rfl (by omega) (by omega) hS0 rfl (Nat.le_of_ble_eq_true rfl) (Nat.zero_le _) (Nat.zero_le _) (c_rest _ _ _ _ _ _ _ _ 2 1 _ _ _ _ ⟨hS0, hS1, hS2, by omega, by omega⟩ ⟨hB0, hB1, hB2, by omega, by omega⟩ (by omega) (by omega) (by omega)) (fun r h' hq => ?_)
    obtain ⟨rfl, ⟨hS0, hS1, hS2, -, -⟩, hqn, hqf⟩ := hq
    have hS0 : h'.1 (k + 5) = xa_o 4 [xa_r kb, xa_r (k + 5 + 1), xa_r (k + 5 + 2), xa_i tj, xa_i 0] := hS0
    have hS1 : h'.1 (k + 5 + 1) = xa_a 3 (xa_fl po 3 1) := hS1
    have hS2 : h'.1 (k + 5 + 2) = xa_a 2 (xa_fl sp 2 0) := hS2
    have hT0 : h'.1 k = xa_o 6 [xa_r kb, xa_r (k + 5), xa_i sj, xa_r (k + 1), xa_r (k + 2), xa_i (((kN 2 1 wa sr sj).toNat : Nat) : Int), xa_i fs, xa_i lst, xa_r kbr, xa_r kam] := (hqf _ (by omega)).trans hT0
    have hT1 : h'.1 (k + 1) = xa_a 2 pl := (hqf _ (by omega)).trans hT1
    have hT2 : h'.1 (k + 2) = xa_a 2 lw := (hqf _ (by omega)).trans hT2
    have hT3 : h'.1 kbr = xa_a nb br := (hqf _ (by omega)).trans hT3
    have hT4 : h'.1 kam = xa_a na (xa_fl am na 0) := (hqf _ (by omega)).trans hT4
    have hB0 : h'.1 kb = xa_o 0 [xa_r (kb + 1), xa_r (kb + 2), xa_i 2, xa_i 1, xa_i wa, xa_i sr, xa_i pu, xa_i ri] := (hqf _ (by omega)).trans hB0
    have hB1 : h'.1 (kb + 1) = xa_a 9 ld := (hqf _ (by omega)).trans hB1
    have hB2 : h'.1 (kb + 2) = xa_a 2 dg := (hqf _ (by omega)).trans hB2
    have hn : h'.2 = h0.2 := hqn.trans hn
    have fr : ∀ i, ((i < k ∨ k + 8 ≤ i) ∧ i ≠ kbr ∧ i ≠ kam) → h'.1 i = h0.1 i := fun i hi => (hqf i (by omega)).trans (fr i hi)
    refine xa_iconst (pc := 194) dX6_numberShapes_194 ?_
    refine xa_istoren (pc := 195) [some (xa_r k), some (xa_i 9), some (xa_i 0), g3] dX6_numberShapes_195 (by decide) (Nat.le_of_ble_eq_true rfl) rfl rfl ?_
    refine xa_iload_n (pc := 196) dX6_numberShapes_196 rfl ?_
    refine xa_aload_n (pc := 197) dX6_numberShapes_197 rfl ?_
    refine xa_getfield (pc := 198) dX6_numberShapes_198 flRX6_24 (by omega) (by omega) hT0 rfl ?_
    refine xa_getfield (pc := 201) dX6_numberShapes_201 flRX6_41 (by omega) (by omega) hB0 rfl ?_
    refine xa_icmp_ge (pc := 204) (tgt := 222) dX6_numberShapes_204 (by decide) (by decide) (by decide) (fun c_204 => ?_) (fun c_204 => ?_)
    · skip
      exfalso; omega
    · skip
      refine xa_aload_n (pc := 207) dX6_numberShapes_207 rfl ?_
      refine xa_getfield (pc := 208) dX6_numberShapes_208 flRX6_37 (by omega) (by omega) hT0 rfl ?_
      refine xa_iload_n (pc := 211) dX6_numberShapes_211 rfl ?_
      refine xa_iconst (pc := 212) dX6_numberShapes_212 ?_
      refine xa_callV (pc := 213) (as := [xa_i 0, xa_i 0]) (rest := []) dX6_numberShapes_213 ⟨qX4_takePose.1, qX4_takePose.2.1, qX4_takePose.2.2, by decide, by decide⟩ lkRX6_74 imX4_takePose seX4_takePose rfl rfl (by omega) (by omega) hS0 rfl (Nat.le_of_ble_eq_true rfl) (Nat.zero_le _) (Nat.zero_le _) (c_takePose _ _ _ _ _ _ 0 0 0 rfl ⟨by decide, by decide⟩ (by omega) (by omega) hS0 hS1 hS2) (fun r h' hq => ?_)
      obtain ⟨rfl, hqA, hqn, hqf⟩ := hq
      have hS1 : h'.1 (k + 5 + 1) = xa_a 3 (xa_upf (xa_fl po 3 1) 0 0) := hqA
      have hT0 : h'.1 k = xa_o 6 [xa_r kb, xa_r (k + 5), xa_i sj, xa_r (k + 1), xa_r (k + 2), xa_i (((kN 2 1 wa sr sj).toNat : Nat) : Int), xa_i fs, xa_i lst, xa_r kbr, xa_r kam] := (hqf _ (by omega)).trans hT0
      have hT1 : h'.1 (k + 1) = xa_a 2 pl := (hqf _ (by omega)).trans hT1
      have hT2 : h'.1 (k + 2) = xa_a 2 lw := (hqf _ (by omega)).trans hT2
      have hT3 : h'.1 kbr = xa_a nb br := (hqf _ (by omega)).trans hT3
      have hT4 : h'.1 kam = xa_a na (xa_fl am na 0) := (hqf _ (by omega)).trans hT4
      have hS0 : h'.1 (k + 5) = xa_o 4 [xa_r kb, xa_r (k + 5 + 1), xa_r (k + 5 + 2), xa_i tj, xa_i 0] := (hqf _ (by omega)).trans hS0
      have hS2 : h'.1 (k + 5 + 2) = xa_a 2 (xa_fl sp 2 0) := (hqf _ (by omega)).trans hS2
      have hB0 : h'.1 kb = xa_o 0 [xa_r (kb + 1), xa_r (kb + 2), xa_i 2, xa_i 1, xa_i wa, xa_i sr, xa_i pu, xa_i ri] := (hqf _ (by omega)).trans hB0
      have hB1 : h'.1 (kb + 1) = xa_a 9 ld := (hqf _ (by omega)).trans hB1
      have hB2 : h'.1 (kb + 2) = xa_a 2 dg := (hqf _ (by omega)).trans hB2
      have hn : h'.2 = h0.2 := hqn.trans hn
      have fr : ∀ i, ((i < k ∨ k + 8 ≤ i) ∧ i ≠ kbr ∧ i ≠ kam) → h'.1 i = h0.1 i := fun i hi => (hqf i (by omega)).trans (fr i hi)
      refine xa_iincw (pc := 216) (y := 1) [some (xa_r k), some (xa_i 9), some (xa_i 1), g3] dX6_numberShapes_216 (by decide) rfl rfl rfl rfl ?_
      refine xa_goto (pc := 219) (tgt := 196) dX6_numberShapes_219 (by decide) ?_
      refine xa_iload_n (pc := 196) dX6_numberShapes_196 rfl ?_
      refine xa_aload_n (pc := 197) dX6_numberShapes_197 rfl ?_
      refine xa_getfield (pc := 198) dX6_numberShapes_198 flRX6_24 (by omega) (by omega) hT0 rfl ?_
      refine xa_getfield (pc := 201) dX6_numberShapes_201 flRX6_41 (by omega) (by omega) hB0 rfl ?_
      refine xa_icmp_ge (pc := 204) (tgt := 222) dX6_numberShapes_204 (by decide) (by decide) (by decide) (fun c_204 => ?_) (fun c_204 => ?_)
      · skip
        exfalso; omega
      · skip
        refine xa_aload_n (pc := 207) dX6_numberShapes_207 rfl ?_
        refine xa_getfield (pc := 208) dX6_numberShapes_208 flRX6_37 (by omega) (by omega) hT0 rfl ?_
        refine xa_iload_n (pc := 211) dX6_numberShapes_211 rfl ?_
        refine xa_iconst (pc := 212) dX6_numberShapes_212 ?_
        refine xa_callV (pc := 213) (as := [xa_i 1, xa_i 0]) (rest := []) dX6_numberShapes_213 ⟨qX4_takePose.1, qX4_takePose.2.1, qX4_takePose.2.2, by decide, by decide⟩ lkRX6_74 imX4_takePose seX4_takePose rfl rfl (by omega) (by omega) hS0 rfl (Nat.le_of_ble_eq_true rfl) (Nat.zero_le _) (Nat.zero_le _) (c_takePose _ _ _ _ _ _ 1 0 1 rfl ⟨by decide, by decide⟩ (by omega) (by omega) hS0 hS1 hS2) (fun r h' hq => ?_)
        obtain ⟨rfl, hqA, hqn, hqf⟩ := hq
        have hS1 : h'.1 (k + 5 + 1) = xa_a 3 (xa_upf (xa_upf (xa_fl po 3 1) 0 0) 1 0) := hqA
        have hT0 : h'.1 k = xa_o 6 [xa_r kb, xa_r (k + 5), xa_i sj, xa_r (k + 1), xa_r (k + 2), xa_i (((kN 2 1 wa sr sj).toNat : Nat) : Int), xa_i fs, xa_i lst, xa_r kbr, xa_r kam] := (hqf _ (by omega)).trans hT0
        have hT1 : h'.1 (k + 1) = xa_a 2 pl := (hqf _ (by omega)).trans hT1
        have hT2 : h'.1 (k + 2) = xa_a 2 lw := (hqf _ (by omega)).trans hT2
        have hT3 : h'.1 kbr = xa_a nb br := (hqf _ (by omega)).trans hT3
        have hT4 : h'.1 kam = xa_a na (xa_fl am na 0) := (hqf _ (by omega)).trans hT4
        have hS0 : h'.1 (k + 5) = xa_o 4 [xa_r kb, xa_r (k + 5 + 1), xa_r (k + 5 + 2), xa_i tj, xa_i 0] := (hqf _ (by omega)).trans hS0
        have hS2 : h'.1 (k + 5 + 2) = xa_a 2 (xa_fl sp 2 0) := (hqf _ (by omega)).trans hS2
        have hB0 : h'.1 kb = xa_o 0 [xa_r (kb + 1), xa_r (kb + 2), xa_i 2, xa_i 1, xa_i wa, xa_i sr, xa_i pu, xa_i ri] := (hqf _ (by omega)).trans hB0
        have hB1 : h'.1 (kb + 1) = xa_a 9 ld := (hqf _ (by omega)).trans hB1
        have hB2 : h'.1 (kb + 2) = xa_a 2 dg := (hqf _ (by omega)).trans hB2
        have hn : h'.2 = h0.2 := hqn.trans hn
        have fr : ∀ i, ((i < k ∨ k + 8 ≤ i) ∧ i ≠ kbr ∧ i ≠ kam) → h'.1 i = h0.1 i := fun i hi => (hqf i (by omega)).trans (fr i hi)
        refine xa_iincw (pc := 216) (y := 2) [some (xa_r k), some (xa_i 9), some (xa_i 2), g3] dX6_numberShapes_216 (by decide) rfl rfl rfl rfl ?_
        refine xa_goto (pc := 219) (tgt := 196) dX6_numberShapes_219 (by decide) ?_
        refine xa_iload_n (pc := 196) dX6_numberShapes_196 rfl ?_
        refine xa_aload_n (pc := 197) dX6_numberShapes_197 rfl ?_
        refine xa_getfield (pc := 198) dX6_numberShapes_198 flRX6_24 (by omega) (by omega) hT0 rfl ?_
        refine xa_getfield (pc := 201) dX6_numberShapes_201 flRX6_41 (by omega) (by omega) hB0 rfl ?_
        refine xa_icmp_ge (pc := 204) (tgt := 222) dX6_numberShapes_204 (by decide) (by decide) (by decide) (fun c_204 => ?_) (fun c_204 => ?_)
        · skip
          refine xa_aload_n (pc := 222) dX6_numberShapes_222 rfl ?_
          refine xa_aload_n (pc := 223) dX6_numberShapes_223 rfl ?_
          refine xa_callV (pc := 224) (as := []) (rest := [xa_r k]) dX6_numberShapes_224 ⟨qX6_numberNow.1, qX6_numberNow.2.1, qX6_numberNow.2.2, by decide, by decide⟩ lkRX6_78 imX6_numberNow seX6_numberNow rfl rfl (by omega) (by omega) hT0 rfl (Nat.le_of_ble_eq_true rfl) (Nat.zero_le _) (Nat.zero_le _) (c_numberNow2 _ _ _ _ _ _ _ _ _ _ _ (kN 2 1 wa sr sj).toNat _ _ _ _ _ _ _ _ _ _ _ _ _ (by omega) (by omega) (by omega) (by omega) (by omega) (by omega) (by omega) (by omega) hT0 hT1 hT2 hT3 hT4 hS0 hS1 hS2 hB0 hB1 hB2) (fun r h' hq => ?_)
          obtain ⟨rfl, hq⟩ := hq
          have hq := hq.symm
          subst hq
          refine xa_top (y := kF 2 1 wa sr sj) ?_ ?_
          · rw [kF_E]; exact (num_E (pa := 2) (jo := 1) (sr := sr) (wa := wa) (sj := sj) (pl := pl) (lw := lw) (po := xa_upf (xa_upf (xa_fl po 3 1) 0 0) 1 0) (sp := xa_fl sp 2 0) (c := (0, 0, 0, 0, 0)) hP ⟨(xa_upf_ne _ _ (by decide)).trans (xa_upf_at _ _ _), xa_upf_at _ _ _, fun z => absurd z (by decide), xa_fl_lt _ _ (by decide), xa_fl_lt _ _ (by decide)⟩).1 (by decide)
          refine xa_putw (pc := 227) [xa_r kb, xa_r (k + 5), xa_i sj, xa_r (k + 1), xa_r (k + 2), xa_i (((kN 2 1 wa sr sj).toNat : Nat) : Int), xa_i (kF 2 1 wa sr sj), xa_i lst, xa_r kbr, xa_r kam] dX6_numberShapes_227 flRX6_82 plX6_6 (by omega) (by omega) hT0 trivial rfl (fun h1 nh1 ch1 oh1 => ?_)
          have hT0 : h1.1 k = xa_o 6 [xa_r kb, xa_r (k + 5), xa_i sj, xa_r (k + 1), xa_r (k + 2), xa_i (((kN 2 1 wa sr sj).toNat : Nat) : Int), xa_i (kF 2 1 wa sr sj), xa_i lst, xa_r kbr, xa_r kam] := ch1
          have hT1 : h1.1 (k + 1) = xa_a 2 pl := (oh1 _ (by omega)).trans hT1
          have hT2 : h1.1 (k + 2) = xa_a 2 lw := (oh1 _ (by omega)).trans hT2
          have hT3 : h1.1 kbr = xa_a nb br := (oh1 _ (by omega)).trans hT3
          have hT4 : h1.1 kam = xa_a na (xa_fl am na 0) := (oh1 _ (by omega)).trans hT4
          have hS0 : h1.1 (k + 5) = xa_o 4 [xa_r kb, xa_r (k + 5 + 1), xa_r (k + 5 + 2), xa_i tj, xa_i 0] := (oh1 _ (by omega)).trans hS0
          have hS1 : h1.1 (k + 5 + 1) = xa_a 3 (xa_upf (xa_upf (xa_fl po 3 1) 0 0) 1 0) := (oh1 _ (by omega)).trans hS1
          have hS2 : h1.1 (k + 5 + 2) = xa_a 2 (xa_fl sp 2 0) := (oh1 _ (by omega)).trans hS2
          have hB0 : h1.1 kb = xa_o 0 [xa_r (kb + 1), xa_r (kb + 2), xa_i 2, xa_i 1, xa_i wa, xa_i sr, xa_i pu, xa_i ri] := (oh1 _ (by omega)).trans hB0
          have hB1 : h1.1 (kb + 1) = xa_a 9 ld := (oh1 _ (by omega)).trans hB1
          have hB2 : h1.1 (kb + 2) = xa_a 2 dg := (oh1 _ (by omega)).trans hB2
          have hn : h1.2 = h0.2 := nh1.trans hn
          have fr : ∀ i, ((i < k ∨ k + 8 ≤ i) ∧ i ≠ kbr ∧ i ≠ kam) → h1.1 i = h0.1 i := fun i hi => (oh1 i (by omega)).trans (fr i hi)
          refine xa_aload_n (pc := 230) dX6_numberShapes_230 rfl ?_
          refine xa_aload_n (pc := 231) dX6_numberShapes_231 rfl ?_
          refine xa_getfield (pc := 232) dX6_numberShapes_232 flRX6_82 (by omega) (by omega) hT0 rfl ?_
          refine xa_iload_n (pc := 235) dX6_numberShapes_235 rfl ?_
          refine xa_iadd (pc := 236) dX6_numberShapes_236 ?_
          refine xa_iconst (pc := 237) dX6_numberShapes_237 ?_
          refine xa_isub (pc := 238) dX6_numberShapes_238 ?_
          refine xa_putw (pc := 239) [xa_r kb, xa_r (k + 5), xa_i sj, xa_r (k + 1), xa_r (k + 2), xa_i (((kN 2 1 wa sr sj).toNat : Nat) : Int), xa_i (kF 2 1 wa sr sj), xa_i (((kF 2 1 wa sr sj) + 9) - 1), xa_r kbr, xa_r kam] dX6_numberShapes_239 flRX6_85 plX6_7 (by omega) (by omega) hT0 trivial rfl (fun h2 nh2 ch2 oh2 => ?_)
          have hT0 : h2.1 k = xa_o 6 [xa_r kb, xa_r (k + 5), xa_i sj, xa_r (k + 1), xa_r (k + 2), xa_i (((kN 2 1 wa sr sj).toNat : Nat) : Int), xa_i (kF 2 1 wa sr sj), xa_i (((kF 2 1 wa sr sj) + 9) - 1), xa_r kbr, xa_r kam] := ch2
          have hT1 : h2.1 (k + 1) = xa_a 2 pl := (oh2 _ (by omega)).trans hT1
          have hT2 : h2.1 (k + 2) = xa_a 2 lw := (oh2 _ (by omega)).trans hT2
          have hT3 : h2.1 kbr = xa_a nb br := (oh2 _ (by omega)).trans hT3
          have hT4 : h2.1 kam = xa_a na (xa_fl am na 0) := (oh2 _ (by omega)).trans hT4
          have hS0 : h2.1 (k + 5) = xa_o 4 [xa_r kb, xa_r (k + 5 + 1), xa_r (k + 5 + 2), xa_i tj, xa_i 0] := (oh2 _ (by omega)).trans hS0
          have hS1 : h2.1 (k + 5 + 1) = xa_a 3 (xa_upf (xa_upf (xa_fl po 3 1) 0 0) 1 0) := (oh2 _ (by omega)).trans hS1
          have hS2 : h2.1 (k + 5 + 2) = xa_a 2 (xa_fl sp 2 0) := (oh2 _ (by omega)).trans hS2
          have hB0 : h2.1 kb = xa_o 0 [xa_r (kb + 1), xa_r (kb + 2), xa_i 2, xa_i 1, xa_i wa, xa_i sr, xa_i pu, xa_i ri] := (oh2 _ (by omega)).trans hB0
          have hB1 : h2.1 (kb + 1) = xa_a 9 ld := (oh2 _ (by omega)).trans hB1
          have hB2 : h2.1 (kb + 2) = xa_a 2 dg := (oh2 _ (by omega)).trans hB2
          have hn : h2.2 = h0.2 := nh2.trans hn
          have fr : ∀ i, ((i < k ∨ k + 8 ≤ i) ∧ i ≠ kbr ∧ i ≠ kam) → h2.1 i = h0.1 i := fun i hi => (oh2 i (by omega)).trans (fr i hi)
          refine xa_return (pc := 242) dX6_numberShapes_242 rfl ?_
          exact ⟨rfl, ⟨pl, lw, hP, hT0, hT1, hT2, hT3, hT4⟩, ⟨hS0, hS1, hS2, by omega, by omega⟩, hn, fr⟩
        · skip
          exfalso; omega
  · skip
    exfalso; omega
theorem c_numberShapesn2 {G : xa_G} {h : xa_H} (k kb kbr kam : Nat) (sj : Int) (pl lw br am : Nat → Int) (nb na : Nat) (ns fs lst : Int) (po sp : Nat → Int) (tj tb : Int) (ld dg : Nat → Int) (wa sr pu ri : Int) (hk : 2 ≤ k) (hkn : k + 7 < h.2) (hkb : 2 ≤ kb) (hkk : kb + 3 ≤ k) (hkbr : k + 8 ≤ kbr ∨ kbr = k + 3) (hkbr2 : kbr < h.2) (hkam : k + 8 ≤ kam ∨ kam = k + 4) (hkam2 : kam < h.2) (hkq : kbr ≠ kam) (hpl0 : ∀ i, 0 ≤ pl i ∧ pl i ≤ 12) (hsj : -1 ≤ sj ∧ sj ≤ 1) (hB9 : vB ld dg 2 1 wa sr pu ri) (hge : kN 2 1 wa sr sj ≤ (na : Int)) (hna : na ≤ 100000) (hT0 : h.1 k = xa_o 6 [xa_r kb, xa_r (k + 5), xa_i sj, xa_r (k + 1), xa_r (k + 2), xa_i ns, xa_i fs, xa_i lst, xa_r kbr, xa_r kam]) (hT1 : h.1 (k + 1) = xa_a 2 pl) (hT2 : h.1 (k + 2) = xa_a 2 lw) (hT3 : h.1 kbr = xa_a nb br) (hT4 : h.1 kam = xa_a na am) (hS0 : h.1 (k + 5) = xa_o 4 [xa_r kb, xa_r (k + 5 + 1), xa_r (k + 5 + 2), xa_i tj, xa_i tb]) (hS1 : h.1 (k + 5 + 1) = xa_a 3 po) (hS2 : h.1 (k + 5 + 2) = xa_a 2 sp) (hB0 : h.1 kb = xa_o 0 [xa_r (kb + 1), xa_r (kb + 2), xa_i 2, xa_i 1, xa_i wa, xa_i sr, xa_i pu, xa_i ri]) (hB1 : h.1 (kb + 1) = xa_a 9 ld) (hB2 : h.1 (kb + 2) = xa_a 2 dg) : xa_M G mX6_numberShapes [xa_r k] h 0 0 (fun r h' => r = none ∧ (∃ pl' lw' : Nat → Int, kP 1 wa sr sj pl' lw' ∧ h'.1 k = xa_o 6 [xa_r kb, xa_r (k + 5), xa_i sj, xa_r (k + 1), xa_r (k + 2), xa_i (((kN 2 1 wa sr sj).toNat : Nat) : Int), xa_i (kF 2 1 wa sr sj), xa_i (kF 2 1 wa sr sj + 9 - 1), xa_r kbr, xa_r kam] ∧ h'.1 (k + 1) = xa_a 2 pl' ∧ h'.1 (k + 2) = xa_a 2 lw' ∧ h'.1 kbr = xa_a nb br ∧ h'.1 kam = xa_a na (xa_fl am na 0)) ∧ xS h' (k + 5) kb (xa_upf (xa_upf (xa_fl po 3 1) 0 0) 1 0) (xa_fl sp 2 0) tj 0 ∧ h'.2 = h.2 ∧ ∀ i, ((i < k ∨ k + 8 ≤ i) ∧ i ≠ kbr ∧ i ≠ kam) → h'.1 i = h.1 i) := by
  refine xa_enter (by decide +kernel) (Nat.le_of_ble_eq_true rfl) ?_
  refine xa_locals (ls' := [some (xa_r k), none, none, none]) rfl ?_
  have hn : h.2 = h.2 := rfl
  have fr : ∀ i, ((i < k ∨ k + 8 ≤ i) ∧ i ≠ kbr ∧ i ≠ kam) → h.1 i = h.1 i := fun _ _ => rfl
  have hkN := kN_b (sj := sj) hB9
  have hkF := kF_b (sj := sj) hB9
  have hw := hB9.wag
  refine xa_iconst (pc := 0) dX6_numberShapes_0 ?_
  refine xa_istoren (pc := 1) [some (xa_r k), some (xa_i 1), none, none] dX6_numberShapes_1 (by decide) (Nat.le_of_ble_eq_true rfl) rfl rfl ?_
  refine xa_iconst (pc := 2) dX6_numberShapes_2 ?_
  refine xa_istoren (pc := 3) [some (xa_r k), some (xa_i 1), some (xa_i 0), none] dX6_numberShapes_3 (by decide) (Nat.le_of_ble_eq_true rfl) rfl rfl ?_
  refine xa_iload_n (pc := 4) dX6_numberShapes_4 rfl ?_
  refine xa_aload_n (pc := 5) dX6_numberShapes_5 rfl ?_
  refine xa_getfield (pc := 6) dX6_numberShapes_6 flRX6_24 (by omega) (by omega) hT0 rfl ?_
  refine xa_getfield (pc := 9) dX6_numberShapes_9 flRX6_41 (by omega) (by omega) hB0 rfl ?_
  refine xa_icmp_ge (pc := 12) (tgt := 25) dX6_numberShapes_12 (by decide) (by decide) (by decide) (fun c_12 => ?_) (fun c_12 => ?_)
  · skip
    exfalso; omega
  · skip
    refine xa_iload_n (pc := 15) dX6_numberShapes_15 rfl ?_
    refine xa_iconst (pc := 16) dX6_numberShapes_16 ?_
    refine xa_imul (pc := 17) dX6_numberShapes_17 ?_
    refine xa_top (y := 3) (by decide) ?_
    refine xa_istoren (pc := 18) [some (xa_r k), some (xa_i 3), some (xa_i 0), none] dX6_numberShapes_18 (by decide) (Nat.le_of_ble_eq_true rfl) rfl rfl ?_
    refine xa_iincw (pc := 19) (y := 1) [some (xa_r k), some (xa_i 3), some (xa_i 1), none] dX6_numberShapes_19 (by decide) rfl rfl rfl rfl ?_
    refine xa_goto (pc := 22) (tgt := 4) dX6_numberShapes_22 (by decide) ?_
    refine xa_iload_n (pc := 4) dX6_numberShapes_4 rfl ?_
    refine xa_aload_n (pc := 5) dX6_numberShapes_5 rfl ?_
    refine xa_getfield (pc := 6) dX6_numberShapes_6 flRX6_24 (by omega) (by omega) hT0 rfl ?_
    refine xa_getfield (pc := 9) dX6_numberShapes_9 flRX6_41 (by omega) (by omega) hB0 rfl ?_
    refine xa_icmp_ge (pc := 12) (tgt := 25) dX6_numberShapes_12 (by decide) (by decide) (by decide) (fun c_12 => ?_) (fun c_12 => ?_)
    · skip
      exfalso; omega
    · skip
      refine xa_iload_n (pc := 15) dX6_numberShapes_15 rfl ?_
      refine xa_iconst (pc := 16) dX6_numberShapes_16 ?_
      refine xa_imul (pc := 17) dX6_numberShapes_17 ?_
      refine xa_top (y := 9) (by decide) ?_
      refine xa_istoren (pc := 18) [some (xa_r k), some (xa_i 9), some (xa_i 1), none] dX6_numberShapes_18 (by decide) (Nat.le_of_ble_eq_true rfl) rfl rfl ?_
      refine xa_iincw (pc := 19) (y := 2) [some (xa_r k), some (xa_i 9), some (xa_i 2), none] dX6_numberShapes_19 (by decide) rfl rfl rfl rfl ?_
      refine xa_goto (pc := 22) (tgt := 4) dX6_numberShapes_22 (by decide) ?_
      refine xa_iload_n (pc := 4) dX6_numberShapes_4 rfl ?_
      refine xa_aload_n (pc := 5) dX6_numberShapes_5 rfl ?_
      refine xa_getfield (pc := 6) dX6_numberShapes_6 flRX6_24 (by omega) (by omega) hT0 rfl ?_
      refine xa_getfield (pc := 9) dX6_numberShapes_9 flRX6_41 (by omega) (by omega) hB0 rfl ?_
      refine xa_icmp_ge (pc := 12) (tgt := 25) dX6_numberShapes_12 (by decide) (by decide) (by decide) (fun c_12 => ?_) (fun c_12 => ?_)
      · skip
        refine xa_aload_n (pc := 25) dX6_numberShapes_25 rfl ?_
        refine xa_iload_n (pc := 26) dX6_numberShapes_26 rfl ?_
        refine xa_putw (pc := 27) [xa_r kb, xa_r (k + 5), xa_i sj, xa_r (k + 1), xa_r (k + 2), xa_i 9, xa_i fs, xa_i lst, xa_r kbr, xa_r kam] dX6_numberShapes_27 flRX6_46 plX6_5 (by omega) (by omega) hT0 trivial rfl (fun h1 nh1 ch1 oh1 => ?_)
        have hT0 : h1.1 k = xa_o 6 [xa_r kb, xa_r (k + 5), xa_i sj, xa_r (k + 1), xa_r (k + 2), xa_i 9, xa_i fs, xa_i lst, xa_r kbr, xa_r kam] := ch1
        have hT1 : h1.1 (k + 1) = xa_a 2 pl := (oh1 _ (by omega)).trans hT1
        have hT2 : h1.1 (k + 2) = xa_a 2 lw := (oh1 _ (by omega)).trans hT2
        have hT3 : h1.1 kbr = xa_a nb br := (oh1 _ (by omega)).trans hT3
        have hT4 : h1.1 kam = xa_a na am := (oh1 _ (by omega)).trans hT4
        have hS0 : h1.1 (k + 5) = xa_o 4 [xa_r kb, xa_r (k + 5 + 1), xa_r (k + 5 + 2), xa_i tj, xa_i tb] := (oh1 _ (by omega)).trans hS0
        have hS1 : h1.1 (k + 5 + 1) = xa_a 3 po := (oh1 _ (by omega)).trans hS1
        have hS2 : h1.1 (k + 5 + 2) = xa_a 2 sp := (oh1 _ (by omega)).trans hS2
        have hB0 : h1.1 kb = xa_o 0 [xa_r (kb + 1), xa_r (kb + 2), xa_i 2, xa_i 1, xa_i wa, xa_i sr, xa_i pu, xa_i ri] := (oh1 _ (by omega)).trans hB0
        have hB1 : h1.1 (kb + 1) = xa_a 9 ld := (oh1 _ (by omega)).trans hB1
        have hB2 : h1.1 (kb + 2) = xa_a 2 dg := (oh1 _ (by omega)).trans hB2
        have hn : h1.2 = h.2 := nh1.trans hn
        have fr : ∀ i, ((i < k ∨ k + 8 ≤ i) ∧ i ≠ kbr ∧ i ≠ kam) → h1.1 i = h.1 i := fun i hi => (oh1 i (by omega)).trans (fr i hi)
        refine xa_iconst (pc := 30) dX6_numberShapes_30 ?_
        refine xa_istoren (pc := 31) [some (xa_r k), some (xa_i 9), some (xa_i 0), none] dX6_numberShapes_31 (by decide) (Nat.le_of_ble_eq_true rfl) rfl rfl ?_
        refine xa_iload_n (pc := 32) dX6_numberShapes_32 rfl ?_
        refine xa_aload_n (pc := 33) dX6_numberShapes_33 rfl ?_
        refine xa_getfield (pc := 34) dX6_numberShapes_34 flRX6_9 (by omega) (by omega) hT0 rfl ?_
        refine xa_alen (pc := 37) dX6_numberShapes_37 (by omega) hT1 ?_
        refine xa_top (y := 2) rfl ?_
        refine xa_icmp_ge (pc := 38) (tgt := 144) dX6_numberShapes_38 (by decide) (by decide) (by decide) (fun c_38 => ?_) (fun c_38 => ?_)
        · skip
          exfalso; omega
        · skip
          refine xa_iload_n (pc := 41) dX6_numberShapes_41 rfl ?_
          refine xa_aload_n (pc := 42) dX6_numberShapes_42 rfl ?_
          refine xa_getfield (pc := 43) dX6_numberShapes_43 flRX6_15 (by omega) (by omega) hT0 rfl ?_
          refine xa_alen (pc := 46) dX6_numberShapes_46 (by omega) hT2 ?_
          refine xa_top (y := 2) rfl ?_
          refine xa_icmp_ge (pc := 47) (tgt := 144) dX6_numberShapes_47 (by decide) (by decide) (by decide) (fun c_47 => ?_) (fun c_47 => ?_)
          · skip
            exfalso; omega
          · skip
            refine xa_iload_n (pc := 50) dX6_numberShapes_50 rfl ?_
            refine xa_aload_n (pc := 51) dX6_numberShapes_51 rfl ?_
            refine xa_getfield (pc := 52) dX6_numberShapes_52 flRX6_24 (by omega) (by omega) hT0 rfl ?_
            refine xa_getfield (pc := 55) dX6_numberShapes_55 flRX6_49 (by omega) (by omega) hB0 rfl ?_
            refine xa_icmp_ge (pc := 58) (tgt := 73) dX6_numberShapes_58 (by decide) (by decide) (by decide) (fun c_58 => ?_) (fun c_58 => ?_)
            · skip
              exfalso; omega
            · skip
              refine xa_iload_n (pc := 61) dX6_numberShapes_61 rfl ?_
              refine xa_aload_n (pc := 62) dX6_numberShapes_62 rfl ?_
              refine xa_getfield (pc := 63) dX6_numberShapes_63 flRX6_28 (by omega) (by omega) hT0 rfl ?_
              refine xa_icmp_eq (pc := 66) (tgt := 73) dX6_numberShapes_66 (by decide) (by decide) ⟨by omega, by omega⟩ (fun c_66 => ?_) (fun c_66 => ?_)
              · skip
                refine xa_iconst (pc := 73) dX6_numberShapes_73 ?_
                refine xa_istoren (pc := 74) [some (xa_r k), some (xa_i 9), some (xa_i 0), some (xa_i 0)] dX6_numberShapes_74 (by decide) (Nat.le_of_ble_eq_true rfl) rfl rfl ?_
                refine xa_aload_n (pc := 75) dX6_numberShapes_75 rfl ?_
                refine xa_getfield (pc := 76) dX6_numberShapes_76 flRX6_9 (by omega) (by omega) hT0 rfl ?_
                refine xa_iload_n (pc := 79) dX6_numberShapes_79 rfl ?_
                refine xa_iload_n (pc := 80) dX6_numberShapes_80 rfl ?_
                refine xa_if_eq (pc := 81) (tgt := 99) dX6_numberShapes_81 (by decide) (by decide) (fun c_81 => ?_) (fun c_81 => ?_)
                · skip
                  refine xa_iconst (pc := 99) dX6_numberShapes_99 ?_
                  refine xa_top (y := tp 1 wa sr sj 0) (by first | exact tp_y hB9 (j := 0) (by decide) (fun z => by omega) | exact tp_n (j := 0) (Or.inr (by omega)) | exact tp_n (j := 0) (Or.inl (by decide))) ?_
                  refine xa_iastw (pc := 100) 0 dX6_numberShapes_100 (by omega) (by omega) hT1 (by omega) (by omega) rfl (fun h2 nh2 ch2 oh2 => ?_)
                  have hT1 : h2.1 (k + 1) = xa_a 2 (xa_upf pl 0 (tp 1 wa sr sj 0)) := ch2
                  have hT0 : h2.1 k = xa_o 6 [xa_r kb, xa_r (k + 5), xa_i sj, xa_r (k + 1), xa_r (k + 2), xa_i 9, xa_i fs, xa_i lst, xa_r kbr, xa_r kam] := (oh2 _ (by omega)).trans hT0
                  have hT2 : h2.1 (k + 2) = xa_a 2 lw := (oh2 _ (by omega)).trans hT2
                  have hT3 : h2.1 kbr = xa_a nb br := (oh2 _ (by omega)).trans hT3
                  have hT4 : h2.1 kam = xa_a na am := (oh2 _ (by omega)).trans hT4
                  have hS0 : h2.1 (k + 5) = xa_o 4 [xa_r kb, xa_r (k + 5 + 1), xa_r (k + 5 + 2), xa_i tj, xa_i tb] := (oh2 _ (by omega)).trans hS0
                  have hS1 : h2.1 (k + 5 + 1) = xa_a 3 po := (oh2 _ (by omega)).trans hS1
                  have hS2 : h2.1 (k + 5 + 2) = xa_a 2 sp := (oh2 _ (by omega)).trans hS2
                  have hB0 : h2.1 kb = xa_o 0 [xa_r (kb + 1), xa_r (kb + 2), xa_i 2, xa_i 1, xa_i wa, xa_i sr, xa_i pu, xa_i ri] := (oh2 _ (by omega)).trans hB0
                  have hB1 : h2.1 (kb + 1) = xa_a 9 ld := (oh2 _ (by omega)).trans hB1
                  have hB2 : h2.1 (kb + 2) = xa_a 2 dg := (oh2 _ (by omega)).trans hB2
                  have hn : h2.2 = h.2 := nh2.trans hn
                  have fr : ∀ i, ((i < k ∨ k + 8 ≤ i) ∧ i ≠ kbr ∧ i ≠ kam) → h2.1 i = h.1 i := fun i hi => (oh2 i (by omega)).trans (fr i hi)
                  refine xa_aload_n (pc := 101) dX6_numberShapes_101 rfl ?_
                  refine xa_getfield (pc := 102) dX6_numberShapes_102 flRX6_15 (by omega) (by omega) hT0 rfl ?_
                  refine xa_iload_n (pc := 105) dX6_numberShapes_105 rfl ?_
                  refine xa_iload_n (pc := 106) dX6_numberShapes_106 rfl ?_
                  refine xa_if_eq (pc := 107) (tgt := 121) dX6_numberShapes_107 (by decide) (by decide) (fun c_107 => ?_) (fun c_107 => ?_)
                  · skip
                    refine xa_iconst (pc := 121) dX6_numberShapes_121 ?_
                    refine xa_top (y := -tz 1 wa sj 0) (by first | exact tz_y (j := 0) (by decide) (fun z => by omega) | exact tz_n (j := 0) (Or.inr (by omega)) | exact tz_n (j := 0) (Or.inl (by decide))) ?_
                    refine xa_iastw (pc := 122) 0 dX6_numberShapes_122 (by omega) (by omega) hT2 (by omega) (by omega) rfl (fun h3 nh3 ch3 oh3 => ?_)
                    have hT2 : h3.1 (k + 2) = xa_a 2 (xa_upf lw 0 (-tz 1 wa sj 0)) := ch3
                    have hT0 : h3.1 k = xa_o 6 [xa_r kb, xa_r (k + 5), xa_i sj, xa_r (k + 1), xa_r (k + 2), xa_i 9, xa_i fs, xa_i lst, xa_r kbr, xa_r kam] := (oh3 _ (by omega)).trans hT0
                    have hT1 : h3.1 (k + 1) = xa_a 2 (xa_upf pl 0 (tp 1 wa sr sj 0)) := (oh3 _ (by omega)).trans hT1
                    have hT3 : h3.1 kbr = xa_a nb br := (oh3 _ (by omega)).trans hT3
                    have hT4 : h3.1 kam = xa_a na am := (oh3 _ (by omega)).trans hT4
                    have hS0 : h3.1 (k + 5) = xa_o 4 [xa_r kb, xa_r (k + 5 + 1), xa_r (k + 5 + 2), xa_i tj, xa_i tb] := (oh3 _ (by omega)).trans hS0
                    have hS1 : h3.1 (k + 5 + 1) = xa_a 3 po := (oh3 _ (by omega)).trans hS1
                    have hS2 : h3.1 (k + 5 + 2) = xa_a 2 sp := (oh3 _ (by omega)).trans hS2
                    have hB0 : h3.1 kb = xa_o 0 [xa_r (kb + 1), xa_r (kb + 2), xa_i 2, xa_i 1, xa_i wa, xa_i sr, xa_i pu, xa_i ri] := (oh3 _ (by omega)).trans hB0
                    have hB1 : h3.1 (kb + 1) = xa_a 9 ld := (oh3 _ (by omega)).trans hB1
                    have hB2 : h3.1 (kb + 2) = xa_a 2 dg := (oh3 _ (by omega)).trans hB2
                    have hn : h3.2 = h.2 := nh3.trans hn
                    have fr : ∀ i, ((i < k ∨ k + 8 ≤ i) ∧ i ≠ kbr ∧ i ≠ kam) → h3.1 i = h.1 i := fun i hi => (oh3 i (by omega)).trans (fr i hi)
                    refine xa_aload_n (pc := 123) dX6_numberShapes_123 rfl ?_
                    refine xa_dup (pc := 124) dX6_numberShapes_124 rfl ?_
                    refine xa_getfield (pc := 125) dX6_numberShapes_125 flRX6_46 (by omega) (by omega) hT0 rfl ?_
                    refine xa_aload_n (pc := 128) dX6_numberShapes_128 rfl ?_
                    refine xa_getfield (pc := 129) dX6_numberShapes_129 flRX6_9 (by omega) (by omega) hT0 rfl ?_
                    refine xa_iload_n (pc := 132) dX6_numberShapes_132 rfl ?_
                    refine xa_ialdw (pc := 133) 0 dX6_numberShapes_133 (by omega) hT1 (by omega) (by omega) rfl ?_
                    refine xa_top (y := tp 1 wa sr sj 0) (xa_upf_at _ _ _) ?_
                    refine xa_imul (pc := 134) dX6_numberShapes_134 ?_
                    refine xa_putw (pc := 135) [xa_r kb, xa_r (k + 5), xa_i sj, xa_r (k + 1), xa_r (k + 2), xa_i (9 * (tp 1 wa sr sj 0)), xa_i fs, xa_i lst, xa_r kbr, xa_r kam] dX6_numberShapes_135 flRX6_46 plX6_5 (by omega) (by omega) hT0 trivial rfl (fun h4 nh4 ch4 oh4 => ?_)
                    have hT0 : h4.1 k = xa_o 6 [xa_r kb, xa_r (k + 5), xa_i sj, xa_r (k + 1), xa_r (k + 2), xa_i (9 * (tp 1 wa sr sj 0)), xa_i fs, xa_i lst, xa_r kbr, xa_r kam] := ch4
                    have hT1 : h4.1 (k + 1) = xa_a 2 (xa_upf pl 0 (tp 1 wa sr sj 0)) := (oh4 _ (by omega)).trans hT1
                    have hT2 : h4.1 (k + 2) = xa_a 2 (xa_upf lw 0 (-tz 1 wa sj 0)) := (oh4 _ (by omega)).trans hT2
                    have hT3 : h4.1 kbr = xa_a nb br := (oh4 _ (by omega)).trans hT3
                    have hT4 : h4.1 kam = xa_a na am := (oh4 _ (by omega)).trans hT4
                    have hS0 : h4.1 (k + 5) = xa_o 4 [xa_r kb, xa_r (k + 5 + 1), xa_r (k + 5 + 2), xa_i tj, xa_i tb] := (oh4 _ (by omega)).trans hS0
                    have hS1 : h4.1 (k + 5 + 1) = xa_a 3 po := (oh4 _ (by omega)).trans hS1
                    have hS2 : h4.1 (k + 5 + 2) = xa_a 2 sp := (oh4 _ (by omega)).trans hS2
                    have hB0 : h4.1 kb = xa_o 0 [xa_r (kb + 1), xa_r (kb + 2), xa_i 2, xa_i 1, xa_i wa, xa_i sr, xa_i pu, xa_i ri] := (oh4 _ (by omega)).trans hB0
                    have hB1 : h4.1 (kb + 1) = xa_a 9 ld := (oh4 _ (by omega)).trans hB1
                    have hB2 : h4.1 (kb + 2) = xa_a 2 dg := (oh4 _ (by omega)).trans hB2
                    have hn : h4.2 = h.2 := nh4.trans hn
                    have fr : ∀ i, ((i < k ∨ k + 8 ≤ i) ∧ i ≠ kbr ∧ i ≠ kam) → h4.1 i = h.1 i := fun i hi => (oh4 i (by omega)).trans (fr i hi)
                    refine xa_iincw (pc := 138) (y := 1) [some (xa_r k), some (xa_i 9), some (xa_i 1), some (xa_i 0)] dX6_numberShapes_138 (by decide) rfl rfl rfl rfl ?_
                    refine xa_goto (pc := 141) (tgt := 32) dX6_numberShapes_141 (by decide) ?_
                    refine xa_iload_n (pc := 32) dX6_numberShapes_32 rfl ?_
                    refine xa_aload_n (pc := 33) dX6_numberShapes_33 rfl ?_
                    refine xa_getfield (pc := 34) dX6_numberShapes_34 flRX6_9 (by omega) (by omega) hT0 rfl ?_
                    refine xa_alen (pc := 37) dX6_numberShapes_37 (by omega) hT1 ?_
                    refine xa_top (y := 2) rfl ?_
                    refine xa_icmp_ge (pc := 38) (tgt := 144) dX6_numberShapes_38 (by decide) (by decide) (by decide) (fun c_38 => ?_) (fun c_38 => ?_)
                    · skip
                      exfalso; omega
                    · skip
                      refine xa_iload_n (pc := 41) dX6_numberShapes_41 rfl ?_
                      refine xa_aload_n (pc := 42) dX6_numberShapes_42 rfl ?_
                      refine xa_getfield (pc := 43) dX6_numberShapes_43 flRX6_15 (by omega) (by omega) hT0 rfl ?_
                      refine xa_alen (pc := 46) dX6_numberShapes_46 (by omega) hT2 ?_
                      refine xa_top (y := 2) rfl ?_
                      refine xa_icmp_ge (pc := 47) (tgt := 144) dX6_numberShapes_47 (by decide) (by decide) (by decide) (fun c_47 => ?_) (fun c_47 => ?_)
                      · skip
                        exfalso; omega
                      · skip
                        refine xa_iload_n (pc := 50) dX6_numberShapes_50 rfl ?_
                        refine xa_aload_n (pc := 51) dX6_numberShapes_51 rfl ?_
                        refine xa_getfield (pc := 52) dX6_numberShapes_52 flRX6_24 (by omega) (by omega) hT0 rfl ?_
                        refine xa_getfield (pc := 55) dX6_numberShapes_55 flRX6_49 (by omega) (by omega) hB0 rfl ?_
                        refine xa_icmp_ge (pc := 58) (tgt := 73) dX6_numberShapes_58 (by decide) (by decide) (by decide) (fun c_58 => ?_) (fun c_58 => ?_)
                        · skip
                          refine xa_iconst (pc := 73) dX6_numberShapes_73 ?_
                          refine xa_istoren (pc := 74) [some (xa_r k), some (xa_i 9), some (xa_i 1), some (xa_i 0)] dX6_numberShapes_74 (by decide) (Nat.le_of_ble_eq_true rfl) rfl rfl ?_
                          refine xa_aload_n (pc := 75) dX6_numberShapes_75 rfl ?_
                          refine xa_getfield (pc := 76) dX6_numberShapes_76 flRX6_9 (by omega) (by omega) hT0 rfl ?_
                          refine xa_iload_n (pc := 79) dX6_numberShapes_79 rfl ?_
                          refine xa_iload_n (pc := 80) dX6_numberShapes_80 rfl ?_
                          refine xa_if_eq (pc := 81) (tgt := 99) dX6_numberShapes_81 (by decide) (by decide) (fun c_81 => ?_) (fun c_81 => ?_)
                          · skip
                            refine xa_iconst (pc := 99) dX6_numberShapes_99 ?_
                            refine xa_top (y := tp 1 wa sr sj 1) (by first | exact tp_y hB9 (j := 1) (by decide) (fun z => by omega) | exact tp_n (j := 1) (Or.inr (by omega)) | exact tp_n (j := 1) (Or.inl (by decide))) ?_
                            refine xa_iastw (pc := 100) 1 dX6_numberShapes_100 (by omega) (by omega) hT1 (by omega) (by omega) rfl (fun h5 nh5 ch5 oh5 => ?_)
                            have hT1 : h5.1 (k + 1) = xa_a 2 (xa_upf (xa_upf pl 0 (tp 1 wa sr sj 0)) 1 (tp 1 wa sr sj 1)) := ch5
                            have hT0 : h5.1 k = xa_o 6 [xa_r kb, xa_r (k + 5), xa_i sj, xa_r (k + 1), xa_r (k + 2), xa_i (9 * (tp 1 wa sr sj 0)), xa_i fs, xa_i lst, xa_r kbr, xa_r kam] := (oh5 _ (by omega)).trans hT0
                            have hT2 : h5.1 (k + 2) = xa_a 2 (xa_upf lw 0 (-tz 1 wa sj 0)) := (oh5 _ (by omega)).trans hT2
                            have hT3 : h5.1 kbr = xa_a nb br := (oh5 _ (by omega)).trans hT3
                            have hT4 : h5.1 kam = xa_a na am := (oh5 _ (by omega)).trans hT4
                            have hS0 : h5.1 (k + 5) = xa_o 4 [xa_r kb, xa_r (k + 5 + 1), xa_r (k + 5 + 2), xa_i tj, xa_i tb] := (oh5 _ (by omega)).trans hS0
                            have hS1 : h5.1 (k + 5 + 1) = xa_a 3 po := (oh5 _ (by omega)).trans hS1
                            have hS2 : h5.1 (k + 5 + 2) = xa_a 2 sp := (oh5 _ (by omega)).trans hS2
                            have hB0 : h5.1 kb = xa_o 0 [xa_r (kb + 1), xa_r (kb + 2), xa_i 2, xa_i 1, xa_i wa, xa_i sr, xa_i pu, xa_i ri] := (oh5 _ (by omega)).trans hB0
                            have hB1 : h5.1 (kb + 1) = xa_a 9 ld := (oh5 _ (by omega)).trans hB1
                            have hB2 : h5.1 (kb + 2) = xa_a 2 dg := (oh5 _ (by omega)).trans hB2
                            have hn : h5.2 = h.2 := nh5.trans hn
                            have fr : ∀ i, ((i < k ∨ k + 8 ≤ i) ∧ i ≠ kbr ∧ i ≠ kam) → h5.1 i = h.1 i := fun i hi => (oh5 i (by omega)).trans (fr i hi)
                            refine xa_aload_n (pc := 101) dX6_numberShapes_101 rfl ?_
                            refine xa_getfield (pc := 102) dX6_numberShapes_102 flRX6_15 (by omega) (by omega) hT0 rfl ?_
                            refine xa_iload_n (pc := 105) dX6_numberShapes_105 rfl ?_
                            refine xa_iload_n (pc := 106) dX6_numberShapes_106 rfl ?_
                            refine xa_if_eq (pc := 107) (tgt := 121) dX6_numberShapes_107 (by decide) (by decide) (fun c_107 => ?_) (fun c_107 => ?_)
                            · skip
                              refine xa_iconst (pc := 121) dX6_numberShapes_121 ?_
                              refine xa_top (y := -tz 1 wa sj 1) (by first | exact tz_y (j := 1) (by decide) (fun z => by omega) | exact tz_n (j := 1) (Or.inr (by omega)) | exact tz_n (j := 1) (Or.inl (by decide))) ?_
                              refine xa_iastw (pc := 122) 1 dX6_numberShapes_122 (by omega) (by omega) hT2 (by omega) (by omega) rfl (fun h6 nh6 ch6 oh6 => ?_)
                              have hT2 : h6.1 (k + 2) = xa_a 2 (xa_upf (xa_upf lw 0 (-tz 1 wa sj 0)) 1 (-tz 1 wa sj 1)) := ch6
                              have hT0 : h6.1 k = xa_o 6 [xa_r kb, xa_r (k + 5), xa_i sj, xa_r (k + 1), xa_r (k + 2), xa_i (9 * (tp 1 wa sr sj 0)), xa_i fs, xa_i lst, xa_r kbr, xa_r kam] := (oh6 _ (by omega)).trans hT0
                              have hT1 : h6.1 (k + 1) = xa_a 2 (xa_upf (xa_upf pl 0 (tp 1 wa sr sj 0)) 1 (tp 1 wa sr sj 1)) := (oh6 _ (by omega)).trans hT1
                              have hT3 : h6.1 kbr = xa_a nb br := (oh6 _ (by omega)).trans hT3
                              have hT4 : h6.1 kam = xa_a na am := (oh6 _ (by omega)).trans hT4
                              have hS0 : h6.1 (k + 5) = xa_o 4 [xa_r kb, xa_r (k + 5 + 1), xa_r (k + 5 + 2), xa_i tj, xa_i tb] := (oh6 _ (by omega)).trans hS0
                              have hS1 : h6.1 (k + 5 + 1) = xa_a 3 po := (oh6 _ (by omega)).trans hS1
                              have hS2 : h6.1 (k + 5 + 2) = xa_a 2 sp := (oh6 _ (by omega)).trans hS2
                              have hB0 : h6.1 kb = xa_o 0 [xa_r (kb + 1), xa_r (kb + 2), xa_i 2, xa_i 1, xa_i wa, xa_i sr, xa_i pu, xa_i ri] := (oh6 _ (by omega)).trans hB0
                              have hB1 : h6.1 (kb + 1) = xa_a 9 ld := (oh6 _ (by omega)).trans hB1
                              have hB2 : h6.1 (kb + 2) = xa_a 2 dg := (oh6 _ (by omega)).trans hB2
                              have hn : h6.2 = h.2 := nh6.trans hn
                              have fr : ∀ i, ((i < k ∨ k + 8 ≤ i) ∧ i ≠ kbr ∧ i ≠ kam) → h6.1 i = h.1 i := fun i hi => (oh6 i (by omega)).trans (fr i hi)
                              refine xa_aload_n (pc := 123) dX6_numberShapes_123 rfl ?_
                              refine xa_dup (pc := 124) dX6_numberShapes_124 rfl ?_
                              refine xa_getfield (pc := 125) dX6_numberShapes_125 flRX6_46 (by omega) (by omega) hT0 rfl ?_
                              refine xa_aload_n (pc := 128) dX6_numberShapes_128 rfl ?_
                              refine xa_getfield (pc := 129) dX6_numberShapes_129 flRX6_9 (by omega) (by omega) hT0 rfl ?_
                              refine xa_iload_n (pc := 132) dX6_numberShapes_132 rfl ?_
                              refine xa_ialdw (pc := 133) 1 dX6_numberShapes_133 (by omega) hT1 (by omega) (by omega) rfl ?_
                              refine xa_top (y := tp 1 wa sr sj 1) (xa_upf_at _ _ _) ?_
                              refine xa_imul (pc := 134) dX6_numberShapes_134 ?_
                              refine xa_top (y := (((kN 2 1 wa sr sj).toNat : Nat) : Int)) (by rw [Int.toNat_of_nonneg (by omega)]; unfold kN; rw [if_neg (by decide)]) ?_
                              refine xa_putw (pc := 135) [xa_r kb, xa_r (k + 5), xa_i sj, xa_r (k + 1), xa_r (k + 2), xa_i (((kN 2 1 wa sr sj).toNat : Nat) : Int), xa_i fs, xa_i lst, xa_r kbr, xa_r kam] dX6_numberShapes_135 flRX6_46 plX6_5 (by omega) (by omega) hT0 trivial rfl (fun h7 nh7 ch7 oh7 => ?_)
                              have hT0 : h7.1 k = xa_o 6 [xa_r kb, xa_r (k + 5), xa_i sj, xa_r (k + 1), xa_r (k + 2), xa_i (((kN 2 1 wa sr sj).toNat : Nat) : Int), xa_i fs, xa_i lst, xa_r kbr, xa_r kam] := ch7
                              have hT1 : h7.1 (k + 1) = xa_a 2 (xa_upf (xa_upf pl 0 (tp 1 wa sr sj 0)) 1 (tp 1 wa sr sj 1)) := (oh7 _ (by omega)).trans hT1
                              have hT2 : h7.1 (k + 2) = xa_a 2 (xa_upf (xa_upf lw 0 (-tz 1 wa sj 0)) 1 (-tz 1 wa sj 1)) := (oh7 _ (by omega)).trans hT2
                              have hT3 : h7.1 kbr = xa_a nb br := (oh7 _ (by omega)).trans hT3
                              have hT4 : h7.1 kam = xa_a na am := (oh7 _ (by omega)).trans hT4
                              have hS0 : h7.1 (k + 5) = xa_o 4 [xa_r kb, xa_r (k + 5 + 1), xa_r (k + 5 + 2), xa_i tj, xa_i tb] := (oh7 _ (by omega)).trans hS0
                              have hS1 : h7.1 (k + 5 + 1) = xa_a 3 po := (oh7 _ (by omega)).trans hS1
                              have hS2 : h7.1 (k + 5 + 2) = xa_a 2 sp := (oh7 _ (by omega)).trans hS2
                              have hB0 : h7.1 kb = xa_o 0 [xa_r (kb + 1), xa_r (kb + 2), xa_i 2, xa_i 1, xa_i wa, xa_i sr, xa_i pu, xa_i ri] := (oh7 _ (by omega)).trans hB0
                              have hB1 : h7.1 (kb + 1) = xa_a 9 ld := (oh7 _ (by omega)).trans hB1
                              have hB2 : h7.1 (kb + 2) = xa_a 2 dg := (oh7 _ (by omega)).trans hB2
                              have hn : h7.2 = h.2 := nh7.trans hn
                              have fr : ∀ i, ((i < k ∨ k + 8 ≤ i) ∧ i ≠ kbr ∧ i ≠ kam) → h7.1 i = h.1 i := fun i hi => (oh7 i (by omega)).trans (fr i hi)
                              refine xa_iincw (pc := 138) (y := 2) [some (xa_r k), some (xa_i 9), some (xa_i 2), some (xa_i 0)] dX6_numberShapes_138 (by decide) rfl rfl rfl rfl ?_
                              refine xa_goto (pc := 141) (tgt := 32) dX6_numberShapes_141 (by decide) ?_
                              refine xa_iload_n (pc := 32) dX6_numberShapes_32 rfl ?_
                              refine xa_aload_n (pc := 33) dX6_numberShapes_33 rfl ?_
                              refine xa_getfield (pc := 34) dX6_numberShapes_34 flRX6_9 (by omega) (by omega) hT0 rfl ?_
                              refine xa_alen (pc := 37) dX6_numberShapes_37 (by omega) hT1 ?_
                              refine xa_top (y := 2) rfl ?_
                              refine xa_icmp_ge (pc := 38) (tgt := 144) dX6_numberShapes_38 (by decide) (by decide) (by decide) (fun c_38 => ?_) (fun c_38 => ?_)
                              · skip
                                exact c_nsTn2 _ _ _ _ _ _ _ _ _ _ _ _ _ _ _ _ _ _ _ _ _ _ _ hk (by omega) hkb hkk hkbr (by omega) hkam (by omega) hkq hB9 hge hna ⟨xa_upf_ne _ _ (by decide) |>.trans (xa_upf_at _ _ _), xa_upf_at _ _ _, xa_upf_ne _ _ (by decide) |>.trans (xa_upf_at _ _ _), xa_upf_at _ _ _, xa_upf_b (xa_upf_b hpl0 (by have := tp_b (sj := sj) hB9 0; omega)) (by have := tp_b (sj := sj) hB9 1; omega)⟩ hT0 hT1 hT2 hT3 hT4 hS0 hS1 hS2 hB0 hB1 hB2 hn fr
                              · skip
                                exfalso; omega
                            · skip
                              exfalso; omega
                          · skip
                            exfalso; omega
                        · skip
                          exfalso; omega
                  · skip
                    exfalso; omega
                · skip
                  exfalso; omega
              · skip
                refine xa_iconst (pc := 69) dX6_numberShapes_69 ?_
                refine xa_goto (pc := 70) (tgt := 74) dX6_numberShapes_70 (by decide) ?_
                refine xa_istoren (pc := 74) [some (xa_r k), some (xa_i 9), some (xa_i 0), some (xa_i 1)] dX6_numberShapes_74 (by decide) (Nat.le_of_ble_eq_true rfl) rfl rfl ?_
                refine xa_aload_n (pc := 75) dX6_numberShapes_75 rfl ?_
                refine xa_getfield (pc := 76) dX6_numberShapes_76 flRX6_9 (by omega) (by omega) hT0 rfl ?_
                refine xa_iload_n (pc := 79) dX6_numberShapes_79 rfl ?_
                refine xa_iload_n (pc := 80) dX6_numberShapes_80 rfl ?_
                refine xa_if_eq (pc := 81) (tgt := 99) dX6_numberShapes_81 (by decide) (by decide) (fun c_81 => ?_) (fun c_81 => ?_)
                · skip
                  exfalso; omega
                · skip
                  refine xa_aload_n (pc := 84) dX6_numberShapes_84 rfl ?_
                  refine xa_getfield (pc := 85) dX6_numberShapes_85 flRX6_24 (by omega) (by omega) hT0 rfl ?_
                  refine xa_iload_n (pc := 88) dX6_numberShapes_88 rfl ?_
                  refine xa_callV (pc := 89) (as := [xa_i 0]) (rest := [xa_i 0, xa_r (k + 1)]) dX6_numberShapes_89 ⟨qX0_stepsOf.1, qX0_stepsOf.2.1, qX0_stepsOf.2.2, by decide, by decide⟩ lkRX6_52 imX0_stepsOf seX0_stepsOf rfl rfl (by omega) (by omega) hB0 rfl (Nat.le_of_ble_eq_true rfl) (Nat.zero_le _) (Nat.zero_le _) (c_stepsOf _ _ _ _ _ _ _ _ _ _ (by decide) (by omega) ⟨hB0, hB1, hB2, by omega, by omega⟩) (fun r h' hq => ?_)
                  obtain ⟨rfl, hq⟩ := hq
                  have hq := hq.symm
                  subst hq
                  refine xa_iconst (pc := 92) dX6_numberShapes_92 ?_
                  refine xa_callS (pc := 93) (as := [xa_i (sp_steps wa sr 0), xa_i 1]) (rest := [xa_i 0, xa_r (k + 1)]) dX6_numberShapes_93 ⟨qJ9_max_7cf53.1, qJ9_max_7cf53.2.1, qJ9_max_7cf53.2.2, by decide, by decide⟩ lkRX6_56 smJ9_max_7cf53 rfl rfl (Nat.le_of_ble_eq_true rfl) (Nat.zero_le _) (Nat.zero_le _) (c_max _ _ (by unfold sp_steps; split <;> omega) (by decide)) (fun r h' hq => ?_)
                  obtain ⟨rfl, hq⟩ := hq
                  have hq := hq.symm
                  subst hq
                  refine xa_goto (pc := 96) (tgt := 100) dX6_numberShapes_96 (by decide) ?_
                  refine xa_top (y := tp 1 wa sr sj 0) (by first | exact tp_y hB9 (j := 0) (by decide) (fun z => by omega) | exact tp_n (j := 0) (Or.inr (by omega)) | exact tp_n (j := 0) (Or.inl (by decide))) ?_
                  refine xa_iastw (pc := 100) 0 dX6_numberShapes_100 (by omega) (by omega) hT1 (by omega) (by omega) rfl (fun h8 nh8 ch8 oh8 => ?_)
                  have hT1 : h8.1 (k + 1) = xa_a 2 (xa_upf pl 0 (tp 1 wa sr sj 0)) := ch8
                  have hT0 : h8.1 k = xa_o 6 [xa_r kb, xa_r (k + 5), xa_i sj, xa_r (k + 1), xa_r (k + 2), xa_i 9, xa_i fs, xa_i lst, xa_r kbr, xa_r kam] := (oh8 _ (by omega)).trans hT0
                  have hT2 : h8.1 (k + 2) = xa_a 2 lw := (oh8 _ (by omega)).trans hT2
                  have hT3 : h8.1 kbr = xa_a nb br := (oh8 _ (by omega)).trans hT3
                  have hT4 : h8.1 kam = xa_a na am := (oh8 _ (by omega)).trans hT4
                  have hS0 : h8.1 (k + 5) = xa_o 4 [xa_r kb, xa_r (k + 5 + 1), xa_r (k + 5 + 2), xa_i tj, xa_i tb] := (oh8 _ (by omega)).trans hS0
                  have hS1 : h8.1 (k + 5 + 1) = xa_a 3 po := (oh8 _ (by omega)).trans hS1
                  have hS2 : h8.1 (k + 5 + 2) = xa_a 2 sp := (oh8 _ (by omega)).trans hS2
                  have hB0 : h8.1 kb = xa_o 0 [xa_r (kb + 1), xa_r (kb + 2), xa_i 2, xa_i 1, xa_i wa, xa_i sr, xa_i pu, xa_i ri] := (oh8 _ (by omega)).trans hB0
                  have hB1 : h8.1 (kb + 1) = xa_a 9 ld := (oh8 _ (by omega)).trans hB1
                  have hB2 : h8.1 (kb + 2) = xa_a 2 dg := (oh8 _ (by omega)).trans hB2
                  have hn : h8.2 = h.2 := nh8.trans hn
                  have fr : ∀ i, ((i < k ∨ k + 8 ≤ i) ∧ i ≠ kbr ∧ i ≠ kam) → h8.1 i = h.1 i := fun i hi => (oh8 i (by omega)).trans (fr i hi)
                  refine xa_aload_n (pc := 101) dX6_numberShapes_101 rfl ?_
                  refine xa_getfield (pc := 102) dX6_numberShapes_102 flRX6_15 (by omega) (by omega) hT0 rfl ?_
                  refine xa_iload_n (pc := 105) dX6_numberShapes_105 rfl ?_
                  refine xa_iload_n (pc := 106) dX6_numberShapes_106 rfl ?_
                  refine xa_if_eq (pc := 107) (tgt := 121) dX6_numberShapes_107 (by decide) (by decide) (fun c_107 => ?_) (fun c_107 => ?_)
                  · skip
                    exfalso; omega
                  · skip
                    refine xa_aload_n (pc := 110) dX6_numberShapes_110 rfl ?_
                    refine xa_getfield (pc := 111) dX6_numberShapes_111 flRX6_24 (by omega) (by omega) hT0 rfl ?_
                    refine xa_iload_n (pc := 114) dX6_numberShapes_114 rfl ?_
                    refine xa_callV (pc := 115) (as := [xa_i 0]) (rest := [xa_i 0, xa_r (k + 2)]) dX6_numberShapes_115 ⟨qX0_lowestOf.1, qX0_lowestOf.2.1, qX0_lowestOf.2.2, by decide, by decide⟩ lkRX6_62 imX0_lowestOf seX0_lowestOf rfl rfl (by omega) (by omega) hB0 rfl (Nat.le_of_ble_eq_true rfl) (Nat.zero_le _) (Nat.zero_le _) (c_lowestOf _ _ _ _ _ _ _ _ _ _ (by decide) (by omega) ⟨hB0, hB1, hB2, by omega, by omega⟩) (fun r h' hq => ?_)
                    obtain ⟨rfl, hq⟩ := hq
                    have hq := hq.symm
                    subst hq
                    refine xa_goto (pc := 118) (tgt := 122) dX6_numberShapes_118 (by decide) ?_
                    refine xa_top (y := -tz 1 wa sj 0) (by first | exact tz_y (j := 0) (by decide) (fun z => by omega) | exact tz_n (j := 0) (Or.inr (by omega)) | exact tz_n (j := 0) (Or.inl (by decide))) ?_
                    refine xa_iastw (pc := 122) 0 dX6_numberShapes_122 (by omega) (by omega) hT2 (by omega) (by omega) rfl (fun h9 nh9 ch9 oh9 => ?_)
                    have hT2 : h9.1 (k + 2) = xa_a 2 (xa_upf lw 0 (-tz 1 wa sj 0)) := ch9
                    have hT0 : h9.1 k = xa_o 6 [xa_r kb, xa_r (k + 5), xa_i sj, xa_r (k + 1), xa_r (k + 2), xa_i 9, xa_i fs, xa_i lst, xa_r kbr, xa_r kam] := (oh9 _ (by omega)).trans hT0
                    have hT1 : h9.1 (k + 1) = xa_a 2 (xa_upf pl 0 (tp 1 wa sr sj 0)) := (oh9 _ (by omega)).trans hT1
                    have hT3 : h9.1 kbr = xa_a nb br := (oh9 _ (by omega)).trans hT3
                    have hT4 : h9.1 kam = xa_a na am := (oh9 _ (by omega)).trans hT4
                    have hS0 : h9.1 (k + 5) = xa_o 4 [xa_r kb, xa_r (k + 5 + 1), xa_r (k + 5 + 2), xa_i tj, xa_i tb] := (oh9 _ (by omega)).trans hS0
                    have hS1 : h9.1 (k + 5 + 1) = xa_a 3 po := (oh9 _ (by omega)).trans hS1
                    have hS2 : h9.1 (k + 5 + 2) = xa_a 2 sp := (oh9 _ (by omega)).trans hS2
                    have hB0 : h9.1 kb = xa_o 0 [xa_r (kb + 1), xa_r (kb + 2), xa_i 2, xa_i 1, xa_i wa, xa_i sr, xa_i pu, xa_i ri] := (oh9 _ (by omega)).trans hB0
                    have hB1 : h9.1 (kb + 1) = xa_a 9 ld := (oh9 _ (by omega)).trans hB1
                    have hB2 : h9.1 (kb + 2) = xa_a 2 dg := (oh9 _ (by omega)).trans hB2
                    have hn : h9.2 = h.2 := nh9.trans hn
                    have fr : ∀ i, ((i < k ∨ k + 8 ≤ i) ∧ i ≠ kbr ∧ i ≠ kam) → h9.1 i = h.1 i := fun i hi => (oh9 i (by omega)).trans (fr i hi)
                    refine xa_aload_n (pc := 123) dX6_numberShapes_123 rfl ?_
                    refine xa_dup (pc := 124) dX6_numberShapes_124 rfl ?_
                    refine xa_getfield (pc := 125) dX6_numberShapes_125 flRX6_46 (by omega) (by omega) hT0 rfl ?_
                    refine xa_aload_n (pc := 128) dX6_numberShapes_128 rfl ?_
                    refine xa_getfield (pc := 129) dX6_numberShapes_129 flRX6_9 (by omega) (by omega) hT0 rfl ?_
                    refine xa_iload_n (pc := 132) dX6_numberShapes_132 rfl ?_
                    refine xa_ialdw (pc := 133) 0 dX6_numberShapes_133 (by omega) hT1 (by omega) (by omega) rfl ?_
                    refine xa_top (y := tp 1 wa sr sj 0) (xa_upf_at _ _ _) ?_
                    refine xa_imul (pc := 134) dX6_numberShapes_134 ?_
                    refine xa_putw (pc := 135) [xa_r kb, xa_r (k + 5), xa_i sj, xa_r (k + 1), xa_r (k + 2), xa_i (9 * (tp 1 wa sr sj 0)), xa_i fs, xa_i lst, xa_r kbr, xa_r kam] dX6_numberShapes_135 flRX6_46 plX6_5 (by omega) (by omega) hT0 trivial rfl (fun h10 nh10 ch10 oh10 => ?_)
                    have hT0 : h10.1 k = xa_o 6 [xa_r kb, xa_r (k + 5), xa_i sj, xa_r (k + 1), xa_r (k + 2), xa_i (9 * (tp 1 wa sr sj 0)), xa_i fs, xa_i lst, xa_r kbr, xa_r kam] := ch10
                    have hT1 : h10.1 (k + 1) = xa_a 2 (xa_upf pl 0 (tp 1 wa sr sj 0)) := (oh10 _ (by omega)).trans hT1
                    have hT2 : h10.1 (k + 2) = xa_a 2 (xa_upf lw 0 (-tz 1 wa sj 0)) := (oh10 _ (by omega)).trans hT2
                    have hT3 : h10.1 kbr = xa_a nb br := (oh10 _ (by omega)).trans hT3
                    have hT4 : h10.1 kam = xa_a na am := (oh10 _ (by omega)).trans hT4
                    have hS0 : h10.1 (k + 5) = xa_o 4 [xa_r kb, xa_r (k + 5 + 1), xa_r (k + 5 + 2), xa_i tj, xa_i tb] := (oh10 _ (by omega)).trans hS0
                    have hS1 : h10.1 (k + 5 + 1) = xa_a 3 po := (oh10 _ (by omega)).trans hS1
                    have hS2 : h10.1 (k + 5 + 2) = xa_a 2 sp := (oh10 _ (by omega)).trans hS2
                    have hB0 : h10.1 kb = xa_o 0 [xa_r (kb + 1), xa_r (kb + 2), xa_i 2, xa_i 1, xa_i wa, xa_i sr, xa_i pu, xa_i ri] := (oh10 _ (by omega)).trans hB0
                    have hB1 : h10.1 (kb + 1) = xa_a 9 ld := (oh10 _ (by omega)).trans hB1
                    have hB2 : h10.1 (kb + 2) = xa_a 2 dg := (oh10 _ (by omega)).trans hB2
                    have hn : h10.2 = h.2 := nh10.trans hn
                    have fr : ∀ i, ((i < k ∨ k + 8 ≤ i) ∧ i ≠ kbr ∧ i ≠ kam) → h10.1 i = h.1 i := fun i hi => (oh10 i (by omega)).trans (fr i hi)
                    refine xa_iincw (pc := 138) (y := 1) [some (xa_r k), some (xa_i 9), some (xa_i 1), some (xa_i 1)] dX6_numberShapes_138 (by decide) rfl rfl rfl rfl ?_
                    refine xa_goto (pc := 141) (tgt := 32) dX6_numberShapes_141 (by decide) ?_
                    refine xa_iload_n (pc := 32) dX6_numberShapes_32 rfl ?_
                    refine xa_aload_n (pc := 33) dX6_numberShapes_33 rfl ?_
                    refine xa_getfield (pc := 34) dX6_numberShapes_34 flRX6_9 (by omega) (by omega) hT0 rfl ?_
                    refine xa_alen (pc := 37) dX6_numberShapes_37 (by omega) hT1 ?_
                    refine xa_top (y := 2) rfl ?_
                    refine xa_icmp_ge (pc := 38) (tgt := 144) dX6_numberShapes_38 (by decide) (by decide) (by decide) (fun c_38 => ?_) (fun c_38 => ?_)
                    · skip
                      exfalso; omega
                    · skip
                      refine xa_iload_n (pc := 41) dX6_numberShapes_41 rfl ?_
                      refine xa_aload_n (pc := 42) dX6_numberShapes_42 rfl ?_
                      refine xa_getfield (pc := 43) dX6_numberShapes_43 flRX6_15 (by omega) (by omega) hT0 rfl ?_
                      refine xa_alen (pc := 46) dX6_numberShapes_46 (by omega) hT2 ?_
                      refine xa_top (y := 2) rfl ?_
                      refine xa_icmp_ge (pc := 47) (tgt := 144) dX6_numberShapes_47 (by decide) (by decide) (by decide) (fun c_47 => ?_) (fun c_47 => ?_)
                      · skip
                        exfalso; omega
                      · skip
                        refine xa_iload_n (pc := 50) dX6_numberShapes_50 rfl ?_
                        refine xa_aload_n (pc := 51) dX6_numberShapes_51 rfl ?_
                        refine xa_getfield (pc := 52) dX6_numberShapes_52 flRX6_24 (by omega) (by omega) hT0 rfl ?_
                        refine xa_getfield (pc := 55) dX6_numberShapes_55 flRX6_49 (by omega) (by omega) hB0 rfl ?_
                        refine xa_icmp_ge (pc := 58) (tgt := 73) dX6_numberShapes_58 (by decide) (by decide) (by decide) (fun c_58 => ?_) (fun c_58 => ?_)
                        · skip
                          refine xa_iconst (pc := 73) dX6_numberShapes_73 ?_
                          refine xa_istoren (pc := 74) [some (xa_r k), some (xa_i 9), some (xa_i 1), some (xa_i 0)] dX6_numberShapes_74 (by decide) (Nat.le_of_ble_eq_true rfl) rfl rfl ?_
                          refine xa_aload_n (pc := 75) dX6_numberShapes_75 rfl ?_
                          refine xa_getfield (pc := 76) dX6_numberShapes_76 flRX6_9 (by omega) (by omega) hT0 rfl ?_
                          refine xa_iload_n (pc := 79) dX6_numberShapes_79 rfl ?_
                          refine xa_iload_n (pc := 80) dX6_numberShapes_80 rfl ?_
                          refine xa_if_eq (pc := 81) (tgt := 99) dX6_numberShapes_81 (by decide) (by decide) (fun c_81 => ?_) (fun c_81 => ?_)
                          · skip
                            refine xa_iconst (pc := 99) dX6_numberShapes_99 ?_
                            refine xa_top (y := tp 1 wa sr sj 1) (by first | exact tp_y hB9 (j := 1) (by decide) (fun z => by omega) | exact tp_n (j := 1) (Or.inr (by omega)) | exact tp_n (j := 1) (Or.inl (by decide))) ?_
                            refine xa_iastw (pc := 100) 1 dX6_numberShapes_100 (by omega) (by omega) hT1 (by omega) (by omega) rfl (fun h11 nh11 ch11 oh11 => ?_)
                            have hT1 : h11.1 (k + 1) = xa_a 2 (xa_upf (xa_upf pl 0 (tp 1 wa sr sj 0)) 1 (tp 1 wa sr sj 1)) := ch11
                            have hT0 : h11.1 k = xa_o 6 [xa_r kb, xa_r (k + 5), xa_i sj, xa_r (k + 1), xa_r (k + 2), xa_i (9 * (tp 1 wa sr sj 0)), xa_i fs, xa_i lst, xa_r kbr, xa_r kam] := (oh11 _ (by omega)).trans hT0
                            have hT2 : h11.1 (k + 2) = xa_a 2 (xa_upf lw 0 (-tz 1 wa sj 0)) := (oh11 _ (by omega)).trans hT2
                            have hT3 : h11.1 kbr = xa_a nb br := (oh11 _ (by omega)).trans hT3
                            have hT4 : h11.1 kam = xa_a na am := (oh11 _ (by omega)).trans hT4
                            have hS0 : h11.1 (k + 5) = xa_o 4 [xa_r kb, xa_r (k + 5 + 1), xa_r (k + 5 + 2), xa_i tj, xa_i tb] := (oh11 _ (by omega)).trans hS0
                            have hS1 : h11.1 (k + 5 + 1) = xa_a 3 po := (oh11 _ (by omega)).trans hS1
                            have hS2 : h11.1 (k + 5 + 2) = xa_a 2 sp := (oh11 _ (by omega)).trans hS2
                            have hB0 : h11.1 kb = xa_o 0 [xa_r (kb + 1), xa_r (kb + 2), xa_i 2, xa_i 1, xa_i wa, xa_i sr, xa_i pu, xa_i ri] := (oh11 _ (by omega)).trans hB0
                            have hB1 : h11.1 (kb + 1) = xa_a 9 ld := (oh11 _ (by omega)).trans hB1
                            have hB2 : h11.1 (kb + 2) = xa_a 2 dg := (oh11 _ (by omega)).trans hB2
                            have hn : h11.2 = h.2 := nh11.trans hn
                            have fr : ∀ i, ((i < k ∨ k + 8 ≤ i) ∧ i ≠ kbr ∧ i ≠ kam) → h11.1 i = h.1 i := fun i hi => (oh11 i (by omega)).trans (fr i hi)
                            refine xa_aload_n (pc := 101) dX6_numberShapes_101 rfl ?_
                            refine xa_getfield (pc := 102) dX6_numberShapes_102 flRX6_15 (by omega) (by omega) hT0 rfl ?_
                            refine xa_iload_n (pc := 105) dX6_numberShapes_105 rfl ?_
                            refine xa_iload_n (pc := 106) dX6_numberShapes_106 rfl ?_
                            refine xa_if_eq (pc := 107) (tgt := 121) dX6_numberShapes_107 (by decide) (by decide) (fun c_107 => ?_) (fun c_107 => ?_)
                            · skip
                              refine xa_iconst (pc := 121) dX6_numberShapes_121 ?_
                              refine xa_top (y := -tz 1 wa sj 1) (by first | exact tz_y (j := 1) (by decide) (fun z => by omega) | exact tz_n (j := 1) (Or.inr (by omega)) | exact tz_n (j := 1) (Or.inl (by decide))) ?_
                              refine xa_iastw (pc := 122) 1 dX6_numberShapes_122 (by omega) (by omega) hT2 (by omega) (by omega) rfl (fun h12 nh12 ch12 oh12 => ?_)
                              have hT2 : h12.1 (k + 2) = xa_a 2 (xa_upf (xa_upf lw 0 (-tz 1 wa sj 0)) 1 (-tz 1 wa sj 1)) := ch12
                              have hT0 : h12.1 k = xa_o 6 [xa_r kb, xa_r (k + 5), xa_i sj, xa_r (k + 1), xa_r (k + 2), xa_i (9 * (tp 1 wa sr sj 0)), xa_i fs, xa_i lst, xa_r kbr, xa_r kam] := (oh12 _ (by omega)).trans hT0
                              have hT1 : h12.1 (k + 1) = xa_a 2 (xa_upf (xa_upf pl 0 (tp 1 wa sr sj 0)) 1 (tp 1 wa sr sj 1)) := (oh12 _ (by omega)).trans hT1
                              have hT3 : h12.1 kbr = xa_a nb br := (oh12 _ (by omega)).trans hT3
                              have hT4 : h12.1 kam = xa_a na am := (oh12 _ (by omega)).trans hT4
                              have hS0 : h12.1 (k + 5) = xa_o 4 [xa_r kb, xa_r (k + 5 + 1), xa_r (k + 5 + 2), xa_i tj, xa_i tb] := (oh12 _ (by omega)).trans hS0
                              have hS1 : h12.1 (k + 5 + 1) = xa_a 3 po := (oh12 _ (by omega)).trans hS1
                              have hS2 : h12.1 (k + 5 + 2) = xa_a 2 sp := (oh12 _ (by omega)).trans hS2
                              have hB0 : h12.1 kb = xa_o 0 [xa_r (kb + 1), xa_r (kb + 2), xa_i 2, xa_i 1, xa_i wa, xa_i sr, xa_i pu, xa_i ri] := (oh12 _ (by omega)).trans hB0
                              have hB1 : h12.1 (kb + 1) = xa_a 9 ld := (oh12 _ (by omega)).trans hB1
                              have hB2 : h12.1 (kb + 2) = xa_a 2 dg := (oh12 _ (by omega)).trans hB2
                              have hn : h12.2 = h.2 := nh12.trans hn
                              have fr : ∀ i, ((i < k ∨ k + 8 ≤ i) ∧ i ≠ kbr ∧ i ≠ kam) → h12.1 i = h.1 i := fun i hi => (oh12 i (by omega)).trans (fr i hi)
                              refine xa_aload_n (pc := 123) dX6_numberShapes_123 rfl ?_
                              refine xa_dup (pc := 124) dX6_numberShapes_124 rfl ?_
                              refine xa_getfield (pc := 125) dX6_numberShapes_125 flRX6_46 (by omega) (by omega) hT0 rfl ?_
                              refine xa_aload_n (pc := 128) dX6_numberShapes_128 rfl ?_
                              refine xa_getfield (pc := 129) dX6_numberShapes_129 flRX6_9 (by omega) (by omega) hT0 rfl ?_
                              refine xa_iload_n (pc := 132) dX6_numberShapes_132 rfl ?_
                              refine xa_ialdw (pc := 133) 1 dX6_numberShapes_133 (by omega) hT1 (by omega) (by omega) rfl ?_
                              refine xa_top (y := tp 1 wa sr sj 1) (xa_upf_at _ _ _) ?_
                              refine xa_imul (pc := 134) dX6_numberShapes_134 ?_
                              refine xa_top (y := (((kN 2 1 wa sr sj).toNat : Nat) : Int)) (by rw [Int.toNat_of_nonneg (by omega)]; unfold kN; rw [if_neg (by decide)]) ?_
                              refine xa_putw (pc := 135) [xa_r kb, xa_r (k + 5), xa_i sj, xa_r (k + 1), xa_r (k + 2), xa_i (((kN 2 1 wa sr sj).toNat : Nat) : Int), xa_i fs, xa_i lst, xa_r kbr, xa_r kam] dX6_numberShapes_135 flRX6_46 plX6_5 (by omega) (by omega) hT0 trivial rfl (fun h13 nh13 ch13 oh13 => ?_)
                              have hT0 : h13.1 k = xa_o 6 [xa_r kb, xa_r (k + 5), xa_i sj, xa_r (k + 1), xa_r (k + 2), xa_i (((kN 2 1 wa sr sj).toNat : Nat) : Int), xa_i fs, xa_i lst, xa_r kbr, xa_r kam] := ch13
                              have hT1 : h13.1 (k + 1) = xa_a 2 (xa_upf (xa_upf pl 0 (tp 1 wa sr sj 0)) 1 (tp 1 wa sr sj 1)) := (oh13 _ (by omega)).trans hT1
                              have hT2 : h13.1 (k + 2) = xa_a 2 (xa_upf (xa_upf lw 0 (-tz 1 wa sj 0)) 1 (-tz 1 wa sj 1)) := (oh13 _ (by omega)).trans hT2
                              have hT3 : h13.1 kbr = xa_a nb br := (oh13 _ (by omega)).trans hT3
                              have hT4 : h13.1 kam = xa_a na am := (oh13 _ (by omega)).trans hT4
                              have hS0 : h13.1 (k + 5) = xa_o 4 [xa_r kb, xa_r (k + 5 + 1), xa_r (k + 5 + 2), xa_i tj, xa_i tb] := (oh13 _ (by omega)).trans hS0
                              have hS1 : h13.1 (k + 5 + 1) = xa_a 3 po := (oh13 _ (by omega)).trans hS1
                              have hS2 : h13.1 (k + 5 + 2) = xa_a 2 sp := (oh13 _ (by omega)).trans hS2
                              have hB0 : h13.1 kb = xa_o 0 [xa_r (kb + 1), xa_r (kb + 2), xa_i 2, xa_i 1, xa_i wa, xa_i sr, xa_i pu, xa_i ri] := (oh13 _ (by omega)).trans hB0
                              have hB1 : h13.1 (kb + 1) = xa_a 9 ld := (oh13 _ (by omega)).trans hB1
                              have hB2 : h13.1 (kb + 2) = xa_a 2 dg := (oh13 _ (by omega)).trans hB2
                              have hn : h13.2 = h.2 := nh13.trans hn
                              have fr : ∀ i, ((i < k ∨ k + 8 ≤ i) ∧ i ≠ kbr ∧ i ≠ kam) → h13.1 i = h.1 i := fun i hi => (oh13 i (by omega)).trans (fr i hi)
                              refine xa_iincw (pc := 138) (y := 2) [some (xa_r k), some (xa_i 9), some (xa_i 2), some (xa_i 0)] dX6_numberShapes_138 (by decide) rfl rfl rfl rfl ?_
                              refine xa_goto (pc := 141) (tgt := 32) dX6_numberShapes_141 (by decide) ?_
                              refine xa_iload_n (pc := 32) dX6_numberShapes_32 rfl ?_
                              refine xa_aload_n (pc := 33) dX6_numberShapes_33 rfl ?_
                              refine xa_getfield (pc := 34) dX6_numberShapes_34 flRX6_9 (by omega) (by omega) hT0 rfl ?_
                              refine xa_alen (pc := 37) dX6_numberShapes_37 (by omega) hT1 ?_
                              refine xa_top (y := 2) rfl ?_
                              refine xa_icmp_ge (pc := 38) (tgt := 144) dX6_numberShapes_38 (by decide) (by decide) (by decide) (fun c_38 => ?_) (fun c_38 => ?_)
                              · skip
                                exact c_nsTn2 _ _ _ _ _ _ _ _ _ _ _ _ _ _ _ _ _ _ _ _ _ _ _ hk (by omega) hkb hkk hkbr (by omega) hkam (by omega) hkq hB9 hge hna ⟨xa_upf_ne _ _ (by decide) |>.trans (xa_upf_at _ _ _), xa_upf_at _ _ _, xa_upf_ne _ _ (by decide) |>.trans (xa_upf_at _ _ _), xa_upf_at _ _ _, xa_upf_b (xa_upf_b hpl0 (by have := tp_b (sj := sj) hB9 0; omega)) (by have := tp_b (sj := sj) hB9 1; omega)⟩ hT0 hT1 hT2 hT3 hT4 hS0 hS1 hS2 hB0 hB1 hB2 hn fr
                              · skip
                                exfalso; omega
                            · skip
                              exfalso; omega
                          · skip
                            exfalso; omega
                        · skip
                          exfalso; omega
      · skip
        exfalso; omega
theorem c_nsTa2 {G : xa_G} {h0 h : xa_H} {g3 : Option xa_V} (k kb kbr kam : Nat) (sj : Int) (pl lw br am : Nat → Int) (nb na : Nat) (fs lst : Int) (po sp : Nat → Int) (tj tb : Int) (ld dg : Nat → Int) (wa sr pu ri : Int) (hk : 2 ≤ k) (hkn : k + 7 < h.2) (hkb : 2 ≤ kb) (hkk : kb + 3 ≤ k) (hkbr : k + 8 ≤ kbr ∨ kbr = k + 3) (hkbr2 : kbr < h.2) (hkam : k + 8 ≤ kam ∨ kam = k + 4) (hkam2 : kam < h.2) (hkq : kbr ≠ kam) (hB9 : vB ld dg 2 1 wa sr pu ri) (hlt : (na : Int) < kN 2 1 wa sr sj) (p : Nat) (hp : h0.2 = p) (hP : kP 1 wa sr sj pl lw) (hT0 : h.1 k = xa_o 6 [xa_r kb, xa_r (k + 5), xa_i sj, xa_r (k + 1), xa_r (k + 2), xa_i (((kN 2 1 wa sr sj).toNat : Nat) : Int), xa_i fs, xa_i lst, xa_r kbr, xa_r kam]) (hT1 : h.1 (k + 1) = xa_a 2 pl) (hT2 : h.1 (k + 2) = xa_a 2 lw) (hT3 : h.1 kbr = xa_a nb br) (hT4 : h.1 kam = xa_a na am) (hS0 : h.1 (k + 5) = xa_o 4 [xa_r kb, xa_r (k + 5 + 1), xa_r (k + 5 + 2), xa_i tj, xa_i tb]) (hS1 : h.1 (k + 5 + 1) = xa_a 3 po) (hS2 : h.1 (k + 5 + 2) = xa_a 2 sp) (hB0 : h.1 kb = xa_o 0 [xa_r (kb + 1), xa_r (kb + 2), xa_i 2, xa_i 1, xa_i wa, xa_i sr, xa_i pu, xa_i ri]) (hB1 : h.1 (kb + 1) = xa_a 9 ld) (hB2 : h.1 (kb + 2) = xa_a 2 dg) (hn : h.2 = h0.2) (fr : ∀ i, ((i < k ∨ k + 8 ≤ i) ∧ i ≠ kbr ∧ i ≠ kam ∧ i < p) → h.1 i = h0.1 i) : xa_W G mX6_numberShapes (xa_Z G (fun r h' => r = none ∧ (∃ pl' lw' : Nat → Int, kP 1 wa sr sj pl' lw' ∧ h'.1 k = xa_o 6 [xa_r kb, xa_r (k + 5), xa_i sj, xa_r (k + 1), xa_r (k + 2), xa_i (((kN 2 1 wa sr sj).toNat : Nat) : Int), xa_i (kF 2 1 wa sr sj), xa_i (kF 2 1 wa sr sj + 9 - 1), xa_r (p + 1), xa_r p] ∧ h'.1 (k + 1) = xa_a 2 pl' ∧ h'.1 (k + 2) = xa_a 2 lw' ∧ h'.1 (p + 1) = xa_a ((kN 2 1 wa sr sj).toNat * 11) (fun _ => 0) ∧ h'.1 p = xa_a ((kN 2 1 wa sr sj).toNat) (xa_fl (fun _ => 0) (kN 2 1 wa sr sj).toNat 0)) ∧ xS h' (k + 5) kb (xa_upf (xa_upf (xa_fl po 3 1) 0 0) 1 0) (xa_fl sp 2 0) tj 0 ∧ h'.2 = h0.2 + 2 ∧ ∀ i, ((i < k ∨ k + 8 ≤ i) ∧ i ≠ kbr ∧ i ≠ kam ∧ i < p) → h'.1 i = h0.1 i)) 144 [some (xa_r k), some (xa_i 9), some (xa_i 2), g3] [] h 2 ((kN 2 1 wa sr sj).toNat * 12) := by
  have hkN := kN_b (sj := sj) hB9
  have hkF := kF_b (sj := sj) hB9
  refine xa_aload_n (pc := 144) dX6_numberShapes_144 rfl ?_
  refine xa_getfield (pc := 145) dX6_numberShapes_145 flRX6_21 (by omega) (by omega) hT0 rfl ?_
  refine xa_alen (pc := 148) dX6_numberShapes_148 (by omega) hT4 ?_
  refine xa_aload_n (pc := 149) dX6_numberShapes_149 rfl ?_
  refine xa_getfield (pc := 150) dX6_numberShapes_150 flRX6_46 (by omega) (by omega) hT0 rfl ?_
  refine xa_icmp_ge (pc := 153) (tgt := 179) dX6_numberShapes_153 (by decide) ⟨by omega, by omega⟩ ⟨by omega, by omega⟩ (fun c_153 => ?_) (fun c_153 => ?_)
  · skip
    exfalso; omega
  · skip
    refine xa_aload_n (pc := 156) dX6_numberShapes_156 rfl ?_
    refine xa_aload_n (pc := 157) dX6_numberShapes_157 rfl ?_
    refine xa_getfield (pc := 158) dX6_numberShapes_158 flRX6_46 (by omega) (by omega) hT0 rfl ?_
    refine xa_newap (pc := 161) (mc0 := 1) (ms0 := (kN 2 1 wa sr sj).toNat * 11) ((kN 2 1 wa sr sj).toNat) p (by omega) dX6_numberShapes_161 (by omega) (by omega) (by omega) (by omega) (fun h1 nh1 ch1 oh1 => ?_)
    have hT0 : h1.1 k = xa_o 6 [xa_r kb, xa_r (k + 5), xa_i sj, xa_r (k + 1), xa_r (k + 2), xa_i (((kN 2 1 wa sr sj).toNat : Nat) : Int), xa_i fs, xa_i lst, xa_r kbr, xa_r kam] := (oh1 _ (by omega)).trans hT0
    have hT1 : h1.1 (k + 1) = xa_a 2 pl := (oh1 _ (by omega)).trans hT1
    have hT2 : h1.1 (k + 2) = xa_a 2 lw := (oh1 _ (by omega)).trans hT2
    have hT3 : h1.1 kbr = xa_a nb br := (oh1 _ (by omega)).trans hT3
    have hT4 : h1.1 kam = xa_a na am := (oh1 _ (by omega)).trans hT4
    have hS0 : h1.1 (k + 5) = xa_o 4 [xa_r kb, xa_r (k + 5 + 1), xa_r (k + 5 + 2), xa_i tj, xa_i tb] := (oh1 _ (by omega)).trans hS0
    have hS1 : h1.1 (k + 5 + 1) = xa_a 3 po := (oh1 _ (by omega)).trans hS1
    have hS2 : h1.1 (k + 5 + 2) = xa_a 2 sp := (oh1 _ (by omega)).trans hS2
    have hB0 : h1.1 kb = xa_o 0 [xa_r (kb + 1), xa_r (kb + 2), xa_i 2, xa_i 1, xa_i wa, xa_i sr, xa_i pu, xa_i ri] := (oh1 _ (by omega)).trans hB0
    have hB1 : h1.1 (kb + 1) = xa_a 9 ld := (oh1 _ (by omega)).trans hB1
    have hB2 : h1.1 (kb + 2) = xa_a 2 dg := (oh1 _ (by omega)).trans hB2
    have hA0 : h1.1 p = xa_a ((kN 2 1 wa sr sj).toNat) (fun _ => 0) := ch1
    have hn : h1.2 = h0.2 + 1 := by omega
    have fr : ∀ i, ((i < k ∨ k + 8 ≤ i) ∧ i ≠ kbr ∧ i ≠ kam ∧ i < p) → h1.1 i = h0.1 i := fun i hi => (oh1 i (by omega)).trans (fr i hi)
    refine xa_putw (pc := 163) [xa_r kb, xa_r (k + 5), xa_i sj, xa_r (k + 1), xa_r (k + 2), xa_i (((kN 2 1 wa sr sj).toNat : Nat) : Int), xa_i fs, xa_i lst, xa_r kbr, xa_r p] dX6_numberShapes_163 flRX6_21 plX6_9 (by omega) (by omega) hT0 trivial rfl (fun h2 nh2 ch2 oh2 => ?_)
    have hT0 : h2.1 k = xa_o 6 [xa_r kb, xa_r (k + 5), xa_i sj, xa_r (k + 1), xa_r (k + 2), xa_i (((kN 2 1 wa sr sj).toNat : Nat) : Int), xa_i fs, xa_i lst, xa_r kbr, xa_r p] := ch2
    have hT1 : h2.1 (k + 1) = xa_a 2 pl := (oh2 _ (by omega)).trans hT1
    have hT2 : h2.1 (k + 2) = xa_a 2 lw := (oh2 _ (by omega)).trans hT2
    have hT3 : h2.1 kbr = xa_a nb br := (oh2 _ (by omega)).trans hT3
    have hT4 : h2.1 kam = xa_a na am := (oh2 _ (by omega)).trans hT4
    have hS0 : h2.1 (k + 5) = xa_o 4 [xa_r kb, xa_r (k + 5 + 1), xa_r (k + 5 + 2), xa_i tj, xa_i tb] := (oh2 _ (by omega)).trans hS0
    have hS1 : h2.1 (k + 5 + 1) = xa_a 3 po := (oh2 _ (by omega)).trans hS1
    have hS2 : h2.1 (k + 5 + 2) = xa_a 2 sp := (oh2 _ (by omega)).trans hS2
    have hB0 : h2.1 kb = xa_o 0 [xa_r (kb + 1), xa_r (kb + 2), xa_i 2, xa_i 1, xa_i wa, xa_i sr, xa_i pu, xa_i ri] := (oh2 _ (by omega)).trans hB0
    have hB1 : h2.1 (kb + 1) = xa_a 9 ld := (oh2 _ (by omega)).trans hB1
    have hB2 : h2.1 (kb + 2) = xa_a 2 dg := (oh2 _ (by omega)).trans hB2
    have hA0 : h2.1 p = xa_a ((kN 2 1 wa sr sj).toNat) (fun _ => 0) := (oh2 _ (by omega)).trans hA0
    have hn : h2.2 = h0.2 + 1 := nh2.trans hn
    have fr : ∀ i, ((i < k ∨ k + 8 ≤ i) ∧ i ≠ kbr ∧ i ≠ kam ∧ i < p) → h2.1 i = h0.1 i := fun i hi => (oh2 i (by omega)).trans (fr i hi)
    refine xa_aload_n (pc := 166) dX6_numberShapes_166 rfl ?_
    refine xa_aload_n (pc := 167) dX6_numberShapes_167 rfl ?_
    refine xa_getfield (pc := 168) dX6_numberShapes_168 flRX6_46 (by omega) (by omega) hT0 rfl ?_
    refine xa_bipush (pc := 171) dX6_numberShapes_171 rfl ?_
    refine xa_imul (pc := 173) dX6_numberShapes_173 ?_
    refine xa_newap (pc := 174) (mc0 := 0) (ms0 := 0) ((kN 2 1 wa sr sj).toNat * 11) (p + 1) (by omega) dX6_numberShapes_174 (by omega) (by omega) (by omega) (by omega) (fun h3 nh3 ch3 oh3 => ?_)
    have hT0 : h3.1 k = xa_o 6 [xa_r kb, xa_r (k + 5), xa_i sj, xa_r (k + 1), xa_r (k + 2), xa_i (((kN 2 1 wa sr sj).toNat : Nat) : Int), xa_i fs, xa_i lst, xa_r kbr, xa_r p] := (oh3 _ (by omega)).trans hT0
    have hT1 : h3.1 (k + 1) = xa_a 2 pl := (oh3 _ (by omega)).trans hT1
    have hT2 : h3.1 (k + 2) = xa_a 2 lw := (oh3 _ (by omega)).trans hT2
    have hT3 : h3.1 kbr = xa_a nb br := (oh3 _ (by omega)).trans hT3
    have hT4 : h3.1 kam = xa_a na am := (oh3 _ (by omega)).trans hT4
    have hS0 : h3.1 (k + 5) = xa_o 4 [xa_r kb, xa_r (k + 5 + 1), xa_r (k + 5 + 2), xa_i tj, xa_i tb] := (oh3 _ (by omega)).trans hS0
    have hS1 : h3.1 (k + 5 + 1) = xa_a 3 po := (oh3 _ (by omega)).trans hS1
    have hS2 : h3.1 (k + 5 + 2) = xa_a 2 sp := (oh3 _ (by omega)).trans hS2
    have hB0 : h3.1 kb = xa_o 0 [xa_r (kb + 1), xa_r (kb + 2), xa_i 2, xa_i 1, xa_i wa, xa_i sr, xa_i pu, xa_i ri] := (oh3 _ (by omega)).trans hB0
    have hB1 : h3.1 (kb + 1) = xa_a 9 ld := (oh3 _ (by omega)).trans hB1
    have hB2 : h3.1 (kb + 2) = xa_a 2 dg := (oh3 _ (by omega)).trans hB2
    have hA0 : h3.1 p = xa_a ((kN 2 1 wa sr sj).toNat) (fun _ => 0) := (oh3 _ (by omega)).trans hA0
    have hA1 : h3.1 (p + 1) = xa_a ((kN 2 1 wa sr sj).toNat * 11) (fun _ => 0) := ch3
    have hn : h3.2 = h0.2 + 2 := by omega
    have fr : ∀ i, ((i < k ∨ k + 8 ≤ i) ∧ i ≠ kbr ∧ i ≠ kam ∧ i < p) → h3.1 i = h0.1 i := fun i hi => (oh3 i (by omega)).trans (fr i hi)
    refine xa_putw (pc := 176) [xa_r kb, xa_r (k + 5), xa_i sj, xa_r (k + 1), xa_r (k + 2), xa_i (((kN 2 1 wa sr sj).toNat : Nat) : Int), xa_i fs, xa_i lst, xa_r (p + 1), xa_r p] dX6_numberShapes_176 flRX6_18 plX6_8 (by omega) (by omega) hT0 trivial rfl (fun h4 nh4 ch4 oh4 => ?_)
    have hT0 : h4.1 k = xa_o 6 [xa_r kb, xa_r (k + 5), xa_i sj, xa_r (k + 1), xa_r (k + 2), xa_i (((kN 2 1 wa sr sj).toNat : Nat) : Int), xa_i fs, xa_i lst, xa_r (p + 1), xa_r p] := ch4
    have hT1 : h4.1 (k + 1) = xa_a 2 pl := (oh4 _ (by omega)).trans hT1
    have hT2 : h4.1 (k + 2) = xa_a 2 lw := (oh4 _ (by omega)).trans hT2
    have hT3 : h4.1 kbr = xa_a nb br := (oh4 _ (by omega)).trans hT3
    have hT4 : h4.1 kam = xa_a na am := (oh4 _ (by omega)).trans hT4
    have hS0 : h4.1 (k + 5) = xa_o 4 [xa_r kb, xa_r (k + 5 + 1), xa_r (k + 5 + 2), xa_i tj, xa_i tb] := (oh4 _ (by omega)).trans hS0
    have hS1 : h4.1 (k + 5 + 1) = xa_a 3 po := (oh4 _ (by omega)).trans hS1
    have hS2 : h4.1 (k + 5 + 2) = xa_a 2 sp := (oh4 _ (by omega)).trans hS2
    have hB0 : h4.1 kb = xa_o 0 [xa_r (kb + 1), xa_r (kb + 2), xa_i 2, xa_i 1, xa_i wa, xa_i sr, xa_i pu, xa_i ri] := (oh4 _ (by omega)).trans hB0
    have hB1 : h4.1 (kb + 1) = xa_a 9 ld := (oh4 _ (by omega)).trans hB1
    have hB2 : h4.1 (kb + 2) = xa_a 2 dg := (oh4 _ (by omega)).trans hB2
    have hA0 : h4.1 p = xa_a ((kN 2 1 wa sr sj).toNat) (fun _ => 0) := (oh4 _ (by omega)).trans hA0
    have hA1 : h4.1 (p + 1) = xa_a ((kN 2 1 wa sr sj).toNat * 11) (fun _ => 0) := (oh4 _ (by omega)).trans hA1
    have hn : h4.2 = h0.2 + 2 := nh4.trans hn
    have fr : ∀ i, ((i < k ∨ k + 8 ≤ i) ∧ i ≠ kbr ∧ i ≠ kam ∧ i < p) → h4.1 i = h0.1 i := fun i hi => (oh4 i (by omega)).trans (fr i hi)
    refine xa_aload_n (pc := 179) dX6_numberShapes_179 rfl ?_
    refine xa_getfield (pc := 180) dX6_numberShapes_180 flRX6_21 (by omega) (by omega) hT0 rfl ?_
    refine xa_iconst (pc := 183) dX6_numberShapes_183 ?_
    refine xa_callS (pc := 184) (as := [xa_r p, xa_i 0]) (rest := []) dX6_numberShapes_184 ⟨qJ7_fill_53178.1, qJ7_fill_53178.2.1, qJ7_fill_53178.2.2, by decide, by decide⟩ lkRX6_65 smJ7_fill_53178 rfl rfl (Nat.le_of_ble_eq_true rfl) (Nat.zero_le _) (Nat.zero_le _) (c_fill _ _ _ _ (by omega) (by omega) (by omega) hA0) (fun r h' hq => ?_)
    obtain ⟨rfl, hqn, hqA, hqf⟩ := hq
    have hA0 : h'.1 p = xa_a ((kN 2 1 wa sr sj).toNat) (xa_fl (fun _ => 0) ((kN 2 1 wa sr sj).toNat) 0) := hqA
    have hT0 : h'.1 k = xa_o 6 [xa_r kb, xa_r (k + 5), xa_i sj, xa_r (k + 1), xa_r (k + 2), xa_i (((kN 2 1 wa sr sj).toNat : Nat) : Int), xa_i fs, xa_i lst, xa_r (p + 1), xa_r p] := (hqf _ (by omega)).trans hT0
    have hT1 : h'.1 (k + 1) = xa_a 2 pl := (hqf _ (by omega)).trans hT1
    have hT2 : h'.1 (k + 2) = xa_a 2 lw := (hqf _ (by omega)).trans hT2
    have hT3 : h'.1 kbr = xa_a nb br := (hqf _ (by omega)).trans hT3
    have hT4 : h'.1 kam = xa_a na am := (hqf _ (by omega)).trans hT4
    have hS0 : h'.1 (k + 5) = xa_o 4 [xa_r kb, xa_r (k + 5 + 1), xa_r (k + 5 + 2), xa_i tj, xa_i tb] := (hqf _ (by omega)).trans hS0
    have hS1 : h'.1 (k + 5 + 1) = xa_a 3 po := (hqf _ (by omega)).trans hS1
    have hS2 : h'.1 (k + 5 + 2) = xa_a 2 sp := (hqf _ (by omega)).trans hS2
    have hB0 : h'.1 kb = xa_o 0 [xa_r (kb + 1), xa_r (kb + 2), xa_i 2, xa_i 1, xa_i wa, xa_i sr, xa_i pu, xa_i ri] := (hqf _ (by omega)).trans hB0
    have hB1 : h'.1 (kb + 1) = xa_a 9 ld := (hqf _ (by omega)).trans hB1
    have hB2 : h'.1 (kb + 2) = xa_a 2 dg := (hqf _ (by omega)).trans hB2
    have hA1 : h'.1 (p + 1) = xa_a ((kN 2 1 wa sr sj).toNat * 11) (fun _ => 0) := (hqf _ (by omega)).trans hA1
    have hn : h'.2 = h0.2 + 2 := hqn.trans hn
    have fr : ∀ i, ((i < k ∨ k + 8 ≤ i) ∧ i ≠ kbr ∧ i ≠ kam ∧ i < p) → h'.1 i = h0.1 i := fun i hi => (hqf i (by omega)).trans (fr i hi)
    refine xa_aload_n (pc := 187) dX6_numberShapes_187 rfl ?_
    refine xa_getfield (pc := 188) dX6_numberShapes_188 flRX6_37 (by omega) (by omega) hT0 rfl ?_
    refine xa_callV (pc := 191) (as := []) (rest := []) dX6_numberShapes_191 ⟨qX4_rest.1, qX4_rest.2.1, qX4_rest.2.2, by decide, by decide⟩ lkRX6_71 imX4_rest seX4_rest rfl rfl (by omega) (by omega) hS0 rfl (Nat.le_of_ble_eq_true rfl) (Nat.zero_le _) (Nat.zero_le _) (c_rest _ _ _ _ _ _ _ _ 2 1 _ _ _ _ ⟨hS0, hS1, hS2, by omega, by omega⟩ ⟨hB0, hB1, hB2, by omega, by omega⟩ (by omega) (by omega) (by omega)) (fun r h' hq => ?_)
    obtain ⟨rfl, ⟨hS0, hS1, hS2, -, -⟩, hqn, hqf⟩ := hq
    have hS0 : h'.1 (k + 5) = xa_o 4 [xa_r kb, xa_r (k + 5 + 1), xa_r (k + 5 + 2), xa_i tj, xa_i 0] := hS0
    have hS1 : h'.1 (k + 5 + 1) = xa_a 3 (xa_fl po 3 1) := hS1
    have hS2 : h'.1 (k + 5 + 2) = xa_a 2 (xa_fl sp 2 0) := hS2
    have hT0 : h'.1 k = xa_o 6 [xa_r kb, xa_r (k + 5), xa_i sj, xa_r (k + 1), xa_r (k + 2), xa_i (((kN 2 1 wa sr sj).toNat : Nat) : Int), xa_i fs, xa_i lst, xa_r (p + 1), xa_r p] := (hqf _ (by omega)).trans hT0
    have hT1 : h'.1 (k + 1) = xa_a 2 pl := (hqf _ (by omega)).trans hT1
    have hT2 : h'.1 (k + 2) = xa_a 2 lw := (hqf _ (by omega)).trans hT2
    have hT3 : h'.1 kbr = xa_a nb br := (hqf _ (by omega)).trans hT3
    have hT4 : h'.1 kam = xa_a na am := (hqf _ (by omega)).trans hT4
    have hB0 : h'.1 kb = xa_o 0 [xa_r (kb + 1), xa_r (kb + 2), xa_i 2, xa_i 1, xa_i wa, xa_i sr, xa_i pu, xa_i ri] := (hqf _ (by omega)).trans hB0
    have hB1 : h'.1 (kb + 1) = xa_a 9 ld := (hqf _ (by omega)).trans hB1
    have hB2 : h'.1 (kb + 2) = xa_a 2 dg := (hqf _ (by omega)).trans hB2
    have hA0 : h'.1 p = xa_a ((kN 2 1 wa sr sj).toNat) (xa_fl (fun _ => 0) ((kN 2 1 wa sr sj).toNat) 0) := (hqf _ (by omega)).trans hA0
    have hA1 : h'.1 (p + 1) = xa_a ((kN 2 1 wa sr sj).toNat * 11) (fun _ => 0) := (hqf _ (by omega)).trans hA1
    have hn : h'.2 = h0.2 + 2 := hqn.trans hn
    have fr : ∀ i, ((i < k ∨ k + 8 ≤ i) ∧ i ≠ kbr ∧ i ≠ kam ∧ i < p) → h'.1 i = h0.1 i := fun i hi => (hqf i (by omega)).trans (fr i hi)
    refine xa_iconst (pc := 194) dX6_numberShapes_194 ?_
    refine xa_istoren (pc := 195) [some (xa_r k), some (xa_i 9), some (xa_i 0), g3] dX6_numberShapes_195 (by decide) (Nat.le_of_ble_eq_true rfl) rfl rfl ?_
    refine xa_iload_n (pc := 196) dX6_numberShapes_196 rfl ?_
    refine xa_aload_n (pc := 197) dX6_numberShapes_197 rfl ?_
    refine xa_getfield (pc := 198) dX6_numberShapes_198 flRX6_24 (by omega) (by omega) hT0 rfl ?_
    refine xa_getfield (pc := 201) dX6_numberShapes_201 flRX6_41 (by omega) (by omega) hB0 rfl ?_
    refine xa_icmp_ge (pc := 204) (tgt := 222) dX6_numberShapes_204 (by decide) (by decide) (by decide) (fun c_204 => ?_) (fun c_204 => ?_)
    · skip
      exfalso; omega
    · skip
      refine xa_aload_n (pc := 207) dX6_numberShapes_207 rfl ?_
      refine xa_getfield (pc := 208) dX6_numberShapes_208 flRX6_37 (by omega) (by omega) hT0 rfl ?_
      refine xa_iload_n (pc := 211) dX6_numberShapes_211 rfl ?_
      refine xa_iconst (pc := 212) dX6_numberShapes_212 ?_
      refine xa_callV (pc := 213) (as := [xa_i 0, xa_i 0]) (rest := []) dX6_numberShapes_213 ⟨qX4_takePose.1, qX4_takePose.2.1, qX4_takePose.2.2, by decide, by decide⟩ lkRX6_74 imX4_takePose seX4_takePose rfl rfl (by omega) (by omega) hS0 rfl (Nat.le_of_ble_eq_true rfl) (Nat.zero_le _) (Nat.zero_le _) (c_takePose _ _ _ _ _ _ 0 0 0 rfl ⟨by decide, by decide⟩ (by omega) (by omega) hS0 hS1 hS2) (fun r h' hq => ?_)
      obtain ⟨rfl, hqA, hqn, hqf⟩ := hq
      have hS1 : h'.1 (k + 5 + 1) = xa_a 3 (xa_upf (xa_fl po 3 1) 0 0) := hqA
      have hT0 : h'.1 k = xa_o 6 [xa_r kb, xa_r (k + 5), xa_i sj, xa_r (k + 1), xa_r (k + 2), xa_i (((kN 2 1 wa sr sj).toNat : Nat) : Int), xa_i fs, xa_i lst, xa_r (p + 1), xa_r p] := (hqf _ (by omega)).trans hT0
      have hT1 : h'.1 (k + 1) = xa_a 2 pl := (hqf _ (by omega)).trans hT1
      have hT2 : h'.1 (k + 2) = xa_a 2 lw := (hqf _ (by omega)).trans hT2
      have hT3 : h'.1 kbr = xa_a nb br := (hqf _ (by omega)).trans hT3
      have hT4 : h'.1 kam = xa_a na am := (hqf _ (by omega)).trans hT4
      have hS0 : h'.1 (k + 5) = xa_o 4 [xa_r kb, xa_r (k + 5 + 1), xa_r (k + 5 + 2), xa_i tj, xa_i 0] := (hqf _ (by omega)).trans hS0
      have hS2 : h'.1 (k + 5 + 2) = xa_a 2 (xa_fl sp 2 0) := (hqf _ (by omega)).trans hS2
      have hB0 : h'.1 kb = xa_o 0 [xa_r (kb + 1), xa_r (kb + 2), xa_i 2, xa_i 1, xa_i wa, xa_i sr, xa_i pu, xa_i ri] := (hqf _ (by omega)).trans hB0
      have hB1 : h'.1 (kb + 1) = xa_a 9 ld := (hqf _ (by omega)).trans hB1
      have hB2 : h'.1 (kb + 2) = xa_a 2 dg := (hqf _ (by omega)).trans hB2
      have hA0 : h'.1 p = xa_a ((kN 2 1 wa sr sj).toNat) (xa_fl (fun _ => 0) ((kN 2 1 wa sr sj).toNat) 0) := (hqf _ (by omega)).trans hA0
      have hA1 : h'.1 (p + 1) = xa_a ((kN 2 1 wa sr sj).toNat * 11) (fun _ => 0) := (hqf _ (by omega)).trans hA1
      have hn : h'.2 = h0.2 + 2 := hqn.trans hn
      have fr : ∀ i, ((i < k ∨ k + 8 ≤ i) ∧ i ≠ kbr ∧ i ≠ kam ∧ i < p) → h'.1 i = h0.1 i := fun i hi => (hqf i (by omega)).trans (fr i hi)
      refine xa_iincw (pc := 216) (y := 1) [some (xa_r k), some (xa_i 9), some (xa_i 1), g3] dX6_numberShapes_216 (by decide) rfl rfl rfl rfl ?_
      refine xa_goto (pc := 219) (tgt := 196) dX6_numberShapes_219 (by decide) ?_
      refine xa_iload_n (pc := 196) dX6_numberShapes_196 rfl ?_
      refine xa_aload_n (pc := 197) dX6_numberShapes_197 rfl ?_
      refine xa_getfield (pc := 198) dX6_numberShapes_198 flRX6_24 (by omega) (by omega) hT0 rfl ?_
      refine xa_getfield (pc := 201) dX6_numberShapes_201 flRX6_41 (by omega) (by omega) hB0 rfl ?_
      refine xa_icmp_ge (pc := 204) (tgt := 222) dX6_numberShapes_204 (by decide) (by decide) (by decide) (fun c_204 => ?_) (fun c_204 => ?_)
      · skip
        exfalso; omega
      · skip
        refine xa_aload_n (pc := 207) dX6_numberShapes_207 rfl ?_
        refine xa_getfield (pc := 208) dX6_numberShapes_208 flRX6_37 (by omega) (by omega) hT0 rfl ?_
        refine xa_iload_n (pc := 211) dX6_numberShapes_211 rfl ?_
        refine xa_iconst (pc := 212) dX6_numberShapes_212 ?_
        refine xa_callV (pc := 213) (as := [xa_i 1, xa_i 0]) (rest := []) dX6_numberShapes_213 ⟨qX4_takePose.1, qX4_takePose.2.1, qX4_takePose.2.2, by decide, by decide⟩ lkRX6_74 imX4_takePose seX4_takePose rfl rfl (by omega) (by omega) hS0 rfl (Nat.le_of_ble_eq_true rfl) (Nat.zero_le _) (Nat.zero_le _) (c_takePose _ _ _ _ _ _ 1 0 1 rfl ⟨by decide, by decide⟩ (by omega) (by omega) hS0 hS1 hS2) (fun r h' hq => ?_)
        obtain ⟨rfl, hqA, hqn, hqf⟩ := hq
        have hS1 : h'.1 (k + 5 + 1) = xa_a 3 (xa_upf (xa_upf (xa_fl po 3 1) 0 0) 1 0) := hqA
        have hT0 : h'.1 k = xa_o 6 [xa_r kb, xa_r (k + 5), xa_i sj, xa_r (k + 1), xa_r (k + 2), xa_i (((kN 2 1 wa sr sj).toNat : Nat) : Int), xa_i fs, xa_i lst, xa_r (p + 1), xa_r p] := (hqf _ (by omega)).trans hT0
        have hT1 : h'.1 (k + 1) = xa_a 2 pl := (hqf _ (by omega)).trans hT1
        have hT2 : h'.1 (k + 2) = xa_a 2 lw := (hqf _ (by omega)).trans hT2
        have hT3 : h'.1 kbr = xa_a nb br := (hqf _ (by omega)).trans hT3
        have hT4 : h'.1 kam = xa_a na am := (hqf _ (by omega)).trans hT4
        have hS0 : h'.1 (k + 5) = xa_o 4 [xa_r kb, xa_r (k + 5 + 1), xa_r (k + 5 + 2), xa_i tj, xa_i 0] := (hqf _ (by omega)).trans hS0
        have hS2 : h'.1 (k + 5 + 2) = xa_a 2 (xa_fl sp 2 0) := (hqf _ (by omega)).trans hS2
        have hB0 : h'.1 kb = xa_o 0 [xa_r (kb + 1), xa_r (kb + 2), xa_i 2, xa_i 1, xa_i wa, xa_i sr, xa_i pu, xa_i ri] := (hqf _ (by omega)).trans hB0
        have hB1 : h'.1 (kb + 1) = xa_a 9 ld := (hqf _ (by omega)).trans hB1
        have hB2 : h'.1 (kb + 2) = xa_a 2 dg := (hqf _ (by omega)).trans hB2
        have hA0 : h'.1 p = xa_a ((kN 2 1 wa sr sj).toNat) (xa_fl (fun _ => 0) ((kN 2 1 wa sr sj).toNat) 0) := (hqf _ (by omega)).trans hA0
        have hA1 : h'.1 (p + 1) = xa_a ((kN 2 1 wa sr sj).toNat * 11) (fun _ => 0) := (hqf _ (by omega)).trans hA1
        have hn : h'.2 = h0.2 + 2 := hqn.trans hn
        have fr : ∀ i, ((i < k ∨ k + 8 ≤ i) ∧ i ≠ kbr ∧ i ≠ kam ∧ i < p) → h'.1 i = h0.1 i := fun i hi => (hqf i (by omega)).trans (fr i hi)
        refine xa_iincw (pc := 216) (y := 2) [some (xa_r k), some (xa_i 9), some (xa_i 2), g3] dX6_numberShapes_216 (by decide) rfl rfl rfl rfl ?_
        refine xa_goto (pc := 219) (tgt := 196) dX6_numberShapes_219 (by decide) ?_
        refine xa_iload_n (pc := 196) dX6_numberShapes_196 rfl ?_
        refine xa_aload_n (pc := 197) dX6_numberShapes_197 rfl ?_
        refine xa_getfield (pc := 198) dX6_numberShapes_198 flRX6_24 (by omega) (by omega) hT0 rfl ?_
        refine xa_getfield (pc := 201) dX6_numberShapes_201 flRX6_41 (by omega) (by omega) hB0 rfl ?_
        refine xa_icmp_ge (pc := 204) (tgt := 222) dX6_numberShapes_204 (by decide) (by decide) (by decide) (fun c_204 => ?_) (fun c_204 => ?_)
        · skip
          refine xa_aload_n (pc := 222) dX6_numberShapes_222 rfl ?_
          refine xa_aload_n (pc := 223) dX6_numberShapes_223 rfl ?_
          refine xa_callV (pc := 224) (as := []) (rest := [xa_r k]) dX6_numberShapes_224 ⟨qX6_numberNow.1, qX6_numberNow.2.1, qX6_numberNow.2.2, by decide, by decide⟩ lkRX6_78 imX6_numberNow seX6_numberNow rfl rfl (by omega) (by omega) hT0 rfl (Nat.le_of_ble_eq_true rfl) (Nat.zero_le _) (Nat.zero_le _) (c_numberNow2 _ _ _ _ _ _ _ _ _ _ _ (kN 2 1 wa sr sj).toNat _ _ _ _ _ _ _ _ _ _ _ _ _ (by omega) (by omega) (by omega) (by omega) (by omega) (by omega) (by omega) (by omega) hT0 hT1 hT2 hA1 hA0 hS0 hS1 hS2 hB0 hB1 hB2) (fun r h' hq => ?_)
          obtain ⟨rfl, hq⟩ := hq
          have hq := hq.symm
          subst hq
          refine xa_top (y := kF 2 1 wa sr sj) ?_ ?_
          · rw [kF_E]; exact (num_E (pa := 2) (jo := 1) (sr := sr) (wa := wa) (sj := sj) (pl := pl) (lw := lw) (po := xa_upf (xa_upf (xa_fl po 3 1) 0 0) 1 0) (sp := xa_fl sp 2 0) (c := (0, 0, 0, 0, 0)) hP ⟨(xa_upf_ne _ _ (by decide)).trans (xa_upf_at _ _ _), xa_upf_at _ _ _, fun z => absurd z (by decide), xa_fl_lt _ _ (by decide), xa_fl_lt _ _ (by decide)⟩).1 (by decide)
          refine xa_putw (pc := 227) [xa_r kb, xa_r (k + 5), xa_i sj, xa_r (k + 1), xa_r (k + 2), xa_i (((kN 2 1 wa sr sj).toNat : Nat) : Int), xa_i (kF 2 1 wa sr sj), xa_i lst, xa_r (p + 1), xa_r p] dX6_numberShapes_227 flRX6_82 plX6_6 (by omega) (by omega) hT0 trivial rfl (fun h5 nh5 ch5 oh5 => ?_)
          have hT0 : h5.1 k = xa_o 6 [xa_r kb, xa_r (k + 5), xa_i sj, xa_r (k + 1), xa_r (k + 2), xa_i (((kN 2 1 wa sr sj).toNat : Nat) : Int), xa_i (kF 2 1 wa sr sj), xa_i lst, xa_r (p + 1), xa_r p] := ch5
          have hT1 : h5.1 (k + 1) = xa_a 2 pl := (oh5 _ (by omega)).trans hT1
          have hT2 : h5.1 (k + 2) = xa_a 2 lw := (oh5 _ (by omega)).trans hT2
          have hT3 : h5.1 kbr = xa_a nb br := (oh5 _ (by omega)).trans hT3
          have hT4 : h5.1 kam = xa_a na am := (oh5 _ (by omega)).trans hT4
          have hS0 : h5.1 (k + 5) = xa_o 4 [xa_r kb, xa_r (k + 5 + 1), xa_r (k + 5 + 2), xa_i tj, xa_i 0] := (oh5 _ (by omega)).trans hS0
          have hS1 : h5.1 (k + 5 + 1) = xa_a 3 (xa_upf (xa_upf (xa_fl po 3 1) 0 0) 1 0) := (oh5 _ (by omega)).trans hS1
          have hS2 : h5.1 (k + 5 + 2) = xa_a 2 (xa_fl sp 2 0) := (oh5 _ (by omega)).trans hS2
          have hB0 : h5.1 kb = xa_o 0 [xa_r (kb + 1), xa_r (kb + 2), xa_i 2, xa_i 1, xa_i wa, xa_i sr, xa_i pu, xa_i ri] := (oh5 _ (by omega)).trans hB0
          have hB1 : h5.1 (kb + 1) = xa_a 9 ld := (oh5 _ (by omega)).trans hB1
          have hB2 : h5.1 (kb + 2) = xa_a 2 dg := (oh5 _ (by omega)).trans hB2
          have hA0 : h5.1 p = xa_a ((kN 2 1 wa sr sj).toNat) (xa_fl (fun _ => 0) ((kN 2 1 wa sr sj).toNat) 0) := (oh5 _ (by omega)).trans hA0
          have hA1 : h5.1 (p + 1) = xa_a ((kN 2 1 wa sr sj).toNat * 11) (fun _ => 0) := (oh5 _ (by omega)).trans hA1
          have hn : h5.2 = h0.2 + 2 := nh5.trans hn
          have fr : ∀ i, ((i < k ∨ k + 8 ≤ i) ∧ i ≠ kbr ∧ i ≠ kam ∧ i < p) → h5.1 i = h0.1 i := fun i hi => (oh5 i (by omega)).trans (fr i hi)
          refine xa_aload_n (pc := 230) dX6_numberShapes_230 rfl ?_
          refine xa_aload_n (pc := 231) dX6_numberShapes_231 rfl ?_
          refine xa_getfield (pc := 232) dX6_numberShapes_232 flRX6_82 (by omega) (by omega) hT0 rfl ?_
          refine xa_iload_n (pc := 235) dX6_numberShapes_235 rfl ?_
          refine xa_iadd (pc := 236) dX6_numberShapes_236 ?_
          refine xa_iconst (pc := 237) dX6_numberShapes_237 ?_
          refine xa_isub (pc := 238) dX6_numberShapes_238 ?_
          refine xa_putw (pc := 239) [xa_r kb, xa_r (k + 5), xa_i sj, xa_r (k + 1), xa_r (k + 2), xa_i (((kN 2 1 wa sr sj).toNat : Nat) : Int), xa_i (kF 2 1 wa sr sj), xa_i (((kF 2 1 wa sr sj) + 9) - 1), xa_r (p + 1), xa_r p] dX6_numberShapes_239 flRX6_85 plX6_7 (by omega) (by omega) hT0 trivial rfl (fun h6 nh6 ch6 oh6 => ?_)
          have hT0 : h6.1 k = xa_o 6 [xa_r kb, xa_r (k + 5), xa_i sj, xa_r (k + 1), xa_r (k + 2), xa_i (((kN 2 1 wa sr sj).toNat : Nat) : Int), xa_i (kF 2 1 wa sr sj), xa_i (((kF 2 1 wa sr sj) + 9) - 1), xa_r (p + 1), xa_r p] := ch6
          have hT1 : h6.1 (k + 1) = xa_a 2 pl := (oh6 _ (by omega)).trans hT1
          have hT2 : h6.1 (k + 2) = xa_a 2 lw := (oh6 _ (by omega)).trans hT2
          have hT3 : h6.1 kbr = xa_a nb br := (oh6 _ (by omega)).trans hT3
          have hT4 : h6.1 kam = xa_a na am := (oh6 _ (by omega)).trans hT4
          have hS0 : h6.1 (k + 5) = xa_o 4 [xa_r kb, xa_r (k + 5 + 1), xa_r (k + 5 + 2), xa_i tj, xa_i 0] := (oh6 _ (by omega)).trans hS0
          have hS1 : h6.1 (k + 5 + 1) = xa_a 3 (xa_upf (xa_upf (xa_fl po 3 1) 0 0) 1 0) := (oh6 _ (by omega)).trans hS1
          have hS2 : h6.1 (k + 5 + 2) = xa_a 2 (xa_fl sp 2 0) := (oh6 _ (by omega)).trans hS2
          have hB0 : h6.1 kb = xa_o 0 [xa_r (kb + 1), xa_r (kb + 2), xa_i 2, xa_i 1, xa_i wa, xa_i sr, xa_i pu, xa_i ri] := (oh6 _ (by omega)).trans hB0
          have hB1 : h6.1 (kb + 1) = xa_a 9 ld := (oh6 _ (by omega)).trans hB1
          have hB2 : h6.1 (kb + 2) = xa_a 2 dg := (oh6 _ (by omega)).trans hB2
          have hA0 : h6.1 p = xa_a ((kN 2 1 wa sr sj).toNat) (xa_fl (fun _ => 0) ((kN 2 1 wa sr sj).toNat) 0) := (oh6 _ (by omega)).trans hA0
          have hA1 : h6.1 (p + 1) = xa_a ((kN 2 1 wa sr sj).toNat * 11) (fun _ => 0) := (oh6 _ (by omega)).trans hA1
          have hn : h6.2 = h0.2 + 2 := nh6.trans hn
          have fr : ∀ i, ((i < k ∨ k + 8 ≤ i) ∧ i ≠ kbr ∧ i ≠ kam ∧ i < p) → h6.1 i = h0.1 i := fun i hi => (oh6 i (by omega)).trans (fr i hi)
          refine xa_return (pc := 242) dX6_numberShapes_242 rfl ?_
          exact ⟨rfl, ⟨pl, lw, hP, hT0, hT1, hT2, hA1, hA0⟩, ⟨hS0, hS1, hS2, by omega, by omega⟩, by omega, fr⟩
        · skip
          exfalso; omega
theorem c_numberShapesa2 {G : xa_G} {h : xa_H} (k kb kbr kam : Nat) (sj : Int) (pl lw br am : Nat → Int) (nb na : Nat) (ns fs lst : Int) (po sp : Nat → Int) (tj tb : Int) (ld dg : Nat → Int) (wa sr pu ri : Int) (hk : 2 ≤ k) (hkn : k + 7 < h.2) (hkb : 2 ≤ kb) (hkk : kb + 3 ≤ k) (hkbr : k + 8 ≤ kbr ∨ kbr = k + 3) (hkbr2 : kbr < h.2) (hkam : k + 8 ≤ kam ∨ kam = k + 4) (hkam2 : kam < h.2) (hkq : kbr ≠ kam) (hpl0 : ∀ i, 0 ≤ pl i ∧ pl i ≤ 12) (hsj : -1 ≤ sj ∧ sj ≤ 1) (hB9 : vB ld dg 2 1 wa sr pu ri) (hlt : (na : Int) < kN 2 1 wa sr sj) (p : Nat) (hp : h.2 = p) (hT0 : h.1 k = xa_o 6 [xa_r kb, xa_r (k + 5), xa_i sj, xa_r (k + 1), xa_r (k + 2), xa_i ns, xa_i fs, xa_i lst, xa_r kbr, xa_r kam]) (hT1 : h.1 (k + 1) = xa_a 2 pl) (hT2 : h.1 (k + 2) = xa_a 2 lw) (hT3 : h.1 kbr = xa_a nb br) (hT4 : h.1 kam = xa_a na am) (hS0 : h.1 (k + 5) = xa_o 4 [xa_r kb, xa_r (k + 5 + 1), xa_r (k + 5 + 2), xa_i tj, xa_i tb]) (hS1 : h.1 (k + 5 + 1) = xa_a 3 po) (hS2 : h.1 (k + 5 + 2) = xa_a 2 sp) (hB0 : h.1 kb = xa_o 0 [xa_r (kb + 1), xa_r (kb + 2), xa_i 2, xa_i 1, xa_i wa, xa_i sr, xa_i pu, xa_i ri]) (hB1 : h.1 (kb + 1) = xa_a 9 ld) (hB2 : h.1 (kb + 2) = xa_a 2 dg) : xa_M G mX6_numberShapes [xa_r k] h 2 ((kN 2 1 wa sr sj).toNat * 12) (fun r h' => r = none ∧ (∃ pl' lw' : Nat → Int, kP 1 wa sr sj pl' lw' ∧ h'.1 k = xa_o 6 [xa_r kb, xa_r (k + 5), xa_i sj, xa_r (k + 1), xa_r (k + 2), xa_i (((kN 2 1 wa sr sj).toNat : Nat) : Int), xa_i (kF 2 1 wa sr sj), xa_i (kF 2 1 wa sr sj + 9 - 1), xa_r (p + 1), xa_r p] ∧ h'.1 (k + 1) = xa_a 2 pl' ∧ h'.1 (k + 2) = xa_a 2 lw' ∧ h'.1 (p + 1) = xa_a ((kN 2 1 wa sr sj).toNat * 11) (fun _ => 0) ∧ h'.1 p = xa_a ((kN 2 1 wa sr sj).toNat) (xa_fl (fun _ => 0) (kN 2 1 wa sr sj).toNat 0)) ∧ xS h' (k + 5) kb (xa_upf (xa_upf (xa_fl po 3 1) 0 0) 1 0) (xa_fl sp 2 0) tj 0 ∧ h'.2 = h.2 + 2 ∧ ∀ i, ((i < k ∨ k + 8 ≤ i) ∧ i ≠ kbr ∧ i ≠ kam ∧ i < p) → h'.1 i = h.1 i) := by
  refine xa_enter (by decide +kernel) (Nat.le_of_ble_eq_true rfl) ?_
  refine xa_locals (ls' := [some (xa_r k), none, none, none]) rfl ?_
  have hn : h.2 = h.2 := rfl
  have fr : ∀ i, ((i < k ∨ k + 8 ≤ i) ∧ i ≠ kbr ∧ i ≠ kam ∧ i < p) → h.1 i = h.1 i := fun _ _ => rfl
  have hkN := kN_b (sj := sj) hB9
  have hkF := kF_b (sj := sj) hB9
  have hw := hB9.wag
  refine xa_iconst (pc := 0) dX6_numberShapes_0 ?_
  refine xa_istoren (pc := 1) [some (xa_r k), some (xa_i 1), none, none] dX6_numberShapes_1 (by decide) (Nat.le_of_ble_eq_true rfl) rfl rfl ?_
  refine xa_iconst (pc := 2) dX6_numberShapes_2 ?_
  refine xa_istoren (pc := 3) [some (xa_r k), some (xa_i 1), some (xa_i 0), none] dX6_numberShapes_3 (by decide) (Nat.le_of_ble_eq_true rfl) rfl rfl ?_
  refine xa_iload_n (pc := 4) dX6_numberShapes_4 rfl ?_
  refine xa_aload_n (pc := 5) dX6_numberShapes_5 rfl ?_
  refine xa_getfield (pc := 6) dX6_numberShapes_6 flRX6_24 (by omega) (by omega) hT0 rfl ?_
  refine xa_getfield (pc := 9) dX6_numberShapes_9 flRX6_41 (by omega) (by omega) hB0 rfl ?_
  refine xa_icmp_ge (pc := 12) (tgt := 25) dX6_numberShapes_12 (by decide) (by decide) (by decide) (fun c_12 => ?_) (fun c_12 => ?_)
  · skip
    exfalso; omega
  · skip
    refine xa_iload_n (pc := 15) dX6_numberShapes_15 rfl ?_
    refine xa_iconst (pc := 16) dX6_numberShapes_16 ?_
    refine xa_imul (pc := 17) dX6_numberShapes_17 ?_
    refine xa_top (y := 3) (by decide) ?_
    refine xa_istoren (pc := 18) [some (xa_r k), some (xa_i 3), some (xa_i 0), none] dX6_numberShapes_18 (by decide) (Nat.le_of_ble_eq_true rfl) rfl rfl ?_
    refine xa_iincw (pc := 19) (y := 1) [some (xa_r k), some (xa_i 3), some (xa_i 1), none] dX6_numberShapes_19 (by decide) rfl rfl rfl rfl ?_
    refine xa_goto (pc := 22) (tgt := 4) dX6_numberShapes_22 (by decide) ?_
    refine xa_iload_n (pc := 4) dX6_numberShapes_4 rfl ?_
    refine xa_aload_n (pc := 5) dX6_numberShapes_5 rfl ?_
    refine xa_getfield (pc := 6) dX6_numberShapes_6 flRX6_24 (by omega) (by omega) hT0 rfl ?_
    refine xa_getfield (pc := 9) dX6_numberShapes_9 flRX6_41 (by omega) (by omega) hB0 rfl ?_
    refine xa_icmp_ge (pc := 12) (tgt := 25) dX6_numberShapes_12 (by decide) (by decide) (by decide) (fun c_12 => ?_) (fun c_12 => ?_)
    · skip
      exfalso; omega
    · skip
      refine xa_iload_n (pc := 15) dX6_numberShapes_15 rfl ?_
      refine xa_iconst (pc := 16) dX6_numberShapes_16 ?_
      refine xa_imul (pc := 17) dX6_numberShapes_17 ?_
      refine xa_top (y := 9) (by decide) ?_
      refine xa_istoren (pc := 18) [some (xa_r k), some (xa_i 9), some (xa_i 1), none] dX6_numberShapes_18 (by decide) (Nat.le_of_ble_eq_true rfl) rfl rfl ?_
      refine xa_iincw (pc := 19) (y := 2) [some (xa_r k), some (xa_i 9), some (xa_i 2), none] dX6_numberShapes_19 (by decide) rfl rfl rfl rfl ?_
      refine xa_goto (pc := 22) (tgt := 4) dX6_numberShapes_22 (by decide) ?_
      refine xa_iload_n (pc := 4) dX6_numberShapes_4 rfl ?_
      refine xa_aload_n (pc := 5) dX6_numberShapes_5 rfl ?_
      refine xa_getfield (pc := 6) dX6_numberShapes_6 flRX6_24 (by omega) (by omega) hT0 rfl ?_
      refine xa_getfield (pc := 9) dX6_numberShapes_9 flRX6_41 (by omega) (by omega) hB0 rfl ?_
      refine xa_icmp_ge (pc := 12) (tgt := 25) dX6_numberShapes_12 (by decide) (by decide) (by decide) (fun c_12 => ?_) (fun c_12 => ?_)
      · skip
        refine xa_aload_n (pc := 25) dX6_numberShapes_25 rfl ?_
        refine xa_iload_n (pc := 26) dX6_numberShapes_26 rfl ?_
        refine xa_putw (pc := 27) [xa_r kb, xa_r (k + 5), xa_i sj, xa_r (k + 1), xa_r (k + 2), xa_i 9, xa_i fs, xa_i lst, xa_r kbr, xa_r kam] dX6_numberShapes_27 flRX6_46 plX6_5 (by omega) (by omega) hT0 trivial rfl (fun h1 nh1 ch1 oh1 => ?_)
        have hT0 : h1.1 k = xa_o 6 [xa_r kb, xa_r (k + 5), xa_i sj, xa_r (k + 1), xa_r (k + 2), xa_i 9, xa_i fs, xa_i lst, xa_r kbr, xa_r kam] := ch1
        have hT1 : h1.1 (k + 1) = xa_a 2 pl := (oh1 _ (by omega)).trans hT1
        have hT2 : h1.1 (k + 2) = xa_a 2 lw := (oh1 _ (by omega)).trans hT2
        have hT3 : h1.1 kbr = xa_a nb br := (oh1 _ (by omega)).trans hT3
        have hT4 : h1.1 kam = xa_a na am := (oh1 _ (by omega)).trans hT4
        have hS0 : h1.1 (k + 5) = xa_o 4 [xa_r kb, xa_r (k + 5 + 1), xa_r (k + 5 + 2), xa_i tj, xa_i tb] := (oh1 _ (by omega)).trans hS0
        have hS1 : h1.1 (k + 5 + 1) = xa_a 3 po := (oh1 _ (by omega)).trans hS1
        have hS2 : h1.1 (k + 5 + 2) = xa_a 2 sp := (oh1 _ (by omega)).trans hS2
        have hB0 : h1.1 kb = xa_o 0 [xa_r (kb + 1), xa_r (kb + 2), xa_i 2, xa_i 1, xa_i wa, xa_i sr, xa_i pu, xa_i ri] := (oh1 _ (by omega)).trans hB0
        have hB1 : h1.1 (kb + 1) = xa_a 9 ld := (oh1 _ (by omega)).trans hB1
        have hB2 : h1.1 (kb + 2) = xa_a 2 dg := (oh1 _ (by omega)).trans hB2
        have hn : h1.2 = h.2 := nh1.trans hn
        have fr : ∀ i, ((i < k ∨ k + 8 ≤ i) ∧ i ≠ kbr ∧ i ≠ kam ∧ i < p) → h1.1 i = h.1 i := fun i hi => (oh1 i (by omega)).trans (fr i hi)
        refine xa_iconst (pc := 30) dX6_numberShapes_30 ?_
        refine xa_istoren (pc := 31) [some (xa_r k), some (xa_i 9), some (xa_i 0), none] dX6_numberShapes_31 (by decide) (Nat.le_of_ble_eq_true rfl) rfl rfl ?_
        refine xa_iload_n (pc := 32) dX6_numberShapes_32 rfl ?_
        refine xa_aload_n (pc := 33) dX6_numberShapes_33 rfl ?_
        refine xa_getfield (pc := 34) dX6_numberShapes_34 flRX6_9 (by omega) (by omega) hT0 rfl ?_
        refine xa_alen (pc := 37) dX6_numberShapes_37 (by omega) hT1 ?_
        refine xa_top (y := 2) rfl ?_
        refine xa_icmp_ge (pc := 38) (tgt := 144) dX6_numberShapes_38 (by decide) (by decide) (by decide) (fun c_38 => ?_) (fun c_38 => ?_)
        · skip
          exfalso; omega
        · skip
          refine xa_iload_n (pc := 41) dX6_numberShapes_41 rfl ?_
          refine xa_aload_n (pc := 42) dX6_numberShapes_42 rfl ?_
          refine xa_getfield (pc := 43) dX6_numberShapes_43 flRX6_15 (by omega) (by omega) hT0 rfl ?_
          refine xa_alen (pc := 46) dX6_numberShapes_46 (by omega) hT2 ?_
          refine xa_top (y := 2) rfl ?_
          refine xa_icmp_ge (pc := 47) (tgt := 144) dX6_numberShapes_47 (by decide) (by decide) (by decide) (fun c_47 => ?_) (fun c_47 => ?_)
          · skip
            exfalso; omega
          · skip
            refine xa_iload_n (pc := 50) dX6_numberShapes_50 rfl ?_
            refine xa_aload_n (pc := 51) dX6_numberShapes_51 rfl ?_
            refine xa_getfield (pc := 52) dX6_numberShapes_52 flRX6_24 (by omega) (by omega) hT0 rfl ?_
            refine xa_getfield (pc := 55) dX6_numberShapes_55 flRX6_49 (by omega) (by omega) hB0 rfl ?_
            refine xa_icmp_ge (pc := 58) (tgt := 73) dX6_numberShapes_58 (by decide) (by decide) (by decide) (fun c_58 => ?_) (fun c_58 => ?_)
            · skip
              exfalso; omega
            · skip
              refine xa_iload_n (pc := 61) dX6_numberShapes_61 rfl ?_
              refine xa_aload_n (pc := 62) dX6_numberShapes_62 rfl ?_
              refine xa_getfield (pc := 63) dX6_numberShapes_63 flRX6_28 (by omega) (by omega) hT0 rfl ?_
              refine xa_icmp_eq (pc := 66) (tgt := 73) dX6_numberShapes_66 (by decide) (by decide) ⟨by omega, by omega⟩ (fun c_66 => ?_) (fun c_66 => ?_)
              · skip
                refine xa_iconst (pc := 73) dX6_numberShapes_73 ?_
                refine xa_istoren (pc := 74) [some (xa_r k), some (xa_i 9), some (xa_i 0), some (xa_i 0)] dX6_numberShapes_74 (by decide) (Nat.le_of_ble_eq_true rfl) rfl rfl ?_
                refine xa_aload_n (pc := 75) dX6_numberShapes_75 rfl ?_
                refine xa_getfield (pc := 76) dX6_numberShapes_76 flRX6_9 (by omega) (by omega) hT0 rfl ?_
                refine xa_iload_n (pc := 79) dX6_numberShapes_79 rfl ?_
                refine xa_iload_n (pc := 80) dX6_numberShapes_80 rfl ?_
                refine xa_if_eq (pc := 81) (tgt := 99) dX6_numberShapes_81 (by decide) (by decide) (fun c_81 => ?_) (fun c_81 => ?_)
                · skip
                  refine xa_iconst (pc := 99) dX6_numberShapes_99 ?_
                  refine xa_top (y := tp 1 wa sr sj 0) (by first | exact tp_y hB9 (j := 0) (by decide) (fun z => by omega) | exact tp_n (j := 0) (Or.inr (by omega)) | exact tp_n (j := 0) (Or.inl (by decide))) ?_
                  refine xa_iastw (pc := 100) 0 dX6_numberShapes_100 (by omega) (by omega) hT1 (by omega) (by omega) rfl (fun h2 nh2 ch2 oh2 => ?_)
                  have hT1 : h2.1 (k + 1) = xa_a 2 (xa_upf pl 0 (tp 1 wa sr sj 0)) := ch2
                  have hT0 : h2.1 k = xa_o 6 [xa_r kb, xa_r (k + 5), xa_i sj, xa_r (k + 1), xa_r (k + 2), xa_i 9, xa_i fs, xa_i lst, xa_r kbr, xa_r kam] := (oh2 _ (by omega)).trans hT0
                  have hT2 : h2.1 (k + 2) = xa_a 2 lw := (oh2 _ (by omega)).trans hT2
                  have hT3 : h2.1 kbr = xa_a nb br := (oh2 _ (by omega)).trans hT3
                  have hT4 : h2.1 kam = xa_a na am := (oh2 _ (by omega)).trans hT4
                  have hS0 : h2.1 (k + 5) = xa_o 4 [xa_r kb, xa_r (k + 5 + 1), xa_r (k + 5 + 2), xa_i tj, xa_i tb] := (oh2 _ (by omega)).trans hS0
                  have hS1 : h2.1 (k + 5 + 1) = xa_a 3 po := (oh2 _ (by omega)).trans hS1
                  have hS2 : h2.1 (k + 5 + 2) = xa_a 2 sp := (oh2 _ (by omega)).trans hS2
                  have hB0 : h2.1 kb = xa_o 0 [xa_r (kb + 1), xa_r (kb + 2), xa_i 2, xa_i 1, xa_i wa, xa_i sr, xa_i pu, xa_i ri] := (oh2 _ (by omega)).trans hB0
                  have hB1 : h2.1 (kb + 1) = xa_a 9 ld := (oh2 _ (by omega)).trans hB1
                  have hB2 : h2.1 (kb + 2) = xa_a 2 dg := (oh2 _ (by omega)).trans hB2
                  have hn : h2.2 = h.2 := nh2.trans hn
                  have fr : ∀ i, ((i < k ∨ k + 8 ≤ i) ∧ i ≠ kbr ∧ i ≠ kam ∧ i < p) → h2.1 i = h.1 i := fun i hi => (oh2 i (by omega)).trans (fr i hi)
                  refine xa_aload_n (pc := 101) dX6_numberShapes_101 rfl ?_
                  refine xa_getfield (pc := 102) dX6_numberShapes_102 flRX6_15 (by omega) (by omega) hT0 rfl ?_
                  refine xa_iload_n (pc := 105) dX6_numberShapes_105 rfl ?_
                  refine xa_iload_n (pc := 106) dX6_numberShapes_106 rfl ?_
                  refine xa_if_eq (pc := 107) (tgt := 121) dX6_numberShapes_107 (by decide) (by decide) (fun c_107 => ?_) (fun c_107 => ?_)
                  · skip
                    refine xa_iconst (pc := 121) dX6_numberShapes_121 ?_
                    refine xa_top (y := -tz 1 wa sj 0) (by first | exact tz_y (j := 0) (by decide) (fun z => by omega) | exact tz_n (j := 0) (Or.inr (by omega)) | exact tz_n (j := 0) (Or.inl (by decide))) ?_
                    refine xa_iastw (pc := 122) 0 dX6_numberShapes_122 (by omega) (by omega) hT2 (by omega) (by omega) rfl (fun h3 nh3 ch3 oh3 => ?_)
                    have hT2 : h3.1 (k + 2) = xa_a 2 (xa_upf lw 0 (-tz 1 wa sj 0)) := ch3
                    have hT0 : h3.1 k = xa_o 6 [xa_r kb, xa_r (k + 5), xa_i sj, xa_r (k + 1), xa_r (k + 2), xa_i 9, xa_i fs, xa_i lst, xa_r kbr, xa_r kam] := (oh3 _ (by omega)).trans hT0
                    have hT1 : h3.1 (k + 1) = xa_a 2 (xa_upf pl 0 (tp 1 wa sr sj 0)) := (oh3 _ (by omega)).trans hT1
                    have hT3 : h3.1 kbr = xa_a nb br := (oh3 _ (by omega)).trans hT3
                    have hT4 : h3.1 kam = xa_a na am := (oh3 _ (by omega)).trans hT4
                    have hS0 : h3.1 (k + 5) = xa_o 4 [xa_r kb, xa_r (k + 5 + 1), xa_r (k + 5 + 2), xa_i tj, xa_i tb] := (oh3 _ (by omega)).trans hS0
                    have hS1 : h3.1 (k + 5 + 1) = xa_a 3 po := (oh3 _ (by omega)).trans hS1
                    have hS2 : h3.1 (k + 5 + 2) = xa_a 2 sp := (oh3 _ (by omega)).trans hS2
                    have hB0 : h3.1 kb = xa_o 0 [xa_r (kb + 1), xa_r (kb + 2), xa_i 2, xa_i 1, xa_i wa, xa_i sr, xa_i pu, xa_i ri] := (oh3 _ (by omega)).trans hB0
                    have hB1 : h3.1 (kb + 1) = xa_a 9 ld := (oh3 _ (by omega)).trans hB1
                    have hB2 : h3.1 (kb + 2) = xa_a 2 dg := (oh3 _ (by omega)).trans hB2
                    have hn : h3.2 = h.2 := nh3.trans hn
                    have fr : ∀ i, ((i < k ∨ k + 8 ≤ i) ∧ i ≠ kbr ∧ i ≠ kam ∧ i < p) → h3.1 i = h.1 i := fun i hi => (oh3 i (by omega)).trans (fr i hi)
                    refine xa_aload_n (pc := 123) dX6_numberShapes_123 rfl ?_
                    refine xa_dup (pc := 124) dX6_numberShapes_124 rfl ?_
                    refine xa_getfield (pc := 125) dX6_numberShapes_125 flRX6_46 (by omega) (by omega) hT0 rfl ?_
                    refine xa_aload_n (pc := 128) dX6_numberShapes_128 rfl ?_
                    refine xa_getfield (pc := 129) dX6_numberShapes_129 flRX6_9 (by omega) (by omega) hT0 rfl ?_
                    refine xa_iload_n (pc := 132) dX6_numberShapes_132 rfl ?_
                    refine xa_ialdw (pc := 133) 0 dX6_numberShapes_133 (by omega) hT1 (by omega) (by omega) rfl ?_
                    refine xa_top (y := tp 1 wa sr sj 0) (xa_upf_at _ _ _) ?_
                    refine xa_imul (pc := 134) dX6_numberShapes_134 ?_
                    refine xa_putw (pc := 135) [xa_r kb, xa_r (k + 5), xa_i sj, xa_r (k + 1), xa_r (k + 2), xa_i (9 * (tp 1 wa sr sj 0)), xa_i fs, xa_i lst, xa_r kbr, xa_r kam] dX6_numberShapes_135 flRX6_46 plX6_5 (by omega) (by omega) hT0 trivial rfl (fun h4 nh4 ch4 oh4 => ?_)
                    have hT0 : h4.1 k = xa_o 6 [xa_r kb, xa_r (k + 5), xa_i sj, xa_r (k + 1), xa_r (k + 2), xa_i (9 * (tp 1 wa sr sj 0)), xa_i fs, xa_i lst, xa_r kbr, xa_r kam] := ch4
                    have hT1 : h4.1 (k + 1) = xa_a 2 (xa_upf pl 0 (tp 1 wa sr sj 0)) := (oh4 _ (by omega)).trans hT1
                    have hT2 : h4.1 (k + 2) = xa_a 2 (xa_upf lw 0 (-tz 1 wa sj 0)) := (oh4 _ (by omega)).trans hT2
                    have hT3 : h4.1 kbr = xa_a nb br := (oh4 _ (by omega)).trans hT3
                    have hT4 : h4.1 kam = xa_a na am := (oh4 _ (by omega)).trans hT4
                    have hS0 : h4.1 (k + 5) = xa_o 4 [xa_r kb, xa_r (k + 5 + 1), xa_r (k + 5 + 2), xa_i tj, xa_i tb] := (oh4 _ (by omega)).trans hS0
                    have hS1 : h4.1 (k + 5 + 1) = xa_a 3 po := (oh4 _ (by omega)).trans hS1
                    have hS2 : h4.1 (k + 5 + 2) = xa_a 2 sp := (oh4 _ (by omega)).trans hS2
                    have hB0 : h4.1 kb = xa_o 0 [xa_r (kb + 1), xa_r (kb + 2), xa_i 2, xa_i 1, xa_i wa, xa_i sr, xa_i pu, xa_i ri] := (oh4 _ (by omega)).trans hB0
                    have hB1 : h4.1 (kb + 1) = xa_a 9 ld := (oh4 _ (by omega)).trans hB1
                    have hB2 : h4.1 (kb + 2) = xa_a 2 dg := (oh4 _ (by omega)).trans hB2
                    have hn : h4.2 = h.2 := nh4.trans hn
                    have fr : ∀ i, ((i < k ∨ k + 8 ≤ i) ∧ i ≠ kbr ∧ i ≠ kam ∧ i < p) → h4.1 i = h.1 i := fun i hi => (oh4 i (by omega)).trans (fr i hi)
                    refine xa_iincw (pc := 138) (y := 1) [some (xa_r k), some (xa_i 9), some (xa_i 1), some (xa_i 0)] dX6_numberShapes_138 (by decide) rfl rfl rfl rfl ?_
                    refine xa_goto (pc := 141) (tgt := 32) dX6_numberShapes_141 (by decide) ?_
                    refine xa_iload_n (pc := 32) dX6_numberShapes_32 rfl ?_
                    refine xa_aload_n (pc := 33) dX6_numberShapes_33 rfl ?_
                    refine xa_getfield (pc := 34) dX6_numberShapes_34 flRX6_9 (by omega) (by omega) hT0 rfl ?_
                    refine xa_alen (pc := 37) dX6_numberShapes_37 (by omega) hT1 ?_
                    refine xa_top (y := 2) rfl ?_
                    refine xa_icmp_ge (pc := 38) (tgt := 144) dX6_numberShapes_38 (by decide) (by decide) (by decide) (fun c_38 => ?_) (fun c_38 => ?_)
                    · skip
                      exfalso; omega
                    · skip
                      refine xa_iload_n (pc := 41) dX6_numberShapes_41 rfl ?_
                      refine xa_aload_n (pc := 42) dX6_numberShapes_42 rfl ?_
                      refine xa_getfield (pc := 43) dX6_numberShapes_43 flRX6_15 (by omega) (by omega) hT0 rfl ?_
                      refine xa_alen (pc := 46) dX6_numberShapes_46 (by omega) hT2 ?_
                      refine xa_top (y := 2) rfl ?_
                      refine xa_icmp_ge (pc := 47) (tgt := 144) dX6_numberShapes_47 (by decide) (by decide) (by decide) (fun c_47 => ?_) (fun c_47 => ?_)
                      · skip
                        exfalso; omega
                      · skip
                        refine xa_iload_n (pc := 50) dX6_numberShapes_50 rfl ?_
                        refine xa_aload_n (pc := 51) dX6_numberShapes_51 rfl ?_
                        refine xa_getfield (pc := 52) dX6_numberShapes_52 flRX6_24 (by omega) (by omega) hT0 rfl ?_
                        refine xa_getfield (pc := 55) dX6_numberShapes_55 flRX6_49 (by omega) (by omega) hB0 rfl ?_
                        refine xa_icmp_ge (pc := 58) (tgt := 73) dX6_numberShapes_58 (by decide) (by decide) (by decide) (fun c_58 => ?_) (fun c_58 => ?_)
                        · skip
                          refine xa_iconst (pc := 73) dX6_numberShapes_73 ?_
                          refine xa_istoren (pc := 74) [some (xa_r k), some (xa_i 9), some (xa_i 1), some (xa_i 0)] dX6_numberShapes_74 (by decide) (Nat.le_of_ble_eq_true rfl) rfl rfl ?_
                          refine xa_aload_n (pc := 75) dX6_numberShapes_75 rfl ?_
                          refine xa_getfield (pc := 76) dX6_numberShapes_76 flRX6_9 (by omega) (by omega) hT0 rfl ?_
                          refine xa_iload_n (pc := 79) dX6_numberShapes_79 rfl ?_
                          refine xa_iload_n (pc := 80) dX6_numberShapes_80 rfl ?_
                          refine xa_if_eq (pc := 81) (tgt := 99) dX6_numberShapes_81 (by decide) (by decide) (fun c_81 => ?_) (fun c_81 => ?_)
                          · skip
                            refine xa_iconst (pc := 99) dX6_numberShapes_99 ?_
                            refine xa_top (y := tp 1 wa sr sj 1) (by first | exact tp_y hB9 (j := 1) (by decide) (fun z => by omega) | exact tp_n (j := 1) (Or.inr (by omega)) | exact tp_n (j := 1) (Or.inl (by decide))) ?_
                            refine xa_iastw (pc := 100) 1 dX6_numberShapes_100 (by omega) (by omega) hT1 (by omega) (by omega) rfl (fun h5 nh5 ch5 oh5 => ?_)
                            have hT1 : h5.1 (k + 1) = xa_a 2 (xa_upf (xa_upf pl 0 (tp 1 wa sr sj 0)) 1 (tp 1 wa sr sj 1)) := ch5
                            have hT0 : h5.1 k = xa_o 6 [xa_r kb, xa_r (k + 5), xa_i sj, xa_r (k + 1), xa_r (k + 2), xa_i (9 * (tp 1 wa sr sj 0)), xa_i fs, xa_i lst, xa_r kbr, xa_r kam] := (oh5 _ (by omega)).trans hT0
                            have hT2 : h5.1 (k + 2) = xa_a 2 (xa_upf lw 0 (-tz 1 wa sj 0)) := (oh5 _ (by omega)).trans hT2
                            have hT3 : h5.1 kbr = xa_a nb br := (oh5 _ (by omega)).trans hT3
                            have hT4 : h5.1 kam = xa_a na am := (oh5 _ (by omega)).trans hT4
                            have hS0 : h5.1 (k + 5) = xa_o 4 [xa_r kb, xa_r (k + 5 + 1), xa_r (k + 5 + 2), xa_i tj, xa_i tb] := (oh5 _ (by omega)).trans hS0
                            have hS1 : h5.1 (k + 5 + 1) = xa_a 3 po := (oh5 _ (by omega)).trans hS1
                            have hS2 : h5.1 (k + 5 + 2) = xa_a 2 sp := (oh5 _ (by omega)).trans hS2
                            have hB0 : h5.1 kb = xa_o 0 [xa_r (kb + 1), xa_r (kb + 2), xa_i 2, xa_i 1, xa_i wa, xa_i sr, xa_i pu, xa_i ri] := (oh5 _ (by omega)).trans hB0
                            have hB1 : h5.1 (kb + 1) = xa_a 9 ld := (oh5 _ (by omega)).trans hB1
                            have hB2 : h5.1 (kb + 2) = xa_a 2 dg := (oh5 _ (by omega)).trans hB2
                            have hn : h5.2 = h.2 := nh5.trans hn
                            have fr : ∀ i, ((i < k ∨ k + 8 ≤ i) ∧ i ≠ kbr ∧ i ≠ kam ∧ i < p) → h5.1 i = h.1 i := fun i hi => (oh5 i (by omega)).trans (fr i hi)
                            refine xa_aload_n (pc := 101) dX6_numberShapes_101 rfl ?_
                            refine xa_getfield (pc := 102) dX6_numberShapes_102 flRX6_15 (by omega) (by omega) hT0 rfl ?_
                            refine xa_iload_n (pc := 105) dX6_numberShapes_105 rfl ?_
                            refine xa_iload_n (pc := 106) dX6_numberShapes_106 rfl ?_
                            refine xa_if_eq (pc := 107) (tgt := 121) dX6_numberShapes_107 (by decide) (by decide) (fun c_107 => ?_) (fun c_107 => ?_)
                            · skip
                              refine xa_iconst (pc := 121) dX6_numberShapes_121 ?_
                              refine xa_top (y := -tz 1 wa sj 1) (by first | exact tz_y (j := 1) (by decide) (fun z => by omega) | exact tz_n (j := 1) (Or.inr (by omega)) | exact tz_n (j := 1) (Or.inl (by decide))) ?_
                              refine xa_iastw (pc := 122) 1 dX6_numberShapes_122 (by omega) (by omega) hT2 (by omega) (by omega) rfl (fun h6 nh6 ch6 oh6 => ?_)
                              have hT2 : h6.1 (k + 2) = xa_a 2 (xa_upf (xa_upf lw 0 (-tz 1 wa sj 0)) 1 (-tz 1 wa sj 1)) := ch6
                              have hT0 : h6.1 k = xa_o 6 [xa_r kb, xa_r (k + 5), xa_i sj, xa_r (k + 1), xa_r (k + 2), xa_i (9 * (tp 1 wa sr sj 0)), xa_i fs, xa_i lst, xa_r kbr, xa_r kam] := (oh6 _ (by omega)).trans hT0
                              have hT1 : h6.1 (k + 1) = xa_a 2 (xa_upf (xa_upf pl 0 (tp 1 wa sr sj 0)) 1 (tp 1 wa sr sj 1)) := (oh6 _ (by omega)).trans hT1
                              have hT3 : h6.1 kbr = xa_a nb br := (oh6 _ (by omega)).trans hT3
                              have hT4 : h6.1 kam = xa_a na am := (oh6 _ (by omega)).trans hT4
                              have hS0 : h6.1 (k + 5) = xa_o 4 [xa_r kb, xa_r (k + 5 + 1), xa_r (k + 5 + 2), xa_i tj, xa_i tb] := (oh6 _ (by omega)).trans hS0
                              have hS1 : h6.1 (k + 5 + 1) = xa_a 3 po := (oh6 _ (by omega)).trans hS1
                              have hS2 : h6.1 (k + 5 + 2) = xa_a 2 sp := (oh6 _ (by omega)).trans hS2
                              have hB0 : h6.1 kb = xa_o 0 [xa_r (kb + 1), xa_r (kb + 2), xa_i 2, xa_i 1, xa_i wa, xa_i sr, xa_i pu, xa_i ri] := (oh6 _ (by omega)).trans hB0
                              have hB1 : h6.1 (kb + 1) = xa_a 9 ld := (oh6 _ (by omega)).trans hB1
                              have hB2 : h6.1 (kb + 2) = xa_a 2 dg := (oh6 _ (by omega)).trans hB2
                              have hn : h6.2 = h.2 := nh6.trans hn
                              have fr : ∀ i, ((i < k ∨ k + 8 ≤ i) ∧ i ≠ kbr ∧ i ≠ kam ∧ i < p) → h6.1 i = h.1 i := fun i hi => (oh6 i (by omega)).trans (fr i hi)
                              refine xa_aload_n (pc := 123) dX6_numberShapes_123 rfl ?_
                              refine xa_dup (pc := 124) dX6_numberShapes_124 rfl ?_
                              refine xa_getfield (pc := 125) dX6_numberShapes_125 flRX6_46 (by omega) (by omega) hT0 rfl ?_
                              refine xa_aload_n (pc := 128) dX6_numberShapes_128 rfl ?_
                              refine xa_getfield (pc := 129) dX6_numberShapes_129 flRX6_9 (by omega) (by omega) hT0 rfl ?_
                              refine xa_iload_n (pc := 132) dX6_numberShapes_132 rfl ?_
                              refine xa_ialdw (pc := 133) 1 dX6_numberShapes_133 (by omega) hT1 (by omega) (by omega) rfl ?_
                              refine xa_top (y := tp 1 wa sr sj 1) (xa_upf_at _ _ _) ?_
                              refine xa_imul (pc := 134) dX6_numberShapes_134 ?_
                              refine xa_top (y := (((kN 2 1 wa sr sj).toNat : Nat) : Int)) (by rw [Int.toNat_of_nonneg (by omega)]; unfold kN; rw [if_neg (by decide)]) ?_
                              refine xa_putw (pc := 135) [xa_r kb, xa_r (k + 5), xa_i sj, xa_r (k + 1), xa_r (k + 2), xa_i (((kN 2 1 wa sr sj).toNat : Nat) : Int), xa_i fs, xa_i lst, xa_r kbr, xa_r kam] dX6_numberShapes_135 flRX6_46 plX6_5 (by omega) (by omega) hT0 trivial rfl (fun h7 nh7 ch7 oh7 => ?_)
                              have hT0 : h7.1 k = xa_o 6 [xa_r kb, xa_r (k + 5), xa_i sj, xa_r (k + 1), xa_r (k + 2), xa_i (((kN 2 1 wa sr sj).toNat : Nat) : Int), xa_i fs, xa_i lst, xa_r kbr, xa_r kam] := ch7
                              have hT1 : h7.1 (k + 1) = xa_a 2 (xa_upf (xa_upf pl 0 (tp 1 wa sr sj 0)) 1 (tp 1 wa sr sj 1)) := (oh7 _ (by omega)).trans hT1
                              have hT2 : h7.1 (k + 2) = xa_a 2 (xa_upf (xa_upf lw 0 (-tz 1 wa sj 0)) 1 (-tz 1 wa sj 1)) := (oh7 _ (by omega)).trans hT2
                              have hT3 : h7.1 kbr = xa_a nb br := (oh7 _ (by omega)).trans hT3
                              have hT4 : h7.1 kam = xa_a na am := (oh7 _ (by omega)).trans hT4
                              have hS0 : h7.1 (k + 5) = xa_o 4 [xa_r kb, xa_r (k + 5 + 1), xa_r (k + 5 + 2), xa_i tj, xa_i tb] := (oh7 _ (by omega)).trans hS0
                              have hS1 : h7.1 (k + 5 + 1) = xa_a 3 po := (oh7 _ (by omega)).trans hS1
                              have hS2 : h7.1 (k + 5 + 2) = xa_a 2 sp := (oh7 _ (by omega)).trans hS2
                              have hB0 : h7.1 kb = xa_o 0 [xa_r (kb + 1), xa_r (kb + 2), xa_i 2, xa_i 1, xa_i wa, xa_i sr, xa_i pu, xa_i ri] := (oh7 _ (by omega)).trans hB0
                              have hB1 : h7.1 (kb + 1) = xa_a 9 ld := (oh7 _ (by omega)).trans hB1
                              have hB2 : h7.1 (kb + 2) = xa_a 2 dg := (oh7 _ (by omega)).trans hB2
                              have hn : h7.2 = h.2 := nh7.trans hn
                              have fr : ∀ i, ((i < k ∨ k + 8 ≤ i) ∧ i ≠ kbr ∧ i ≠ kam ∧ i < p) → h7.1 i = h.1 i := fun i hi => (oh7 i (by omega)).trans (fr i hi)
                              refine xa_iincw (pc := 138) (y := 2) [some (xa_r k), some (xa_i 9), some (xa_i 2), some (xa_i 0)] dX6_numberShapes_138 (by decide) rfl rfl rfl rfl ?_
                              refine xa_goto (pc := 141) (tgt := 32) dX6_numberShapes_141 (by decide) ?_
                              refine xa_iload_n (pc := 32) dX6_numberShapes_32 rfl ?_
                              refine xa_aload_n (pc := 33) dX6_numberShapes_33 rfl ?_
                              refine xa_getfield (pc := 34) dX6_numberShapes_34 flRX6_9 (by omega) (by omega) hT0 rfl ?_
                              refine xa_alen (pc := 37) dX6_numberShapes_37 (by omega) hT1 ?_
                              refine xa_top (y := 2) rfl ?_
                              refine xa_icmp_ge (pc := 38) (tgt := 144) dX6_numberShapes_38 (by decide) (by decide) (by decide) (fun c_38 => ?_) (fun c_38 => ?_)
                              · skip
                                exact c_nsTa2 _ _ _ _ _ _ _ _ _ _ _ _ _ _ _ _ _ _ _ _ _ _ _ hk (by omega) hkb hkk hkbr (by omega) hkam (by omega) hkq hB9 hlt p hp ⟨xa_upf_ne _ _ (by decide) |>.trans (xa_upf_at _ _ _), xa_upf_at _ _ _, xa_upf_ne _ _ (by decide) |>.trans (xa_upf_at _ _ _), xa_upf_at _ _ _, xa_upf_b (xa_upf_b hpl0 (by have := tp_b (sj := sj) hB9 0; omega)) (by have := tp_b (sj := sj) hB9 1; omega)⟩ hT0 hT1 hT2 hT3 hT4 hS0 hS1 hS2 hB0 hB1 hB2 hn fr
                              · skip
                                exfalso; omega
                            · skip
                              exfalso; omega
                          · skip
                            exfalso; omega
                        · skip
                          exfalso; omega
                  · skip
                    exfalso; omega
                · skip
                  exfalso; omega
              · skip
                refine xa_iconst (pc := 69) dX6_numberShapes_69 ?_
                refine xa_goto (pc := 70) (tgt := 74) dX6_numberShapes_70 (by decide) ?_
                refine xa_istoren (pc := 74) [some (xa_r k), some (xa_i 9), some (xa_i 0), some (xa_i 1)] dX6_numberShapes_74 (by decide) (Nat.le_of_ble_eq_true rfl) rfl rfl ?_
                refine xa_aload_n (pc := 75) dX6_numberShapes_75 rfl ?_
                refine xa_getfield (pc := 76) dX6_numberShapes_76 flRX6_9 (by omega) (by omega) hT0 rfl ?_
                refine xa_iload_n (pc := 79) dX6_numberShapes_79 rfl ?_
                refine xa_iload_n (pc := 80) dX6_numberShapes_80 rfl ?_
                refine xa_if_eq (pc := 81) (tgt := 99) dX6_numberShapes_81 (by decide) (by decide) (fun c_81 => ?_) (fun c_81 => ?_)
                · skip
                  exfalso; omega
                · skip
                  refine xa_aload_n (pc := 84) dX6_numberShapes_84 rfl ?_
                  refine xa_getfield (pc := 85) dX6_numberShapes_85 flRX6_24 (by omega) (by omega) hT0 rfl ?_
                  refine xa_iload_n (pc := 88) dX6_numberShapes_88 rfl ?_
                  refine xa_callV (pc := 89) (as := [xa_i 0]) (rest := [xa_i 0, xa_r (k + 1)]) dX6_numberShapes_89 ⟨qX0_stepsOf.1, qX0_stepsOf.2.1, qX0_stepsOf.2.2, by decide, by decide⟩ lkRX6_52 imX0_stepsOf seX0_stepsOf rfl rfl (by omega) (by omega) hB0 rfl (Nat.le_of_ble_eq_true rfl) (Nat.zero_le _) (Nat.zero_le _) (c_stepsOf _ _ _ _ _ _ _ _ _ _ (by decide) (by omega) ⟨hB0, hB1, hB2, by omega, by omega⟩) (fun r h' hq => ?_)
                  obtain ⟨rfl, hq⟩ := hq
                  have hq := hq.symm
                  subst hq
                  refine xa_iconst (pc := 92) dX6_numberShapes_92 ?_
                  refine xa_callS (pc := 93) (as := [xa_i (sp_steps wa sr 0), xa_i 1]) (rest := [xa_i 0, xa_r (k + 1)]) dX6_numberShapes_93 ⟨qJ9_max_7cf53.1, qJ9_max_7cf53.2.1, qJ9_max_7cf53.2.2, by decide, by decide⟩ lkRX6_56 smJ9_max_7cf53 rfl rfl (Nat.le_of_ble_eq_true rfl) (Nat.zero_le _) (Nat.zero_le _) (c_max _ _ (by unfold sp_steps; split <;> omega) (by decide)) (fun r h' hq => ?_)
                  obtain ⟨rfl, hq⟩ := hq
                  have hq := hq.symm
                  subst hq
                  refine xa_goto (pc := 96) (tgt := 100) dX6_numberShapes_96 (by decide) ?_
                  refine xa_top (y := tp 1 wa sr sj 0) (by first | exact tp_y hB9 (j := 0) (by decide) (fun z => by omega) | exact tp_n (j := 0) (Or.inr (by omega)) | exact tp_n (j := 0) (Or.inl (by decide))) ?_
                  refine xa_iastw (pc := 100) 0 dX6_numberShapes_100 (by omega) (by omega) hT1 (by omega) (by omega) rfl (fun h8 nh8 ch8 oh8 => ?_)
                  have hT1 : h8.1 (k + 1) = xa_a 2 (xa_upf pl 0 (tp 1 wa sr sj 0)) := ch8
                  have hT0 : h8.1 k = xa_o 6 [xa_r kb, xa_r (k + 5), xa_i sj, xa_r (k + 1), xa_r (k + 2), xa_i 9, xa_i fs, xa_i lst, xa_r kbr, xa_r kam] := (oh8 _ (by omega)).trans hT0
                  have hT2 : h8.1 (k + 2) = xa_a 2 lw := (oh8 _ (by omega)).trans hT2
                  have hT3 : h8.1 kbr = xa_a nb br := (oh8 _ (by omega)).trans hT3
                  have hT4 : h8.1 kam = xa_a na am := (oh8 _ (by omega)).trans hT4
                  have hS0 : h8.1 (k + 5) = xa_o 4 [xa_r kb, xa_r (k + 5 + 1), xa_r (k + 5 + 2), xa_i tj, xa_i tb] := (oh8 _ (by omega)).trans hS0
                  have hS1 : h8.1 (k + 5 + 1) = xa_a 3 po := (oh8 _ (by omega)).trans hS1
                  have hS2 : h8.1 (k + 5 + 2) = xa_a 2 sp := (oh8 _ (by omega)).trans hS2
                  have hB0 : h8.1 kb = xa_o 0 [xa_r (kb + 1), xa_r (kb + 2), xa_i 2, xa_i 1, xa_i wa, xa_i sr, xa_i pu, xa_i ri] := (oh8 _ (by omega)).trans hB0
                  have hB1 : h8.1 (kb + 1) = xa_a 9 ld := (oh8 _ (by omega)).trans hB1
                  have hB2 : h8.1 (kb + 2) = xa_a 2 dg := (oh8 _ (by omega)).trans hB2
                  have hn : h8.2 = h.2 := nh8.trans hn
                  have fr : ∀ i, ((i < k ∨ k + 8 ≤ i) ∧ i ≠ kbr ∧ i ≠ kam ∧ i < p) → h8.1 i = h.1 i := fun i hi => (oh8 i (by omega)).trans (fr i hi)
                  refine xa_aload_n (pc := 101) dX6_numberShapes_101 rfl ?_
                  refine xa_getfield (pc := 102) dX6_numberShapes_102 flRX6_15 (by omega) (by omega) hT0 rfl ?_
                  refine xa_iload_n (pc := 105) dX6_numberShapes_105 rfl ?_
                  refine xa_iload_n (pc := 106) dX6_numberShapes_106 rfl ?_
                  refine xa_if_eq (pc := 107) (tgt := 121) dX6_numberShapes_107 (by decide) (by decide) (fun c_107 => ?_) (fun c_107 => ?_)
                  · skip
                    exfalso; omega
                  · skip
                    refine xa_aload_n (pc := 110) dX6_numberShapes_110 rfl ?_
                    refine xa_getfield (pc := 111) dX6_numberShapes_111 flRX6_24 (by omega) (by omega) hT0 rfl ?_
                    refine xa_iload_n (pc := 114) dX6_numberShapes_114 rfl ?_
                    refine xa_callV (pc := 115) (as := [xa_i 0]) (rest := [xa_i 0, xa_r (k + 2)]) dX6_numberShapes_115 ⟨qX0_lowestOf.1, qX0_lowestOf.2.1, qX0_lowestOf.2.2, by decide, by decide⟩ lkRX6_62 imX0_lowestOf seX0_lowestOf rfl rfl (by omega) (by omega) hB0 rfl (Nat.le_of_ble_eq_true rfl) (Nat.zero_le _) (Nat.zero_le _) (c_lowestOf _ _ _ _ _ _ _ _ _ _ (by decide) (by omega) ⟨hB0, hB1, hB2, by omega, by omega⟩) (fun r h' hq => ?_)
                    obtain ⟨rfl, hq⟩ := hq
                    have hq := hq.symm
                    subst hq
                    refine xa_goto (pc := 118) (tgt := 122) dX6_numberShapes_118 (by decide) ?_
                    refine xa_top (y := -tz 1 wa sj 0) (by first | exact tz_y (j := 0) (by decide) (fun z => by omega) | exact tz_n (j := 0) (Or.inr (by omega)) | exact tz_n (j := 0) (Or.inl (by decide))) ?_
                    refine xa_iastw (pc := 122) 0 dX6_numberShapes_122 (by omega) (by omega) hT2 (by omega) (by omega) rfl (fun h9 nh9 ch9 oh9 => ?_)
                    have hT2 : h9.1 (k + 2) = xa_a 2 (xa_upf lw 0 (-tz 1 wa sj 0)) := ch9
                    have hT0 : h9.1 k = xa_o 6 [xa_r kb, xa_r (k + 5), xa_i sj, xa_r (k + 1), xa_r (k + 2), xa_i 9, xa_i fs, xa_i lst, xa_r kbr, xa_r kam] := (oh9 _ (by omega)).trans hT0
                    have hT1 : h9.1 (k + 1) = xa_a 2 (xa_upf pl 0 (tp 1 wa sr sj 0)) := (oh9 _ (by omega)).trans hT1
                    have hT3 : h9.1 kbr = xa_a nb br := (oh9 _ (by omega)).trans hT3
                    have hT4 : h9.1 kam = xa_a na am := (oh9 _ (by omega)).trans hT4
                    have hS0 : h9.1 (k + 5) = xa_o 4 [xa_r kb, xa_r (k + 5 + 1), xa_r (k + 5 + 2), xa_i tj, xa_i tb] := (oh9 _ (by omega)).trans hS0
                    have hS1 : h9.1 (k + 5 + 1) = xa_a 3 po := (oh9 _ (by omega)).trans hS1
                    have hS2 : h9.1 (k + 5 + 2) = xa_a 2 sp := (oh9 _ (by omega)).trans hS2
                    have hB0 : h9.1 kb = xa_o 0 [xa_r (kb + 1), xa_r (kb + 2), xa_i 2, xa_i 1, xa_i wa, xa_i sr, xa_i pu, xa_i ri] := (oh9 _ (by omega)).trans hB0
                    have hB1 : h9.1 (kb + 1) = xa_a 9 ld := (oh9 _ (by omega)).trans hB1
                    have hB2 : h9.1 (kb + 2) = xa_a 2 dg := (oh9 _ (by omega)).trans hB2
                    have hn : h9.2 = h.2 := nh9.trans hn
                    have fr : ∀ i, ((i < k ∨ k + 8 ≤ i) ∧ i ≠ kbr ∧ i ≠ kam ∧ i < p) → h9.1 i = h.1 i := fun i hi => (oh9 i (by omega)).trans (fr i hi)
                    refine xa_aload_n (pc := 123) dX6_numberShapes_123 rfl ?_
                    refine xa_dup (pc := 124) dX6_numberShapes_124 rfl ?_
                    refine xa_getfield (pc := 125) dX6_numberShapes_125 flRX6_46 (by omega) (by omega) hT0 rfl ?_
                    refine xa_aload_n (pc := 128) dX6_numberShapes_128 rfl ?_
                    refine xa_getfield (pc := 129) dX6_numberShapes_129 flRX6_9 (by omega) (by omega) hT0 rfl ?_
                    refine xa_iload_n (pc := 132) dX6_numberShapes_132 rfl ?_
                    refine xa_ialdw (pc := 133) 0 dX6_numberShapes_133 (by omega) hT1 (by omega) (by omega) rfl ?_
                    refine xa_top (y := tp 1 wa sr sj 0) (xa_upf_at _ _ _) ?_
                    refine xa_imul (pc := 134) dX6_numberShapes_134 ?_
                    refine xa_putw (pc := 135) [xa_r kb, xa_r (k + 5), xa_i sj, xa_r (k + 1), xa_r (k + 2), xa_i (9 * (tp 1 wa sr sj 0)), xa_i fs, xa_i lst, xa_r kbr, xa_r kam] dX6_numberShapes_135 flRX6_46 plX6_5 (by omega) (by omega) hT0 trivial rfl (fun h10 nh10 ch10 oh10 => ?_)
                    have hT0 : h10.1 k = xa_o 6 [xa_r kb, xa_r (k + 5), xa_i sj, xa_r (k + 1), xa_r (k + 2), xa_i (9 * (tp 1 wa sr sj 0)), xa_i fs, xa_i lst, xa_r kbr, xa_r kam] := ch10
                    have hT1 : h10.1 (k + 1) = xa_a 2 (xa_upf pl 0 (tp 1 wa sr sj 0)) := (oh10 _ (by omega)).trans hT1
                    have hT2 : h10.1 (k + 2) = xa_a 2 (xa_upf lw 0 (-tz 1 wa sj 0)) := (oh10 _ (by omega)).trans hT2
                    have hT3 : h10.1 kbr = xa_a nb br := (oh10 _ (by omega)).trans hT3
                    have hT4 : h10.1 kam = xa_a na am := (oh10 _ (by omega)).trans hT4
                    have hS0 : h10.1 (k + 5) = xa_o 4 [xa_r kb, xa_r (k + 5 + 1), xa_r (k + 5 + 2), xa_i tj, xa_i tb] := (oh10 _ (by omega)).trans hS0
                    have hS1 : h10.1 (k + 5 + 1) = xa_a 3 po := (oh10 _ (by omega)).trans hS1
                    have hS2 : h10.1 (k + 5 + 2) = xa_a 2 sp := (oh10 _ (by omega)).trans hS2
                    have hB0 : h10.1 kb = xa_o 0 [xa_r (kb + 1), xa_r (kb + 2), xa_i 2, xa_i 1, xa_i wa, xa_i sr, xa_i pu, xa_i ri] := (oh10 _ (by omega)).trans hB0
                    have hB1 : h10.1 (kb + 1) = xa_a 9 ld := (oh10 _ (by omega)).trans hB1
                    have hB2 : h10.1 (kb + 2) = xa_a 2 dg := (oh10 _ (by omega)).trans hB2
                    have hn : h10.2 = h.2 := nh10.trans hn
                    have fr : ∀ i, ((i < k ∨ k + 8 ≤ i) ∧ i ≠ kbr ∧ i ≠ kam ∧ i < p) → h10.1 i = h.1 i := fun i hi => (oh10 i (by omega)).trans (fr i hi)
                    refine xa_iincw (pc := 138) (y := 1) [some (xa_r k), some (xa_i 9), some (xa_i 1), some (xa_i 1)] dX6_numberShapes_138 (by decide) rfl rfl rfl rfl ?_
                    refine xa_goto (pc := 141) (tgt := 32) dX6_numberShapes_141 (by decide) ?_
                    refine xa_iload_n (pc := 32) dX6_numberShapes_32 rfl ?_
                    refine xa_aload_n (pc := 33) dX6_numberShapes_33 rfl ?_
                    refine xa_getfield (pc := 34) dX6_numberShapes_34 flRX6_9 (by omega) (by omega) hT0 rfl ?_
                    refine xa_alen (pc := 37) dX6_numberShapes_37 (by omega) hT1 ?_
                    refine xa_top (y := 2) rfl ?_
                    refine xa_icmp_ge (pc := 38) (tgt := 144) dX6_numberShapes_38 (by decide) (by decide) (by decide) (fun c_38 => ?_) (fun c_38 => ?_)
                    · skip
                      exfalso; omega
                    · skip
                      refine xa_iload_n (pc := 41) dX6_numberShapes_41 rfl ?_
                      refine xa_aload_n (pc := 42) dX6_numberShapes_42 rfl ?_
                      refine xa_getfield (pc := 43) dX6_numberShapes_43 flRX6_15 (by omega) (by omega) hT0 rfl ?_
                      refine xa_alen (pc := 46) dX6_numberShapes_46 (by omega) hT2 ?_
                      refine xa_top (y := 2) rfl ?_
                      refine xa_icmp_ge (pc := 47) (tgt := 144) dX6_numberShapes_47 (by decide) (by decide) (by decide) (fun c_47 => ?_) (fun c_47 => ?_)
                      · skip
                        exfalso; omega
                      · skip
                        refine xa_iload_n (pc := 50) dX6_numberShapes_50 rfl ?_
                        refine xa_aload_n (pc := 51) dX6_numberShapes_51 rfl ?_
                        refine xa_getfield (pc := 52) dX6_numberShapes_52 flRX6_24 (by omega) (by omega) hT0 rfl ?_
                        refine xa_getfield (pc := 55) dX6_numberShapes_55 flRX6_49 (by omega) (by omega) hB0 rfl ?_
                        refine xa_icmp_ge (pc := 58) (tgt := 73) dX6_numberShapes_58 (by decide) (by decide) (by decide) (fun c_58 => ?_) (fun c_58 => ?_)
                        · skip
                          refine xa_iconst (pc := 73) dX6_numberShapes_73 ?_
                          refine xa_istoren (pc := 74) [some (xa_r k), some (xa_i 9), some (xa_i 1), some (xa_i 0)] dX6_numberShapes_74 (by decide) (Nat.le_of_ble_eq_true rfl) rfl rfl ?_
                          refine xa_aload_n (pc := 75) dX6_numberShapes_75 rfl ?_
                          refine xa_getfield (pc := 76) dX6_numberShapes_76 flRX6_9 (by omega) (by omega) hT0 rfl ?_
                          refine xa_iload_n (pc := 79) dX6_numberShapes_79 rfl ?_
                          refine xa_iload_n (pc := 80) dX6_numberShapes_80 rfl ?_
                          refine xa_if_eq (pc := 81) (tgt := 99) dX6_numberShapes_81 (by decide) (by decide) (fun c_81 => ?_) (fun c_81 => ?_)
                          · skip
                            refine xa_iconst (pc := 99) dX6_numberShapes_99 ?_
                            refine xa_top (y := tp 1 wa sr sj 1) (by first | exact tp_y hB9 (j := 1) (by decide) (fun z => by omega) | exact tp_n (j := 1) (Or.inr (by omega)) | exact tp_n (j := 1) (Or.inl (by decide))) ?_
                            refine xa_iastw (pc := 100) 1 dX6_numberShapes_100 (by omega) (by omega) hT1 (by omega) (by omega) rfl (fun h11 nh11 ch11 oh11 => ?_)
                            have hT1 : h11.1 (k + 1) = xa_a 2 (xa_upf (xa_upf pl 0 (tp 1 wa sr sj 0)) 1 (tp 1 wa sr sj 1)) := ch11
                            have hT0 : h11.1 k = xa_o 6 [xa_r kb, xa_r (k + 5), xa_i sj, xa_r (k + 1), xa_r (k + 2), xa_i (9 * (tp 1 wa sr sj 0)), xa_i fs, xa_i lst, xa_r kbr, xa_r kam] := (oh11 _ (by omega)).trans hT0
                            have hT2 : h11.1 (k + 2) = xa_a 2 (xa_upf lw 0 (-tz 1 wa sj 0)) := (oh11 _ (by omega)).trans hT2
                            have hT3 : h11.1 kbr = xa_a nb br := (oh11 _ (by omega)).trans hT3
                            have hT4 : h11.1 kam = xa_a na am := (oh11 _ (by omega)).trans hT4
                            have hS0 : h11.1 (k + 5) = xa_o 4 [xa_r kb, xa_r (k + 5 + 1), xa_r (k + 5 + 2), xa_i tj, xa_i tb] := (oh11 _ (by omega)).trans hS0
                            have hS1 : h11.1 (k + 5 + 1) = xa_a 3 po := (oh11 _ (by omega)).trans hS1
                            have hS2 : h11.1 (k + 5 + 2) = xa_a 2 sp := (oh11 _ (by omega)).trans hS2
                            have hB0 : h11.1 kb = xa_o 0 [xa_r (kb + 1), xa_r (kb + 2), xa_i 2, xa_i 1, xa_i wa, xa_i sr, xa_i pu, xa_i ri] := (oh11 _ (by omega)).trans hB0
                            have hB1 : h11.1 (kb + 1) = xa_a 9 ld := (oh11 _ (by omega)).trans hB1
                            have hB2 : h11.1 (kb + 2) = xa_a 2 dg := (oh11 _ (by omega)).trans hB2
                            have hn : h11.2 = h.2 := nh11.trans hn
                            have fr : ∀ i, ((i < k ∨ k + 8 ≤ i) ∧ i ≠ kbr ∧ i ≠ kam ∧ i < p) → h11.1 i = h.1 i := fun i hi => (oh11 i (by omega)).trans (fr i hi)
                            refine xa_aload_n (pc := 101) dX6_numberShapes_101 rfl ?_
                            refine xa_getfield (pc := 102) dX6_numberShapes_102 flRX6_15 (by omega) (by omega) hT0 rfl ?_
                            refine xa_iload_n (pc := 105) dX6_numberShapes_105 rfl ?_
                            refine xa_iload_n (pc := 106) dX6_numberShapes_106 rfl ?_
                            refine xa_if_eq (pc := 107) (tgt := 121) dX6_numberShapes_107 (by decide) (by decide) (fun c_107 => ?_) (fun c_107 => ?_)
                            · skip
                              refine xa_iconst (pc := 121) dX6_numberShapes_121 ?_
                              refine xa_top (y := -tz 1 wa sj 1) (by first | exact tz_y (j := 1) (by decide) (fun z => by omega) | exact tz_n (j := 1) (Or.inr (by omega)) | exact tz_n (j := 1) (Or.inl (by decide))) ?_
                              refine xa_iastw (pc := 122) 1 dX6_numberShapes_122 (by omega) (by omega) hT2 (by omega) (by omega) rfl (fun h12 nh12 ch12 oh12 => ?_)
                              have hT2 : h12.1 (k + 2) = xa_a 2 (xa_upf (xa_upf lw 0 (-tz 1 wa sj 0)) 1 (-tz 1 wa sj 1)) := ch12
                              have hT0 : h12.1 k = xa_o 6 [xa_r kb, xa_r (k + 5), xa_i sj, xa_r (k + 1), xa_r (k + 2), xa_i (9 * (tp 1 wa sr sj 0)), xa_i fs, xa_i lst, xa_r kbr, xa_r kam] := (oh12 _ (by omega)).trans hT0
                              have hT1 : h12.1 (k + 1) = xa_a 2 (xa_upf (xa_upf pl 0 (tp 1 wa sr sj 0)) 1 (tp 1 wa sr sj 1)) := (oh12 _ (by omega)).trans hT1
                              have hT3 : h12.1 kbr = xa_a nb br := (oh12 _ (by omega)).trans hT3
                              have hT4 : h12.1 kam = xa_a na am := (oh12 _ (by omega)).trans hT4
                              have hS0 : h12.1 (k + 5) = xa_o 4 [xa_r kb, xa_r (k + 5 + 1), xa_r (k + 5 + 2), xa_i tj, xa_i tb] := (oh12 _ (by omega)).trans hS0
                              have hS1 : h12.1 (k + 5 + 1) = xa_a 3 po := (oh12 _ (by omega)).trans hS1
                              have hS2 : h12.1 (k + 5 + 2) = xa_a 2 sp := (oh12 _ (by omega)).trans hS2
                              have hB0 : h12.1 kb = xa_o 0 [xa_r (kb + 1), xa_r (kb + 2), xa_i 2, xa_i 1, xa_i wa, xa_i sr, xa_i pu, xa_i ri] := (oh12 _ (by omega)).trans hB0
                              have hB1 : h12.1 (kb + 1) = xa_a 9 ld := (oh12 _ (by omega)).trans hB1
                              have hB2 : h12.1 (kb + 2) = xa_a 2 dg := (oh12 _ (by omega)).trans hB2
                              have hn : h12.2 = h.2 := nh12.trans hn
                              have fr : ∀ i, ((i < k ∨ k + 8 ≤ i) ∧ i ≠ kbr ∧ i ≠ kam ∧ i < p) → h12.1 i = h.1 i := fun i hi => (oh12 i (by omega)).trans (fr i hi)
                              refine xa_aload_n (pc := 123) dX6_numberShapes_123 rfl ?_
                              refine xa_dup (pc := 124) dX6_numberShapes_124 rfl ?_
                              refine xa_getfield (pc := 125) dX6_numberShapes_125 flRX6_46 (by omega) (by omega) hT0 rfl ?_
                              refine xa_aload_n (pc := 128) dX6_numberShapes_128 rfl ?_
                              refine xa_getfield (pc := 129) dX6_numberShapes_129 flRX6_9 (by omega) (by omega) hT0 rfl ?_
                              refine xa_iload_n (pc := 132) dX6_numberShapes_132 rfl ?_
                              refine xa_ialdw (pc := 133) 1 dX6_numberShapes_133 (by omega) hT1 (by omega) (by omega) rfl ?_
                              refine xa_top (y := tp 1 wa sr sj 1) (xa_upf_at _ _ _) ?_
                              refine xa_imul (pc := 134) dX6_numberShapes_134 ?_
                              refine xa_top (y := (((kN 2 1 wa sr sj).toNat : Nat) : Int)) (by rw [Int.toNat_of_nonneg (by omega)]; unfold kN; rw [if_neg (by decide)]) ?_
                              refine xa_putw (pc := 135) [xa_r kb, xa_r (k + 5), xa_i sj, xa_r (k + 1), xa_r (k + 2), xa_i (((kN 2 1 wa sr sj).toNat : Nat) : Int), xa_i fs, xa_i lst, xa_r kbr, xa_r kam] dX6_numberShapes_135 flRX6_46 plX6_5 (by omega) (by omega) hT0 trivial rfl (fun h13 nh13 ch13 oh13 => ?_)
                              have hT0 : h13.1 k = xa_o 6 [xa_r kb, xa_r (k + 5), xa_i sj, xa_r (k + 1), xa_r (k + 2), xa_i (((kN 2 1 wa sr sj).toNat : Nat) : Int), xa_i fs, xa_i lst, xa_r kbr, xa_r kam] := ch13
                              have hT1 : h13.1 (k + 1) = xa_a 2 (xa_upf (xa_upf pl 0 (tp 1 wa sr sj 0)) 1 (tp 1 wa sr sj 1)) := (oh13 _ (by omega)).trans hT1
                              have hT2 : h13.1 (k + 2) = xa_a 2 (xa_upf (xa_upf lw 0 (-tz 1 wa sj 0)) 1 (-tz 1 wa sj 1)) := (oh13 _ (by omega)).trans hT2
                              have hT3 : h13.1 kbr = xa_a nb br := (oh13 _ (by omega)).trans hT3
                              have hT4 : h13.1 kam = xa_a na am := (oh13 _ (by omega)).trans hT4
                              have hS0 : h13.1 (k + 5) = xa_o 4 [xa_r kb, xa_r (k + 5 + 1), xa_r (k + 5 + 2), xa_i tj, xa_i tb] := (oh13 _ (by omega)).trans hS0
                              have hS1 : h13.1 (k + 5 + 1) = xa_a 3 po := (oh13 _ (by omega)).trans hS1
                              have hS2 : h13.1 (k + 5 + 2) = xa_a 2 sp := (oh13 _ (by omega)).trans hS2
                              have hB0 : h13.1 kb = xa_o 0 [xa_r (kb + 1), xa_r (kb + 2), xa_i 2, xa_i 1, xa_i wa, xa_i sr, xa_i pu, xa_i ri] := (oh13 _ (by omega)).trans hB0
                              have hB1 : h13.1 (kb + 1) = xa_a 9 ld := (oh13 _ (by omega)).trans hB1
                              have hB2 : h13.1 (kb + 2) = xa_a 2 dg := (oh13 _ (by omega)).trans hB2
                              have hn : h13.2 = h.2 := nh13.trans hn
                              have fr : ∀ i, ((i < k ∨ k + 8 ≤ i) ∧ i ≠ kbr ∧ i ≠ kam ∧ i < p) → h13.1 i = h.1 i := fun i hi => (oh13 i (by omega)).trans (fr i hi)
                              refine xa_iincw (pc := 138) (y := 2) [some (xa_r k), some (xa_i 9), some (xa_i 2), some (xa_i 0)] dX6_numberShapes_138 (by decide) rfl rfl rfl rfl ?_
                              refine xa_goto (pc := 141) (tgt := 32) dX6_numberShapes_141 (by decide) ?_
                              refine xa_iload_n (pc := 32) dX6_numberShapes_32 rfl ?_
                              refine xa_aload_n (pc := 33) dX6_numberShapes_33 rfl ?_
                              refine xa_getfield (pc := 34) dX6_numberShapes_34 flRX6_9 (by omega) (by omega) hT0 rfl ?_
                              refine xa_alen (pc := 37) dX6_numberShapes_37 (by omega) hT1 ?_
                              refine xa_top (y := 2) rfl ?_
                              refine xa_icmp_ge (pc := 38) (tgt := 144) dX6_numberShapes_38 (by decide) (by decide) (by decide) (fun c_38 => ?_) (fun c_38 => ?_)
                              · skip
                                exact c_nsTa2 _ _ _ _ _ _ _ _ _ _ _ _ _ _ _ _ _ _ _ _ _ _ _ hk (by omega) hkb hkk hkbr (by omega) hkam (by omega) hkq hB9 hlt p hp ⟨xa_upf_ne _ _ (by decide) |>.trans (xa_upf_at _ _ _), xa_upf_at _ _ _, xa_upf_ne _ _ (by decide) |>.trans (xa_upf_at _ _ _), xa_upf_at _ _ _, xa_upf_b (xa_upf_b hpl0 (by have := tp_b (sj := sj) hB9 0; omega)) (by have := tp_b (sj := sj) hB9 1; omega)⟩ hT0 hT1 hT2 hT3 hT4 hS0 hS1 hS2 hB0 hB1 hB2 hn fr
                              · skip
                                exfalso; omega
                            · skip
                              exfalso; omega
                          · skip
                            exfalso; omega
                        · skip
                          exfalso; omega
      · skip
        exfalso; omega
theorem c_nsTn3 {G : xa_G} {h0 h : xa_H} {g3 : Option xa_V} (k kb kbr kam : Nat) (sj : Int) (pl lw br am : Nat → Int) (nb na : Nat) (fs lst : Int) (po sp : Nat → Int) (tj tb : Int) (ld dg : Nat → Int) (wa sr pu ri : Int) (hk : 2 ≤ k) (hkn : k + 7 < h.2) (hkb : 2 ≤ kb) (hkk : kb + 3 ≤ k) (hkbr : k + 8 ≤ kbr ∨ kbr = k + 3) (hkbr2 : kbr < h.2) (hkam : k + 8 ≤ kam ∨ kam = k + 4) (hkam2 : kam < h.2) (hkq : kbr ≠ kam) (hB9 : vB ld dg 3 2 wa sr pu ri) (hge : kN 3 2 wa sr sj ≤ (na : Int)) (hna : na ≤ 100000) (hP : kP 2 wa sr sj pl lw) (hT0 : h.1 k = xa_o 6 [xa_r kb, xa_r (k + 5), xa_i sj, xa_r (k + 1), xa_r (k + 2), xa_i (((kN 3 2 wa sr sj).toNat : Nat) : Int), xa_i fs, xa_i lst, xa_r kbr, xa_r kam]) (hT1 : h.1 (k + 1) = xa_a 2 pl) (hT2 : h.1 (k + 2) = xa_a 2 lw) (hT3 : h.1 kbr = xa_a nb br) (hT4 : h.1 kam = xa_a na am) (hS0 : h.1 (k + 5) = xa_o 4 [xa_r kb, xa_r (k + 5 + 1), xa_r (k + 5 + 2), xa_i tj, xa_i tb]) (hS1 : h.1 (k + 5 + 1) = xa_a 3 po) (hS2 : h.1 (k + 5 + 2) = xa_a 2 sp) (hB0 : h.1 kb = xa_o 0 [xa_r (kb + 1), xa_r (kb + 2), xa_i 3, xa_i 2, xa_i wa, xa_i sr, xa_i pu, xa_i ri]) (hB1 : h.1 (kb + 1) = xa_a 9 ld) (hB2 : h.1 (kb + 2) = xa_a 2 dg) (hn : h.2 = h0.2) (fr : ∀ i, ((i < k ∨ k + 8 ≤ i) ∧ i ≠ kbr ∧ i ≠ kam) → h.1 i = h0.1 i) : xa_W G mX6_numberShapes (xa_Z G (fun r h' => r = none ∧ (∃ pl' lw' : Nat → Int, kP 2 wa sr sj pl' lw' ∧ h'.1 k = xa_o 6 [xa_r kb, xa_r (k + 5), xa_i sj, xa_r (k + 1), xa_r (k + 2), xa_i (((kN 3 2 wa sr sj).toNat : Nat) : Int), xa_i (kF 3 2 wa sr sj), xa_i (kF 3 2 wa sr sj + 27 - 1), xa_r kbr, xa_r kam] ∧ h'.1 (k + 1) = xa_a 2 pl' ∧ h'.1 (k + 2) = xa_a 2 lw' ∧ h'.1 kbr = xa_a nb br ∧ h'.1 kam = xa_a na (xa_fl am na 0)) ∧ xS h' (k + 5) kb (xa_upf (xa_upf (xa_upf (xa_fl po 3 1) 0 0) 1 0) 2 0) (xa_fl sp 2 0) tj 0 ∧ h'.2 = h0.2 ∧ ∀ i, ((i < k ∨ k + 8 ≤ i) ∧ i ≠ kbr ∧ i ≠ kam) → h'.1 i = h0.1 i)) 144 [some (xa_r k), some (xa_i 27), some (xa_i 2), g3] [] h 0 0 := by
  have hkN := kN_b (sj := sj) hB9
  have hkF := kF_b (sj := sj) hB9
  refine xa_aload_n (pc := 144) dX6_numberShapes_144 rfl ?_
  refine xa_getfield (pc := 145) dX6_numberShapes_145 flRX6_21 (by omega) (by omega) hT0 rfl ?_
  refine xa_alen (pc := 148) dX6_numberShapes_148 (by omega) hT4 ?_
  refine xa_aload_n (pc := 149) dX6_numberShapes_149 rfl ?_
  refine xa_getfield (pc := 150) dX6_numberShapes_150 flRX6_46 (by omega) (by omega) hT0 rfl ?_
  refine xa_icmp_ge (pc := 153) (tgt := 179) dX6_numberShapes_153 (by decide) ⟨by omega, by omega⟩ ⟨by omega, by omega⟩ (fun c_153 => ?_) (fun c_153 => ?_)
  · skip
    refine xa_aload_n (pc := 179) dX6_numberShapes_179 rfl ?_
    refine xa_getfield (pc := 180) dX6_numberShapes_180 flRX6_21 (by omega) (by omega) hT0 rfl ?_
    refine xa_iconst (pc := 183) dX6_numberShapes_183 ?_
    refine xa_callS (pc := 184) (as := [xa_r kam, xa_i 0]) (rest := []) dX6_numberShapes_184 ⟨qJ7_fill_53178.1, qJ7_fill_53178.2.1, qJ7_fill_53178.2.2, by decide, by decide⟩ lkRX6_65 smJ7_fill_53178 rfl rfl (Nat.le_of_ble_eq_true rfl) (Nat.zero_le _) (Nat.zero_le _) (c_fill _ _ _ _ (by omega) (by omega) (by omega) hT4) (fun r h' hq => ?_)
    obtain ⟨rfl, hqn, hqA, hqf⟩ := hq
    have hT4 : h'.1 kam = xa_a na (xa_fl am na 0) := hqA
    have hT0 : h'.1 k = xa_o 6 [xa_r kb, xa_r (k + 5), xa_i sj, xa_r (k + 1), xa_r (k + 2), xa_i (((kN 3 2 wa sr sj).toNat : Nat) : Int), xa_i fs, xa_i lst, xa_r kbr, xa_r kam] := (hqf _ (by omega)).trans hT0
    have hT1 : h'.1 (k + 1) = xa_a 2 pl := (hqf _ (by omega)).trans hT1
    have hT2 : h'.1 (k + 2) = xa_a 2 lw := (hqf _ (by omega)).trans hT2
    have hT3 : h'.1 kbr = xa_a nb br := (hqf _ (by omega)).trans hT3
    have hS0 : h'.1 (k + 5) = xa_o 4 [xa_r kb, xa_r (k + 5 + 1), xa_r (k + 5 + 2), xa_i tj, xa_i tb] := (hqf _ (by omega)).trans hS0
    have hS1 : h'.1 (k + 5 + 1) = xa_a 3 po := (hqf _ (by omega)).trans hS1
    have hS2 : h'.1 (k + 5 + 2) = xa_a 2 sp := (hqf _ (by omega)).trans hS2
    have hB0 : h'.1 kb = xa_o 0 [xa_r (kb + 1), xa_r (kb + 2), xa_i 3, xa_i 2, xa_i wa, xa_i sr, xa_i pu, xa_i ri] := (hqf _ (by omega)).trans hB0
    have hB1 : h'.1 (kb + 1) = xa_a 9 ld := (hqf _ (by omega)).trans hB1
    have hB2 : h'.1 (kb + 2) = xa_a 2 dg := (hqf _ (by omega)).trans hB2
    have hn : h'.2 = h0.2 := hqn.trans hn
    have fr : ∀ i, ((i < k ∨ k + 8 ≤ i) ∧ i ≠ kbr ∧ i ≠ kam) → h'.1 i = h0.1 i := fun i hi => (hqf i (by omega)).trans (fr i hi)
    refine xa_aload_n (pc := 187) dX6_numberShapes_187 rfl ?_
    refine xa_getfield (pc := 188) dX6_numberShapes_188 flRX6_37 (by omega) (by omega) hT0 rfl ?_
    refine xa_callV (pc := 191) (as := []) (rest := []) dX6_numberShapes_191 ⟨qX4_rest.1, qX4_rest.2.1, qX4_rest.2.2, by decide, by decide⟩ lkRX6_71 imX4_rest seX4_rest rfl rfl (by omega) (by omega) hS0 rfl (Nat.le_of_ble_eq_true rfl) (Nat.zero_le _) (Nat.zero_le _) (c_rest _ _ _ _ _ _ _ _ 3 2 _ _ _ _ ⟨hS0, hS1, hS2, by omega, by omega⟩ ⟨hB0, hB1, hB2, by omega, by omega⟩ (by omega) (by omega) (by omega)) (fun r h' hq => ?_)
    obtain ⟨rfl, ⟨hS0, hS1, hS2, -, -⟩, hqn, hqf⟩ := hq
    have hS0 : h'.1 (k + 5) = xa_o 4 [xa_r kb, xa_r (k + 5 + 1), xa_r (k + 5 + 2), xa_i tj, xa_i 0] := hS0
    have hS1 : h'.1 (k + 5 + 1) = xa_a 3 (xa_fl po 3 1) := hS1
    have hS2 : h'.1 (k + 5 + 2) = xa_a 2 (xa_fl sp 2 0) := hS2
    have hT0 : h'.1 k = xa_o 6 [xa_r kb, xa_r (k + 5), xa_i sj, xa_r (k + 1), xa_r (k + 2), xa_i (((kN 3 2 wa sr sj).toNat : Nat) : Int), xa_i fs, xa_i lst, xa_r kbr, xa_r kam] := (hqf _ (by omega)).trans hT0
    have hT1 : h'.1 (k + 1) = xa_a 2 pl := (hqf _ (by omega)).trans hT1
    have hT2 : h'.1 (k + 2) = xa_a 2 lw := (hqf _ (by omega)).trans hT2
    have hT3 : h'.1 kbr = xa_a nb br := (hqf _ (by omega)).trans hT3
    have hT4 : h'.1 kam = xa_a na (xa_fl am na 0) := (hqf _ (by omega)).trans hT4
    have hB0 : h'.1 kb = xa_o 0 [xa_r (kb + 1), xa_r (kb + 2), xa_i 3, xa_i 2, xa_i wa, xa_i sr, xa_i pu, xa_i ri] := (hqf _ (by omega)).trans hB0
    have hB1 : h'.1 (kb + 1) = xa_a 9 ld := (hqf _ (by omega)).trans hB1
    have hB2 : h'.1 (kb + 2) = xa_a 2 dg := (hqf _ (by omega)).trans hB2
    have hn : h'.2 = h0.2 := hqn.trans hn
    have fr : ∀ i, ((i < k ∨ k + 8 ≤ i) ∧ i ≠ kbr ∧ i ≠ kam) → h'.1 i = h0.1 i := fun i hi => (hqf i (by omega)).trans (fr i hi)
    refine xa_iconst (pc := 194) dX6_numberShapes_194 ?_
    refine xa_istoren (pc := 195) [some (xa_r k), some (xa_i 27), some (xa_i 0), g3] dX6_numberShapes_195 (by decide) (Nat.le_of_ble_eq_true rfl) rfl rfl ?_
    refine xa_iload_n (pc := 196) dX6_numberShapes_196 rfl ?_
    refine xa_aload_n (pc := 197) dX6_numberShapes_197 rfl ?_
    refine xa_getfield (pc := 198) dX6_numberShapes_198 flRX6_24 (by omega) (by omega) hT0 rfl ?_
    refine xa_getfield (pc := 201) dX6_numberShapes_201 flRX6_41 (by omega) (by omega) hB0 rfl ?_
    refine xa_icmp_ge (pc := 204) (tgt := 222) dX6_numberShapes_204 (by decide) (by decide) (by decide) (fun c_204 => ?_) (fun c_204 => ?_)
    · skip
      exfalso; omega
    · skip
      refine xa_aload_n (pc := 207) dX6_numberShapes_207 rfl ?_
      refine xa_getfield (pc := 208) dX6_numberShapes_208 flRX6_37 (by omega) (by omega) hT0 rfl ?_
      refine xa_iload_n (pc := 211) dX6_numberShapes_211 rfl ?_
      refine xa_iconst (pc := 212) dX6_numberShapes_212 ?_
      refine xa_callV (pc := 213) (as := [xa_i 0, xa_i 0]) (rest := []) dX6_numberShapes_213 ⟨qX4_takePose.1, qX4_takePose.2.1, qX4_takePose.2.2, by decide, by decide⟩ lkRX6_74 imX4_takePose seX4_takePose rfl rfl (by omega) (by omega) hS0 rfl (Nat.le_of_ble_eq_true rfl) (Nat.zero_le _) (Nat.zero_le _) (c_takePose _ _ _ _ _ _ 0 0 0 rfl ⟨by decide, by decide⟩ (by omega) (by omega) hS0 hS1 hS2) (fun r h' hq => ?_)
      obtain ⟨rfl, hqA, hqn, hqf⟩ := hq
      have hS1 : h'.1 (k + 5 + 1) = xa_a 3 (xa_upf (xa_fl po 3 1) 0 0) := hqA
      have hT0 : h'.1 k = xa_o 6 [xa_r kb, xa_r (k + 5), xa_i sj, xa_r (k + 1), xa_r (k + 2), xa_i (((kN 3 2 wa sr sj).toNat : Nat) : Int), xa_i fs, xa_i lst, xa_r kbr, xa_r kam] := (hqf _ (by omega)).trans hT0
      have hT1 : h'.1 (k + 1) = xa_a 2 pl := (hqf _ (by omega)).trans hT1
      have hT2 : h'.1 (k + 2) = xa_a 2 lw := (hqf _ (by omega)).trans hT2
      have hT3 : h'.1 kbr = xa_a nb br := (hqf _ (by omega)).trans hT3
      have hT4 : h'.1 kam = xa_a na (xa_fl am na 0) := (hqf _ (by omega)).trans hT4
      have hS0 : h'.1 (k + 5) = xa_o 4 [xa_r kb, xa_r (k + 5 + 1), xa_r (k + 5 + 2), xa_i tj, xa_i 0] := (hqf _ (by omega)).trans hS0
      have hS2 : h'.1 (k + 5 + 2) = xa_a 2 (xa_fl sp 2 0) := (hqf _ (by omega)).trans hS2
      have hB0 : h'.1 kb = xa_o 0 [xa_r (kb + 1), xa_r (kb + 2), xa_i 3, xa_i 2, xa_i wa, xa_i sr, xa_i pu, xa_i ri] := (hqf _ (by omega)).trans hB0
      have hB1 : h'.1 (kb + 1) = xa_a 9 ld := (hqf _ (by omega)).trans hB1
      have hB2 : h'.1 (kb + 2) = xa_a 2 dg := (hqf _ (by omega)).trans hB2
      have hn : h'.2 = h0.2 := hqn.trans hn
      have fr : ∀ i, ((i < k ∨ k + 8 ≤ i) ∧ i ≠ kbr ∧ i ≠ kam) → h'.1 i = h0.1 i := fun i hi => (hqf i (by omega)).trans (fr i hi)
      refine xa_iincw (pc := 216) (y := 1) [some (xa_r k), some (xa_i 27), some (xa_i 1), g3] dX6_numberShapes_216 (by decide) rfl rfl rfl rfl ?_
      refine xa_goto (pc := 219) (tgt := 196) dX6_numberShapes_219 (by decide) ?_
      refine xa_iload_n (pc := 196) dX6_numberShapes_196 rfl ?_
      refine xa_aload_n (pc := 197) dX6_numberShapes_197 rfl ?_
      refine xa_getfield (pc := 198) dX6_numberShapes_198 flRX6_24 (by omega) (by omega) hT0 rfl ?_
      refine xa_getfield (pc := 201) dX6_numberShapes_201 flRX6_41 (by omega) (by omega) hB0 rfl ?_
      refine xa_icmp_ge (pc := 204) (tgt := 222) dX6_numberShapes_204 (by decide) (by decide) (by decide) (fun c_204 => ?_) (fun c_204 => ?_)
      · skip
        exfalso; omega
      · skip
        refine xa_aload_n (pc := 207) dX6_numberShapes_207 rfl ?_
        refine xa_getfield (pc := 208) dX6_numberShapes_208 flRX6_37 (by omega) (by omega) hT0 rfl ?_
        refine xa_iload_n (pc := 211) dX6_numberShapes_211 rfl ?_
        refine xa_iconst (pc := 212) dX6_numberShapes_212 ?_
        refine xa_callV (pc := 213) (as := [xa_i 1, xa_i 0]) (rest := []) dX6_numberShapes_213 ⟨qX4_takePose.1, qX4_takePose.2.1, qX4_takePose.2.2, by decide, by decide⟩ lkRX6_74 imX4_takePose seX4_takePose rfl rfl (by omega) (by omega) hS0 rfl (Nat.le_of_ble_eq_true rfl) (Nat.zero_le _) (Nat.zero_le _) (c_takePose _ _ _ _ _ _ 1 0 1 rfl ⟨by decide, by decide⟩ (by omega) (by omega) hS0 hS1 hS2) (fun r h' hq => ?_)
        obtain ⟨rfl, hqA, hqn, hqf⟩ := hq
        have hS1 : h'.1 (k + 5 + 1) = xa_a 3 (xa_upf (xa_upf (xa_fl po 3 1) 0 0) 1 0) := hqA
        have hT0 : h'.1 k = xa_o 6 [xa_r kb, xa_r (k + 5), xa_i sj, xa_r (k + 1), xa_r (k + 2), xa_i (((kN 3 2 wa sr sj).toNat : Nat) : Int), xa_i fs, xa_i lst, xa_r kbr, xa_r kam] := (hqf _ (by omega)).trans hT0
        have hT1 : h'.1 (k + 1) = xa_a 2 pl := (hqf _ (by omega)).trans hT1
        have hT2 : h'.1 (k + 2) = xa_a 2 lw := (hqf _ (by omega)).trans hT2
        have hT3 : h'.1 kbr = xa_a nb br := (hqf _ (by omega)).trans hT3
        have hT4 : h'.1 kam = xa_a na (xa_fl am na 0) := (hqf _ (by omega)).trans hT4
        have hS0 : h'.1 (k + 5) = xa_o 4 [xa_r kb, xa_r (k + 5 + 1), xa_r (k + 5 + 2), xa_i tj, xa_i 0] := (hqf _ (by omega)).trans hS0
        have hS2 : h'.1 (k + 5 + 2) = xa_a 2 (xa_fl sp 2 0) := (hqf _ (by omega)).trans hS2
        have hB0 : h'.1 kb = xa_o 0 [xa_r (kb + 1), xa_r (kb + 2), xa_i 3, xa_i 2, xa_i wa, xa_i sr, xa_i pu, xa_i ri] := (hqf _ (by omega)).trans hB0
        have hB1 : h'.1 (kb + 1) = xa_a 9 ld := (hqf _ (by omega)).trans hB1
        have hB2 : h'.1 (kb + 2) = xa_a 2 dg := (hqf _ (by omega)).trans hB2
        have hn : h'.2 = h0.2 := hqn.trans hn
        have fr : ∀ i, ((i < k ∨ k + 8 ≤ i) ∧ i ≠ kbr ∧ i ≠ kam) → h'.1 i = h0.1 i := fun i hi => (hqf i (by omega)).trans (fr i hi)
        refine xa_iincw (pc := 216) (y := 2) [some (xa_r k), some (xa_i 27), some (xa_i 2), g3] dX6_numberShapes_216 (by decide) rfl rfl rfl rfl ?_
        refine xa_goto (pc := 219) (tgt := 196) dX6_numberShapes_219 (by decide) ?_
        refine xa_iload_n (pc := 196) dX6_numberShapes_196 rfl ?_
        refine xa_aload_n (pc := 197) dX6_numberShapes_197 rfl ?_
        refine xa_getfield (pc := 198) dX6_numberShapes_198 flRX6_24 (by omega) (by omega) hT0 rfl ?_
        refine xa_getfield (pc := 201) dX6_numberShapes_201 flRX6_41 (by omega) (by omega) hB0 rfl ?_
        refine xa_icmp_ge (pc := 204) (tgt := 222) dX6_numberShapes_204 (by decide) (by decide) (by decide) (fun c_204 => ?_) (fun c_204 => ?_)
        · skip
          exfalso; omega
        · skip
          refine xa_aload_n (pc := 207) dX6_numberShapes_207 rfl ?_
          refine xa_getfield (pc := 208) dX6_numberShapes_208 flRX6_37 (by omega) (by omega) hT0 rfl ?_
          refine xa_iload_n (pc := 211) dX6_numberShapes_211 rfl ?_
          refine xa_iconst (pc := 212) dX6_numberShapes_212 ?_
          refine xa_callV (pc := 213) (as := [xa_i 2, xa_i 0]) (rest := []) dX6_numberShapes_213 ⟨qX4_takePose.1, qX4_takePose.2.1, qX4_takePose.2.2, by decide, by decide⟩ lkRX6_74 imX4_takePose seX4_takePose rfl rfl (by omega) (by omega) hS0 rfl (Nat.le_of_ble_eq_true rfl) (Nat.zero_le _) (Nat.zero_le _) (c_takePose _ _ _ _ _ _ 2 0 2 rfl ⟨by decide, by decide⟩ (by omega) (by omega) hS0 hS1 hS2) (fun r h' hq => ?_)
          obtain ⟨rfl, hqA, hqn, hqf⟩ := hq
          have hS1 : h'.1 (k + 5 + 1) = xa_a 3 (xa_upf (xa_upf (xa_upf (xa_fl po 3 1) 0 0) 1 0) 2 0) := hqA
          have hT0 : h'.1 k = xa_o 6 [xa_r kb, xa_r (k + 5), xa_i sj, xa_r (k + 1), xa_r (k + 2), xa_i (((kN 3 2 wa sr sj).toNat : Nat) : Int), xa_i fs, xa_i lst, xa_r kbr, xa_r kam] := (hqf _ (by omega)).trans hT0
          have hT1 : h'.1 (k + 1) = xa_a 2 pl := (hqf _ (by omega)).trans hT1
          have hT2 : h'.1 (k + 2) = xa_a 2 lw := (hqf _ (by omega)).trans hT2
          have hT3 : h'.1 kbr = xa_a nb br := (hqf _ (by omega)).trans hT3
          have hT4 : h'.1 kam = xa_a na (xa_fl am na 0) := (hqf _ (by omega)).trans hT4
          have hS0 : h'.1 (k + 5) = xa_o 4 [xa_r kb, xa_r (k + 5 + 1), xa_r (k + 5 + 2), xa_i tj, xa_i 0] := (hqf _ (by omega)).trans hS0
          have hS2 : h'.1 (k + 5 + 2) = xa_a 2 (xa_fl sp 2 0) := (hqf _ (by omega)).trans hS2
          have hB0 : h'.1 kb = xa_o 0 [xa_r (kb + 1), xa_r (kb + 2), xa_i 3, xa_i 2, xa_i wa, xa_i sr, xa_i pu, xa_i ri] := (hqf _ (by omega)).trans hB0
          have hB1 : h'.1 (kb + 1) = xa_a 9 ld := (hqf _ (by omega)).trans hB1
          have hB2 : h'.1 (kb + 2) = xa_a 2 dg := (hqf _ (by omega)).trans hB2
          have hn : h'.2 = h0.2 := hqn.trans hn
          have fr : ∀ i, ((i < k ∨ k + 8 ≤ i) ∧ i ≠ kbr ∧ i ≠ kam) → h'.1 i = h0.1 i := fun i hi => (hqf i (by omega)).trans (fr i hi)
          refine xa_iincw (pc := 216) (y := 3) [some (xa_r k), some (xa_i 27), some (xa_i 3), g3] dX6_numberShapes_216 (by decide) rfl rfl rfl rfl ?_
          refine xa_goto (pc := 219) (tgt := 196) dX6_numberShapes_219 (by decide) ?_
          refine xa_iload_n (pc := 196) dX6_numberShapes_196 rfl ?_
          refine xa_aload_n (pc := 197) dX6_numberShapes_197 rfl ?_
          refine xa_getfield (pc := 198) dX6_numberShapes_198 flRX6_24 (by omega) (by omega) hT0 rfl ?_
          refine xa_getfield (pc := 201) dX6_numberShapes_201 flRX6_41 (by omega) (by omega) hB0 rfl ?_
          refine xa_icmp_ge (pc := 204) (tgt := 222) dX6_numberShapes_204 (by decide) (by decide) (by decide) (fun c_204 => ?_) (fun c_204 => ?_)
          · skip
            refine xa_aload_n (pc := 222) dX6_numberShapes_222 rfl ?_
            refine xa_aload_n (pc := 223) dX6_numberShapes_223 rfl ?_
            refine xa_callV (pc := 224) (as := []) (rest := [xa_r k]) dX6_numberShapes_224 ⟨qX6_numberNow.1, qX6_numberNow.2.1, qX6_numberNow.2.2, by decide, by decide⟩ lkRX6_78 imX6_numberNow seX6_numberNow rfl rfl (by omega) (by omega) hT0 rfl (Nat.le_of_ble_eq_true rfl) (Nat.zero_le _) (Nat.zero_le _) (c_numberNow3 _ _ _ _ _ _ _ _ _ _ _ (kN 3 2 wa sr sj).toNat _ _ _ _ _ _ _ _ _ _ _ _ _ (by omega) (by omega) (by omega) (by omega) (by omega) (by omega) (by omega) (by omega) hT0 hT1 hT2 hT3 hT4 hS0 hS1 hS2 hB0 hB1 hB2) (fun r h' hq => ?_)
            obtain ⟨rfl, hq⟩ := hq
            have hq := hq.symm
            subst hq
            refine xa_top (y := kF 3 2 wa sr sj) ?_ ?_
            · rw [kF_E]; exact (num_E (pa := 3) (jo := 2) (sr := sr) (wa := wa) (sj := sj) (pl := pl) (lw := lw) (po := xa_upf (xa_upf (xa_upf (xa_fl po 3 1) 0 0) 1 0) 2 0) (sp := xa_fl sp 2 0) (c := (0, 0, 0, 0, 0)) hP ⟨(xa_upf_ne _ _ (by decide)).trans ((xa_upf_ne _ _ (by decide)).trans (xa_upf_at _ _ _)), (xa_upf_ne _ _ (by decide)).trans (xa_upf_at _ _ _), fun _ => xa_upf_at _ _ _, xa_fl_lt _ _ (by decide), xa_fl_lt _ _ (by decide)⟩).2 (by decide)
            refine xa_putw (pc := 227) [xa_r kb, xa_r (k + 5), xa_i sj, xa_r (k + 1), xa_r (k + 2), xa_i (((kN 3 2 wa sr sj).toNat : Nat) : Int), xa_i (kF 3 2 wa sr sj), xa_i lst, xa_r kbr, xa_r kam] dX6_numberShapes_227 flRX6_82 plX6_6 (by omega) (by omega) hT0 trivial rfl (fun h1 nh1 ch1 oh1 => ?_)
            have hT0 : h1.1 k = xa_o 6 [xa_r kb, xa_r (k + 5), xa_i sj, xa_r (k + 1), xa_r (k + 2), xa_i (((kN 3 2 wa sr sj).toNat : Nat) : Int), xa_i (kF 3 2 wa sr sj), xa_i lst, xa_r kbr, xa_r kam] := ch1
            have hT1 : h1.1 (k + 1) = xa_a 2 pl := (oh1 _ (by omega)).trans hT1
            have hT2 : h1.1 (k + 2) = xa_a 2 lw := (oh1 _ (by omega)).trans hT2
            have hT3 : h1.1 kbr = xa_a nb br := (oh1 _ (by omega)).trans hT3
            have hT4 : h1.1 kam = xa_a na (xa_fl am na 0) := (oh1 _ (by omega)).trans hT4
            have hS0 : h1.1 (k + 5) = xa_o 4 [xa_r kb, xa_r (k + 5 + 1), xa_r (k + 5 + 2), xa_i tj, xa_i 0] := (oh1 _ (by omega)).trans hS0
            have hS1 : h1.1 (k + 5 + 1) = xa_a 3 (xa_upf (xa_upf (xa_upf (xa_fl po 3 1) 0 0) 1 0) 2 0) := (oh1 _ (by omega)).trans hS1
            have hS2 : h1.1 (k + 5 + 2) = xa_a 2 (xa_fl sp 2 0) := (oh1 _ (by omega)).trans hS2
            have hB0 : h1.1 kb = xa_o 0 [xa_r (kb + 1), xa_r (kb + 2), xa_i 3, xa_i 2, xa_i wa, xa_i sr, xa_i pu, xa_i ri] := (oh1 _ (by omega)).trans hB0
            have hB1 : h1.1 (kb + 1) = xa_a 9 ld := (oh1 _ (by omega)).trans hB1
            have hB2 : h1.1 (kb + 2) = xa_a 2 dg := (oh1 _ (by omega)).trans hB2
            have hn : h1.2 = h0.2 := nh1.trans hn
            have fr : ∀ i, ((i < k ∨ k + 8 ≤ i) ∧ i ≠ kbr ∧ i ≠ kam) → h1.1 i = h0.1 i := fun i hi => (oh1 i (by omega)).trans (fr i hi)
            refine xa_aload_n (pc := 230) dX6_numberShapes_230 rfl ?_
            refine xa_aload_n (pc := 231) dX6_numberShapes_231 rfl ?_
            refine xa_getfield (pc := 232) dX6_numberShapes_232 flRX6_82 (by omega) (by omega) hT0 rfl ?_
            refine xa_iload_n (pc := 235) dX6_numberShapes_235 rfl ?_
            refine xa_iadd (pc := 236) dX6_numberShapes_236 ?_
            refine xa_iconst (pc := 237) dX6_numberShapes_237 ?_
            refine xa_isub (pc := 238) dX6_numberShapes_238 ?_
            refine xa_putw (pc := 239) [xa_r kb, xa_r (k + 5), xa_i sj, xa_r (k + 1), xa_r (k + 2), xa_i (((kN 3 2 wa sr sj).toNat : Nat) : Int), xa_i (kF 3 2 wa sr sj), xa_i (((kF 3 2 wa sr sj) + 27) - 1), xa_r kbr, xa_r kam] dX6_numberShapes_239 flRX6_85 plX6_7 (by omega) (by omega) hT0 trivial rfl (fun h2 nh2 ch2 oh2 => ?_)
            have hT0 : h2.1 k = xa_o 6 [xa_r kb, xa_r (k + 5), xa_i sj, xa_r (k + 1), xa_r (k + 2), xa_i (((kN 3 2 wa sr sj).toNat : Nat) : Int), xa_i (kF 3 2 wa sr sj), xa_i (((kF 3 2 wa sr sj) + 27) - 1), xa_r kbr, xa_r kam] := ch2
            have hT1 : h2.1 (k + 1) = xa_a 2 pl := (oh2 _ (by omega)).trans hT1
            have hT2 : h2.1 (k + 2) = xa_a 2 lw := (oh2 _ (by omega)).trans hT2
            have hT3 : h2.1 kbr = xa_a nb br := (oh2 _ (by omega)).trans hT3
            have hT4 : h2.1 kam = xa_a na (xa_fl am na 0) := (oh2 _ (by omega)).trans hT4
            have hS0 : h2.1 (k + 5) = xa_o 4 [xa_r kb, xa_r (k + 5 + 1), xa_r (k + 5 + 2), xa_i tj, xa_i 0] := (oh2 _ (by omega)).trans hS0
            have hS1 : h2.1 (k + 5 + 1) = xa_a 3 (xa_upf (xa_upf (xa_upf (xa_fl po 3 1) 0 0) 1 0) 2 0) := (oh2 _ (by omega)).trans hS1
            have hS2 : h2.1 (k + 5 + 2) = xa_a 2 (xa_fl sp 2 0) := (oh2 _ (by omega)).trans hS2
            have hB0 : h2.1 kb = xa_o 0 [xa_r (kb + 1), xa_r (kb + 2), xa_i 3, xa_i 2, xa_i wa, xa_i sr, xa_i pu, xa_i ri] := (oh2 _ (by omega)).trans hB0
            have hB1 : h2.1 (kb + 1) = xa_a 9 ld := (oh2 _ (by omega)).trans hB1
            have hB2 : h2.1 (kb + 2) = xa_a 2 dg := (oh2 _ (by omega)).trans hB2
            have hn : h2.2 = h0.2 := nh2.trans hn
            have fr : ∀ i, ((i < k ∨ k + 8 ≤ i) ∧ i ≠ kbr ∧ i ≠ kam) → h2.1 i = h0.1 i := fun i hi => (oh2 i (by omega)).trans (fr i hi)
            refine xa_return (pc := 242) dX6_numberShapes_242 rfl ?_
            exact ⟨rfl, ⟨pl, lw, hP, hT0, hT1, hT2, hT3, hT4⟩, ⟨hS0, hS1, hS2, by omega, by omega⟩, hn, fr⟩
          · skip
            exfalso; omega
  · skip
    exfalso; omega
theorem c_numberShapesn3 {G : xa_G} {h : xa_H} (k kb kbr kam : Nat) (sj : Int) (pl lw br am : Nat → Int) (nb na : Nat) (ns fs lst : Int) (po sp : Nat → Int) (tj tb : Int) (ld dg : Nat → Int) (wa sr pu ri : Int) (hk : 2 ≤ k) (hkn : k + 7 < h.2) (hkb : 2 ≤ kb) (hkk : kb + 3 ≤ k) (hkbr : k + 8 ≤ kbr ∨ kbr = k + 3) (hkbr2 : kbr < h.2) (hkam : k + 8 ≤ kam ∨ kam = k + 4) (hkam2 : kam < h.2) (hkq : kbr ≠ kam) (hpl0 : ∀ i, 0 ≤ pl i ∧ pl i ≤ 12) (hsj : -1 ≤ sj ∧ sj ≤ 1) (hB9 : vB ld dg 3 2 wa sr pu ri) (hge : kN 3 2 wa sr sj ≤ (na : Int)) (hna : na ≤ 100000) (hT0 : h.1 k = xa_o 6 [xa_r kb, xa_r (k + 5), xa_i sj, xa_r (k + 1), xa_r (k + 2), xa_i ns, xa_i fs, xa_i lst, xa_r kbr, xa_r kam]) (hT1 : h.1 (k + 1) = xa_a 2 pl) (hT2 : h.1 (k + 2) = xa_a 2 lw) (hT3 : h.1 kbr = xa_a nb br) (hT4 : h.1 kam = xa_a na am) (hS0 : h.1 (k + 5) = xa_o 4 [xa_r kb, xa_r (k + 5 + 1), xa_r (k + 5 + 2), xa_i tj, xa_i tb]) (hS1 : h.1 (k + 5 + 1) = xa_a 3 po) (hS2 : h.1 (k + 5 + 2) = xa_a 2 sp) (hB0 : h.1 kb = xa_o 0 [xa_r (kb + 1), xa_r (kb + 2), xa_i 3, xa_i 2, xa_i wa, xa_i sr, xa_i pu, xa_i ri]) (hB1 : h.1 (kb + 1) = xa_a 9 ld) (hB2 : h.1 (kb + 2) = xa_a 2 dg) : xa_M G mX6_numberShapes [xa_r k] h 0 0 (fun r h' => r = none ∧ (∃ pl' lw' : Nat → Int, kP 2 wa sr sj pl' lw' ∧ h'.1 k = xa_o 6 [xa_r kb, xa_r (k + 5), xa_i sj, xa_r (k + 1), xa_r (k + 2), xa_i (((kN 3 2 wa sr sj).toNat : Nat) : Int), xa_i (kF 3 2 wa sr sj), xa_i (kF 3 2 wa sr sj + 27 - 1), xa_r kbr, xa_r kam] ∧ h'.1 (k + 1) = xa_a 2 pl' ∧ h'.1 (k + 2) = xa_a 2 lw' ∧ h'.1 kbr = xa_a nb br ∧ h'.1 kam = xa_a na (xa_fl am na 0)) ∧ xS h' (k + 5) kb (xa_upf (xa_upf (xa_upf (xa_fl po 3 1) 0 0) 1 0) 2 0) (xa_fl sp 2 0) tj 0 ∧ h'.2 = h.2 ∧ ∀ i, ((i < k ∨ k + 8 ≤ i) ∧ i ≠ kbr ∧ i ≠ kam) → h'.1 i = h.1 i) := by
  refine xa_enter (by decide +kernel) (Nat.le_of_ble_eq_true rfl) ?_
  refine xa_locals (ls' := [some (xa_r k), none, none, none]) rfl ?_
  have hn : h.2 = h.2 := rfl
  have fr : ∀ i, ((i < k ∨ k + 8 ≤ i) ∧ i ≠ kbr ∧ i ≠ kam) → h.1 i = h.1 i := fun _ _ => rfl
  have hkN := kN_b (sj := sj) hB9
  have hkF := kF_b (sj := sj) hB9
  have hw := hB9.wag
  refine xa_iconst (pc := 0) dX6_numberShapes_0 ?_
  refine xa_istoren (pc := 1) [some (xa_r k), some (xa_i 1), none, none] dX6_numberShapes_1 (by decide) (Nat.le_of_ble_eq_true rfl) rfl rfl ?_
  refine xa_iconst (pc := 2) dX6_numberShapes_2 ?_
  refine xa_istoren (pc := 3) [some (xa_r k), some (xa_i 1), some (xa_i 0), none] dX6_numberShapes_3 (by decide) (Nat.le_of_ble_eq_true rfl) rfl rfl ?_
  refine xa_iload_n (pc := 4) dX6_numberShapes_4 rfl ?_
  refine xa_aload_n (pc := 5) dX6_numberShapes_5 rfl ?_
  refine xa_getfield (pc := 6) dX6_numberShapes_6 flRX6_24 (by omega) (by omega) hT0 rfl ?_
  refine xa_getfield (pc := 9) dX6_numberShapes_9 flRX6_41 (by omega) (by omega) hB0 rfl ?_
  refine xa_icmp_ge (pc := 12) (tgt := 25) dX6_numberShapes_12 (by decide) (by decide) (by decide) (fun c_12 => ?_) (fun c_12 => ?_)
  · skip
    exfalso; omega
  · skip
    refine xa_iload_n (pc := 15) dX6_numberShapes_15 rfl ?_
    refine xa_iconst (pc := 16) dX6_numberShapes_16 ?_
    refine xa_imul (pc := 17) dX6_numberShapes_17 ?_
    refine xa_top (y := 3) (by decide) ?_
    refine xa_istoren (pc := 18) [some (xa_r k), some (xa_i 3), some (xa_i 0), none] dX6_numberShapes_18 (by decide) (Nat.le_of_ble_eq_true rfl) rfl rfl ?_
    refine xa_iincw (pc := 19) (y := 1) [some (xa_r k), some (xa_i 3), some (xa_i 1), none] dX6_numberShapes_19 (by decide) rfl rfl rfl rfl ?_
    refine xa_goto (pc := 22) (tgt := 4) dX6_numberShapes_22 (by decide) ?_
    refine xa_iload_n (pc := 4) dX6_numberShapes_4 rfl ?_
    refine xa_aload_n (pc := 5) dX6_numberShapes_5 rfl ?_
    refine xa_getfield (pc := 6) dX6_numberShapes_6 flRX6_24 (by omega) (by omega) hT0 rfl ?_
    refine xa_getfield (pc := 9) dX6_numberShapes_9 flRX6_41 (by omega) (by omega) hB0 rfl ?_
    refine xa_icmp_ge (pc := 12) (tgt := 25) dX6_numberShapes_12 (by decide) (by decide) (by decide) (fun c_12 => ?_) (fun c_12 => ?_)
    · skip
      exfalso; omega
    · skip
      refine xa_iload_n (pc := 15) dX6_numberShapes_15 rfl ?_
      refine xa_iconst (pc := 16) dX6_numberShapes_16 ?_
      refine xa_imul (pc := 17) dX6_numberShapes_17 ?_
      refine xa_top (y := 9) (by decide) ?_
      refine xa_istoren (pc := 18) [some (xa_r k), some (xa_i 9), some (xa_i 1), none] dX6_numberShapes_18 (by decide) (Nat.le_of_ble_eq_true rfl) rfl rfl ?_
      refine xa_iincw (pc := 19) (y := 2) [some (xa_r k), some (xa_i 9), some (xa_i 2), none] dX6_numberShapes_19 (by decide) rfl rfl rfl rfl ?_
      refine xa_goto (pc := 22) (tgt := 4) dX6_numberShapes_22 (by decide) ?_
      refine xa_iload_n (pc := 4) dX6_numberShapes_4 rfl ?_
      refine xa_aload_n (pc := 5) dX6_numberShapes_5 rfl ?_
      refine xa_getfield (pc := 6) dX6_numberShapes_6 flRX6_24 (by omega) (by omega) hT0 rfl ?_
      refine xa_getfield (pc := 9) dX6_numberShapes_9 flRX6_41 (by omega) (by omega) hB0 rfl ?_
      refine xa_icmp_ge (pc := 12) (tgt := 25) dX6_numberShapes_12 (by decide) (by decide) (by decide) (fun c_12 => ?_) (fun c_12 => ?_)
      · skip
        exfalso; omega
      · skip
        refine xa_iload_n (pc := 15) dX6_numberShapes_15 rfl ?_
        refine xa_iconst (pc := 16) dX6_numberShapes_16 ?_
        refine xa_imul (pc := 17) dX6_numberShapes_17 ?_
        refine xa_top (y := 27) (by decide) ?_
        refine xa_istoren (pc := 18) [some (xa_r k), some (xa_i 27), some (xa_i 2), none] dX6_numberShapes_18 (by decide) (Nat.le_of_ble_eq_true rfl) rfl rfl ?_
        refine xa_iincw (pc := 19) (y := 3) [some (xa_r k), some (xa_i 27), some (xa_i 3), none] dX6_numberShapes_19 (by decide) rfl rfl rfl rfl ?_
        refine xa_goto (pc := 22) (tgt := 4) dX6_numberShapes_22 (by decide) ?_
        refine xa_iload_n (pc := 4) dX6_numberShapes_4 rfl ?_
        refine xa_aload_n (pc := 5) dX6_numberShapes_5 rfl ?_
        refine xa_getfield (pc := 6) dX6_numberShapes_6 flRX6_24 (by omega) (by omega) hT0 rfl ?_
        refine xa_getfield (pc := 9) dX6_numberShapes_9 flRX6_41 (by omega) (by omega) hB0 rfl ?_
        refine xa_icmp_ge (pc := 12) (tgt := 25) dX6_numberShapes_12 (by decide) (by decide) (by decide) (fun c_12 => ?_) (fun c_12 => ?_)
        · skip
          refine xa_aload_n (pc := 25) dX6_numberShapes_25 rfl ?_
          refine xa_iload_n (pc := 26) dX6_numberShapes_26 rfl ?_
          refine xa_putw (pc := 27) [xa_r kb, xa_r (k + 5), xa_i sj, xa_r (k + 1), xa_r (k + 2), xa_i 27, xa_i fs, xa_i lst, xa_r kbr, xa_r kam] dX6_numberShapes_27 flRX6_46 plX6_5 (by omega) (by omega) hT0 trivial rfl (fun h1 nh1 ch1 oh1 => ?_)
          have hT0 : h1.1 k = xa_o 6 [xa_r kb, xa_r (k + 5), xa_i sj, xa_r (k + 1), xa_r (k + 2), xa_i 27, xa_i fs, xa_i lst, xa_r kbr, xa_r kam] := ch1
          have hT1 : h1.1 (k + 1) = xa_a 2 pl := (oh1 _ (by omega)).trans hT1
          have hT2 : h1.1 (k + 2) = xa_a 2 lw := (oh1 _ (by omega)).trans hT2
          have hT3 : h1.1 kbr = xa_a nb br := (oh1 _ (by omega)).trans hT3
          have hT4 : h1.1 kam = xa_a na am := (oh1 _ (by omega)).trans hT4
          have hS0 : h1.1 (k + 5) = xa_o 4 [xa_r kb, xa_r (k + 5 + 1), xa_r (k + 5 + 2), xa_i tj, xa_i tb] := (oh1 _ (by omega)).trans hS0
          have hS1 : h1.1 (k + 5 + 1) = xa_a 3 po := (oh1 _ (by omega)).trans hS1
          have hS2 : h1.1 (k + 5 + 2) = xa_a 2 sp := (oh1 _ (by omega)).trans hS2
          have hB0 : h1.1 kb = xa_o 0 [xa_r (kb + 1), xa_r (kb + 2), xa_i 3, xa_i 2, xa_i wa, xa_i sr, xa_i pu, xa_i ri] := (oh1 _ (by omega)).trans hB0
          have hB1 : h1.1 (kb + 1) = xa_a 9 ld := (oh1 _ (by omega)).trans hB1
          have hB2 : h1.1 (kb + 2) = xa_a 2 dg := (oh1 _ (by omega)).trans hB2
          have hn : h1.2 = h.2 := nh1.trans hn
          have fr : ∀ i, ((i < k ∨ k + 8 ≤ i) ∧ i ≠ kbr ∧ i ≠ kam) → h1.1 i = h.1 i := fun i hi => (oh1 i (by omega)).trans (fr i hi)
          refine xa_iconst (pc := 30) dX6_numberShapes_30 ?_
          refine xa_istoren (pc := 31) [some (xa_r k), some (xa_i 27), some (xa_i 0), none] dX6_numberShapes_31 (by decide) (Nat.le_of_ble_eq_true rfl) rfl rfl ?_
          refine xa_iload_n (pc := 32) dX6_numberShapes_32 rfl ?_
          refine xa_aload_n (pc := 33) dX6_numberShapes_33 rfl ?_
          refine xa_getfield (pc := 34) dX6_numberShapes_34 flRX6_9 (by omega) (by omega) hT0 rfl ?_
          refine xa_alen (pc := 37) dX6_numberShapes_37 (by omega) hT1 ?_
          refine xa_top (y := 2) rfl ?_
          refine xa_icmp_ge (pc := 38) (tgt := 144) dX6_numberShapes_38 (by decide) (by decide) (by decide) (fun c_38 => ?_) (fun c_38 => ?_)
          · skip
            exfalso; omega
          · skip
            refine xa_iload_n (pc := 41) dX6_numberShapes_41 rfl ?_
            refine xa_aload_n (pc := 42) dX6_numberShapes_42 rfl ?_
            refine xa_getfield (pc := 43) dX6_numberShapes_43 flRX6_15 (by omega) (by omega) hT0 rfl ?_
            refine xa_alen (pc := 46) dX6_numberShapes_46 (by omega) hT2 ?_
            refine xa_top (y := 2) rfl ?_
            refine xa_icmp_ge (pc := 47) (tgt := 144) dX6_numberShapes_47 (by decide) (by decide) (by decide) (fun c_47 => ?_) (fun c_47 => ?_)
            · skip
              exfalso; omega
            · skip
              refine xa_iload_n (pc := 50) dX6_numberShapes_50 rfl ?_
              refine xa_aload_n (pc := 51) dX6_numberShapes_51 rfl ?_
              refine xa_getfield (pc := 52) dX6_numberShapes_52 flRX6_24 (by omega) (by omega) hT0 rfl ?_
              refine xa_getfield (pc := 55) dX6_numberShapes_55 flRX6_49 (by omega) (by omega) hB0 rfl ?_
              refine xa_icmp_ge (pc := 58) (tgt := 73) dX6_numberShapes_58 (by decide) (by decide) (by decide) (fun c_58 => ?_) (fun c_58 => ?_)
              · skip
                exfalso; omega
              · skip
                refine xa_iload_n (pc := 61) dX6_numberShapes_61 rfl ?_
                refine xa_aload_n (pc := 62) dX6_numberShapes_62 rfl ?_
                refine xa_getfield (pc := 63) dX6_numberShapes_63 flRX6_28 (by omega) (by omega) hT0 rfl ?_
                refine xa_icmp_eq (pc := 66) (tgt := 73) dX6_numberShapes_66 (by decide) (by decide) ⟨by omega, by omega⟩ (fun c_66 => ?_) (fun c_66 => ?_)
                · skip
                  refine xa_iconst (pc := 73) dX6_numberShapes_73 ?_
                  refine xa_istoren (pc := 74) [some (xa_r k), some (xa_i 27), some (xa_i 0), some (xa_i 0)] dX6_numberShapes_74 (by decide) (Nat.le_of_ble_eq_true rfl) rfl rfl ?_
                  refine xa_aload_n (pc := 75) dX6_numberShapes_75 rfl ?_
                  refine xa_getfield (pc := 76) dX6_numberShapes_76 flRX6_9 (by omega) (by omega) hT0 rfl ?_
                  refine xa_iload_n (pc := 79) dX6_numberShapes_79 rfl ?_
                  refine xa_iload_n (pc := 80) dX6_numberShapes_80 rfl ?_
                  refine xa_if_eq (pc := 81) (tgt := 99) dX6_numberShapes_81 (by decide) (by decide) (fun c_81 => ?_) (fun c_81 => ?_)
                  · skip
                    refine xa_iconst (pc := 99) dX6_numberShapes_99 ?_
                    refine xa_top (y := tp 2 wa sr sj 0) (by first | exact tp_y hB9 (j := 0) (by decide) (fun z => by omega) | exact tp_n (j := 0) (Or.inr (by omega)) | exact tp_n (j := 0) (Or.inl (by decide))) ?_
                    refine xa_iastw (pc := 100) 0 dX6_numberShapes_100 (by omega) (by omega) hT1 (by omega) (by omega) rfl (fun h2 nh2 ch2 oh2 => ?_)
                    have hT1 : h2.1 (k + 1) = xa_a 2 (xa_upf pl 0 (tp 2 wa sr sj 0)) := ch2
                    have hT0 : h2.1 k = xa_o 6 [xa_r kb, xa_r (k + 5), xa_i sj, xa_r (k + 1), xa_r (k + 2), xa_i 27, xa_i fs, xa_i lst, xa_r kbr, xa_r kam] := (oh2 _ (by omega)).trans hT0
                    have hT2 : h2.1 (k + 2) = xa_a 2 lw := (oh2 _ (by omega)).trans hT2
                    have hT3 : h2.1 kbr = xa_a nb br := (oh2 _ (by omega)).trans hT3
                    have hT4 : h2.1 kam = xa_a na am := (oh2 _ (by omega)).trans hT4
                    have hS0 : h2.1 (k + 5) = xa_o 4 [xa_r kb, xa_r (k + 5 + 1), xa_r (k + 5 + 2), xa_i tj, xa_i tb] := (oh2 _ (by omega)).trans hS0
                    have hS1 : h2.1 (k + 5 + 1) = xa_a 3 po := (oh2 _ (by omega)).trans hS1
                    have hS2 : h2.1 (k + 5 + 2) = xa_a 2 sp := (oh2 _ (by omega)).trans hS2
                    have hB0 : h2.1 kb = xa_o 0 [xa_r (kb + 1), xa_r (kb + 2), xa_i 3, xa_i 2, xa_i wa, xa_i sr, xa_i pu, xa_i ri] := (oh2 _ (by omega)).trans hB0
                    have hB1 : h2.1 (kb + 1) = xa_a 9 ld := (oh2 _ (by omega)).trans hB1
                    have hB2 : h2.1 (kb + 2) = xa_a 2 dg := (oh2 _ (by omega)).trans hB2
                    have hn : h2.2 = h.2 := nh2.trans hn
                    have fr : ∀ i, ((i < k ∨ k + 8 ≤ i) ∧ i ≠ kbr ∧ i ≠ kam) → h2.1 i = h.1 i := fun i hi => (oh2 i (by omega)).trans (fr i hi)
                    refine xa_aload_n (pc := 101) dX6_numberShapes_101 rfl ?_
                    refine xa_getfield (pc := 102) dX6_numberShapes_102 flRX6_15 (by omega) (by omega) hT0 rfl ?_
                    refine xa_iload_n (pc := 105) dX6_numberShapes_105 rfl ?_
                    refine xa_iload_n (pc := 106) dX6_numberShapes_106 rfl ?_
                    refine xa_if_eq (pc := 107) (tgt := 121) dX6_numberShapes_107 (by decide) (by decide) (fun c_107 => ?_) (fun c_107 => ?_)
                    · skip
                      refine xa_iconst (pc := 121) dX6_numberShapes_121 ?_
                      refine xa_top (y := -tz 2 wa sj 0) (by first | exact tz_y (j := 0) (by decide) (fun z => by omega) | exact tz_n (j := 0) (Or.inr (by omega)) | exact tz_n (j := 0) (Or.inl (by decide))) ?_
                      refine xa_iastw (pc := 122) 0 dX6_numberShapes_122 (by omega) (by omega) hT2 (by omega) (by omega) rfl (fun h3 nh3 ch3 oh3 => ?_)
                      have hT2 : h3.1 (k + 2) = xa_a 2 (xa_upf lw 0 (-tz 2 wa sj 0)) := ch3
                      have hT0 : h3.1 k = xa_o 6 [xa_r kb, xa_r (k + 5), xa_i sj, xa_r (k + 1), xa_r (k + 2), xa_i 27, xa_i fs, xa_i lst, xa_r kbr, xa_r kam] := (oh3 _ (by omega)).trans hT0
                      have hT1 : h3.1 (k + 1) = xa_a 2 (xa_upf pl 0 (tp 2 wa sr sj 0)) := (oh3 _ (by omega)).trans hT1
                      have hT3 : h3.1 kbr = xa_a nb br := (oh3 _ (by omega)).trans hT3
                      have hT4 : h3.1 kam = xa_a na am := (oh3 _ (by omega)).trans hT4
                      have hS0 : h3.1 (k + 5) = xa_o 4 [xa_r kb, xa_r (k + 5 + 1), xa_r (k + 5 + 2), xa_i tj, xa_i tb] := (oh3 _ (by omega)).trans hS0
                      have hS1 : h3.1 (k + 5 + 1) = xa_a 3 po := (oh3 _ (by omega)).trans hS1
                      have hS2 : h3.1 (k + 5 + 2) = xa_a 2 sp := (oh3 _ (by omega)).trans hS2
                      have hB0 : h3.1 kb = xa_o 0 [xa_r (kb + 1), xa_r (kb + 2), xa_i 3, xa_i 2, xa_i wa, xa_i sr, xa_i pu, xa_i ri] := (oh3 _ (by omega)).trans hB0
                      have hB1 : h3.1 (kb + 1) = xa_a 9 ld := (oh3 _ (by omega)).trans hB1
                      have hB2 : h3.1 (kb + 2) = xa_a 2 dg := (oh3 _ (by omega)).trans hB2
                      have hn : h3.2 = h.2 := nh3.trans hn
                      have fr : ∀ i, ((i < k ∨ k + 8 ≤ i) ∧ i ≠ kbr ∧ i ≠ kam) → h3.1 i = h.1 i := fun i hi => (oh3 i (by omega)).trans (fr i hi)
                      refine xa_aload_n (pc := 123) dX6_numberShapes_123 rfl ?_
                      refine xa_dup (pc := 124) dX6_numberShapes_124 rfl ?_
                      refine xa_getfield (pc := 125) dX6_numberShapes_125 flRX6_46 (by omega) (by omega) hT0 rfl ?_
                      refine xa_aload_n (pc := 128) dX6_numberShapes_128 rfl ?_
                      refine xa_getfield (pc := 129) dX6_numberShapes_129 flRX6_9 (by omega) (by omega) hT0 rfl ?_
                      refine xa_iload_n (pc := 132) dX6_numberShapes_132 rfl ?_
                      refine xa_ialdw (pc := 133) 0 dX6_numberShapes_133 (by omega) hT1 (by omega) (by omega) rfl ?_
                      refine xa_top (y := tp 2 wa sr sj 0) (xa_upf_at _ _ _) ?_
                      refine xa_imul (pc := 134) dX6_numberShapes_134 ?_
                      refine xa_putw (pc := 135) [xa_r kb, xa_r (k + 5), xa_i sj, xa_r (k + 1), xa_r (k + 2), xa_i (27 * (tp 2 wa sr sj 0)), xa_i fs, xa_i lst, xa_r kbr, xa_r kam] dX6_numberShapes_135 flRX6_46 plX6_5 (by omega) (by omega) hT0 trivial rfl (fun h4 nh4 ch4 oh4 => ?_)
                      have hT0 : h4.1 k = xa_o 6 [xa_r kb, xa_r (k + 5), xa_i sj, xa_r (k + 1), xa_r (k + 2), xa_i (27 * (tp 2 wa sr sj 0)), xa_i fs, xa_i lst, xa_r kbr, xa_r kam] := ch4
                      have hT1 : h4.1 (k + 1) = xa_a 2 (xa_upf pl 0 (tp 2 wa sr sj 0)) := (oh4 _ (by omega)).trans hT1
                      have hT2 : h4.1 (k + 2) = xa_a 2 (xa_upf lw 0 (-tz 2 wa sj 0)) := (oh4 _ (by omega)).trans hT2
                      have hT3 : h4.1 kbr = xa_a nb br := (oh4 _ (by omega)).trans hT3
                      have hT4 : h4.1 kam = xa_a na am := (oh4 _ (by omega)).trans hT4
                      have hS0 : h4.1 (k + 5) = xa_o 4 [xa_r kb, xa_r (k + 5 + 1), xa_r (k + 5 + 2), xa_i tj, xa_i tb] := (oh4 _ (by omega)).trans hS0
                      have hS1 : h4.1 (k + 5 + 1) = xa_a 3 po := (oh4 _ (by omega)).trans hS1
                      have hS2 : h4.1 (k + 5 + 2) = xa_a 2 sp := (oh4 _ (by omega)).trans hS2
                      have hB0 : h4.1 kb = xa_o 0 [xa_r (kb + 1), xa_r (kb + 2), xa_i 3, xa_i 2, xa_i wa, xa_i sr, xa_i pu, xa_i ri] := (oh4 _ (by omega)).trans hB0
                      have hB1 : h4.1 (kb + 1) = xa_a 9 ld := (oh4 _ (by omega)).trans hB1
                      have hB2 : h4.1 (kb + 2) = xa_a 2 dg := (oh4 _ (by omega)).trans hB2
                      have hn : h4.2 = h.2 := nh4.trans hn
                      have fr : ∀ i, ((i < k ∨ k + 8 ≤ i) ∧ i ≠ kbr ∧ i ≠ kam) → h4.1 i = h.1 i := fun i hi => (oh4 i (by omega)).trans (fr i hi)
                      refine xa_iincw (pc := 138) (y := 1) [some (xa_r k), some (xa_i 27), some (xa_i 1), some (xa_i 0)] dX6_numberShapes_138 (by decide) rfl rfl rfl rfl ?_
                      refine xa_goto (pc := 141) (tgt := 32) dX6_numberShapes_141 (by decide) ?_
                      refine xa_iload_n (pc := 32) dX6_numberShapes_32 rfl ?_
                      refine xa_aload_n (pc := 33) dX6_numberShapes_33 rfl ?_
                      refine xa_getfield (pc := 34) dX6_numberShapes_34 flRX6_9 (by omega) (by omega) hT0 rfl ?_
                      refine xa_alen (pc := 37) dX6_numberShapes_37 (by omega) hT1 ?_
                      refine xa_top (y := 2) rfl ?_
                      refine xa_icmp_ge (pc := 38) (tgt := 144) dX6_numberShapes_38 (by decide) (by decide) (by decide) (fun c_38 => ?_) (fun c_38 => ?_)
                      · skip
                        exfalso; omega
                      · skip
                        refine xa_iload_n (pc := 41) dX6_numberShapes_41 rfl ?_
                        refine xa_aload_n (pc := 42) dX6_numberShapes_42 rfl ?_
                        refine xa_getfield (pc := 43) dX6_numberShapes_43 flRX6_15 (by omega) (by omega) hT0 rfl ?_
                        refine xa_alen (pc := 46) dX6_numberShapes_46 (by omega) hT2 ?_
                        refine xa_top (y := 2) rfl ?_
                        refine xa_icmp_ge (pc := 47) (tgt := 144) dX6_numberShapes_47 (by decide) (by decide) (by decide) (fun c_47 => ?_) (fun c_47 => ?_)
                        · skip
                          exfalso; omega
                        · skip
                          refine xa_iload_n (pc := 50) dX6_numberShapes_50 rfl ?_
                          refine xa_aload_n (pc := 51) dX6_numberShapes_51 rfl ?_
                          refine xa_getfield (pc := 52) dX6_numberShapes_52 flRX6_24 (by omega) (by omega) hT0 rfl ?_
                          refine xa_getfield (pc := 55) dX6_numberShapes_55 flRX6_49 (by omega) (by omega) hB0 rfl ?_
                          refine xa_icmp_ge (pc := 58) (tgt := 73) dX6_numberShapes_58 (by decide) (by decide) (by decide) (fun c_58 => ?_) (fun c_58 => ?_)
                          · skip
                            exfalso; omega
                          · skip
                            refine xa_iload_n (pc := 61) dX6_numberShapes_61 rfl ?_
                            refine xa_aload_n (pc := 62) dX6_numberShapes_62 rfl ?_
                            refine xa_getfield (pc := 63) dX6_numberShapes_63 flRX6_28 (by omega) (by omega) hT0 rfl ?_
                            refine xa_icmp_eq (pc := 66) (tgt := 73) dX6_numberShapes_66 (by decide) (by decide) ⟨by omega, by omega⟩ (fun c_66 => ?_) (fun c_66 => ?_)
                            · skip
                              refine xa_iconst (pc := 73) dX6_numberShapes_73 ?_
                              refine xa_istoren (pc := 74) [some (xa_r k), some (xa_i 27), some (xa_i 1), some (xa_i 0)] dX6_numberShapes_74 (by decide) (Nat.le_of_ble_eq_true rfl) rfl rfl ?_
                              refine xa_aload_n (pc := 75) dX6_numberShapes_75 rfl ?_
                              refine xa_getfield (pc := 76) dX6_numberShapes_76 flRX6_9 (by omega) (by omega) hT0 rfl ?_
                              refine xa_iload_n (pc := 79) dX6_numberShapes_79 rfl ?_
                              refine xa_iload_n (pc := 80) dX6_numberShapes_80 rfl ?_
                              refine xa_if_eq (pc := 81) (tgt := 99) dX6_numberShapes_81 (by decide) (by decide) (fun c_81 => ?_) (fun c_81 => ?_)
                              · skip
                                refine xa_iconst (pc := 99) dX6_numberShapes_99 ?_
                                refine xa_top (y := tp 2 wa sr sj 1) (by first | exact tp_y hB9 (j := 1) (by decide) (fun z => by omega) | exact tp_n (j := 1) (Or.inr (by omega)) | exact tp_n (j := 1) (Or.inl (by decide))) ?_
                                refine xa_iastw (pc := 100) 1 dX6_numberShapes_100 (by omega) (by omega) hT1 (by omega) (by omega) rfl (fun h5 nh5 ch5 oh5 => ?_)
                                have hT1 : h5.1 (k + 1) = xa_a 2 (xa_upf (xa_upf pl 0 (tp 2 wa sr sj 0)) 1 (tp 2 wa sr sj 1)) := ch5
                                have hT0 : h5.1 k = xa_o 6 [xa_r kb, xa_r (k + 5), xa_i sj, xa_r (k + 1), xa_r (k + 2), xa_i (27 * (tp 2 wa sr sj 0)), xa_i fs, xa_i lst, xa_r kbr, xa_r kam] := (oh5 _ (by omega)).trans hT0
                                have hT2 : h5.1 (k + 2) = xa_a 2 (xa_upf lw 0 (-tz 2 wa sj 0)) := (oh5 _ (by omega)).trans hT2
                                have hT3 : h5.1 kbr = xa_a nb br := (oh5 _ (by omega)).trans hT3
                                have hT4 : h5.1 kam = xa_a na am := (oh5 _ (by omega)).trans hT4
                                have hS0 : h5.1 (k + 5) = xa_o 4 [xa_r kb, xa_r (k + 5 + 1), xa_r (k + 5 + 2), xa_i tj, xa_i tb] := (oh5 _ (by omega)).trans hS0
                                have hS1 : h5.1 (k + 5 + 1) = xa_a 3 po := (oh5 _ (by omega)).trans hS1
                                have hS2 : h5.1 (k + 5 + 2) = xa_a 2 sp := (oh5 _ (by omega)).trans hS2
                                have hB0 : h5.1 kb = xa_o 0 [xa_r (kb + 1), xa_r (kb + 2), xa_i 3, xa_i 2, xa_i wa, xa_i sr, xa_i pu, xa_i ri] := (oh5 _ (by omega)).trans hB0
                                have hB1 : h5.1 (kb + 1) = xa_a 9 ld := (oh5 _ (by omega)).trans hB1
                                have hB2 : h5.1 (kb + 2) = xa_a 2 dg := (oh5 _ (by omega)).trans hB2
                                have hn : h5.2 = h.2 := nh5.trans hn
                                have fr : ∀ i, ((i < k ∨ k + 8 ≤ i) ∧ i ≠ kbr ∧ i ≠ kam) → h5.1 i = h.1 i := fun i hi => (oh5 i (by omega)).trans (fr i hi)
                                refine xa_aload_n (pc := 101) dX6_numberShapes_101 rfl ?_
                                refine xa_getfield (pc := 102) dX6_numberShapes_102 flRX6_15 (by omega) (by omega) hT0 rfl ?_
                                refine xa_iload_n (pc := 105) dX6_numberShapes_105 rfl ?_
                                refine xa_iload_n (pc := 106) dX6_numberShapes_106 rfl ?_
                                refine xa_if_eq (pc := 107) (tgt := 121) dX6_numberShapes_107 (by decide) (by decide) (fun c_107 => ?_) (fun c_107 => ?_)
                                · skip
                                  refine xa_iconst (pc := 121) dX6_numberShapes_121 ?_
                                  refine xa_top (y := -tz 2 wa sj 1) (by first | exact tz_y (j := 1) (by decide) (fun z => by omega) | exact tz_n (j := 1) (Or.inr (by omega)) | exact tz_n (j := 1) (Or.inl (by decide))) ?_
                                  refine xa_iastw (pc := 122) 1 dX6_numberShapes_122 (by omega) (by omega) hT2 (by omega) (by omega) rfl (fun h6 nh6 ch6 oh6 => ?_)
                                  have hT2 : h6.1 (k + 2) = xa_a 2 (xa_upf (xa_upf lw 0 (-tz 2 wa sj 0)) 1 (-tz 2 wa sj 1)) := ch6
                                  have hT0 : h6.1 k = xa_o 6 [xa_r kb, xa_r (k + 5), xa_i sj, xa_r (k + 1), xa_r (k + 2), xa_i (27 * (tp 2 wa sr sj 0)), xa_i fs, xa_i lst, xa_r kbr, xa_r kam] := (oh6 _ (by omega)).trans hT0
                                  have hT1 : h6.1 (k + 1) = xa_a 2 (xa_upf (xa_upf pl 0 (tp 2 wa sr sj 0)) 1 (tp 2 wa sr sj 1)) := (oh6 _ (by omega)).trans hT1
                                  have hT3 : h6.1 kbr = xa_a nb br := (oh6 _ (by omega)).trans hT3
                                  have hT4 : h6.1 kam = xa_a na am := (oh6 _ (by omega)).trans hT4
                                  have hS0 : h6.1 (k + 5) = xa_o 4 [xa_r kb, xa_r (k + 5 + 1), xa_r (k + 5 + 2), xa_i tj, xa_i tb] := (oh6 _ (by omega)).trans hS0
                                  have hS1 : h6.1 (k + 5 + 1) = xa_a 3 po := (oh6 _ (by omega)).trans hS1
                                  have hS2 : h6.1 (k + 5 + 2) = xa_a 2 sp := (oh6 _ (by omega)).trans hS2
                                  have hB0 : h6.1 kb = xa_o 0 [xa_r (kb + 1), xa_r (kb + 2), xa_i 3, xa_i 2, xa_i wa, xa_i sr, xa_i pu, xa_i ri] := (oh6 _ (by omega)).trans hB0
                                  have hB1 : h6.1 (kb + 1) = xa_a 9 ld := (oh6 _ (by omega)).trans hB1
                                  have hB2 : h6.1 (kb + 2) = xa_a 2 dg := (oh6 _ (by omega)).trans hB2
                                  have hn : h6.2 = h.2 := nh6.trans hn
                                  have fr : ∀ i, ((i < k ∨ k + 8 ≤ i) ∧ i ≠ kbr ∧ i ≠ kam) → h6.1 i = h.1 i := fun i hi => (oh6 i (by omega)).trans (fr i hi)
                                  refine xa_aload_n (pc := 123) dX6_numberShapes_123 rfl ?_
                                  refine xa_dup (pc := 124) dX6_numberShapes_124 rfl ?_
                                  refine xa_getfield (pc := 125) dX6_numberShapes_125 flRX6_46 (by omega) (by omega) hT0 rfl ?_
                                  refine xa_aload_n (pc := 128) dX6_numberShapes_128 rfl ?_
                                  refine xa_getfield (pc := 129) dX6_numberShapes_129 flRX6_9 (by omega) (by omega) hT0 rfl ?_
                                  refine xa_iload_n (pc := 132) dX6_numberShapes_132 rfl ?_
                                  refine xa_ialdw (pc := 133) 1 dX6_numberShapes_133 (by omega) hT1 (by omega) (by omega) rfl ?_
                                  refine xa_top (y := tp 2 wa sr sj 1) (xa_upf_at _ _ _) ?_
                                  refine xa_imul (pc := 134) dX6_numberShapes_134 ?_
                                  refine xa_top (y := (((kN 3 2 wa sr sj).toNat : Nat) : Int)) (by rw [Int.toNat_of_nonneg (by omega)]; unfold kN; rw [if_pos (by decide)]) ?_
                                  refine xa_putw (pc := 135) [xa_r kb, xa_r (k + 5), xa_i sj, xa_r (k + 1), xa_r (k + 2), xa_i (((kN 3 2 wa sr sj).toNat : Nat) : Int), xa_i fs, xa_i lst, xa_r kbr, xa_r kam] dX6_numberShapes_135 flRX6_46 plX6_5 (by omega) (by omega) hT0 trivial rfl (fun h7 nh7 ch7 oh7 => ?_)
                                  have hT0 : h7.1 k = xa_o 6 [xa_r kb, xa_r (k + 5), xa_i sj, xa_r (k + 1), xa_r (k + 2), xa_i (((kN 3 2 wa sr sj).toNat : Nat) : Int), xa_i fs, xa_i lst, xa_r kbr, xa_r kam] := ch7
                                  have hT1 : h7.1 (k + 1) = xa_a 2 (xa_upf (xa_upf pl 0 (tp 2 wa sr sj 0)) 1 (tp 2 wa sr sj 1)) := (oh7 _ (by omega)).trans hT1
                                  have hT2 : h7.1 (k + 2) = xa_a 2 (xa_upf (xa_upf lw 0 (-tz 2 wa sj 0)) 1 (-tz 2 wa sj 1)) := (oh7 _ (by omega)).trans hT2
                                  have hT3 : h7.1 kbr = xa_a nb br := (oh7 _ (by omega)).trans hT3
                                  have hT4 : h7.1 kam = xa_a na am := (oh7 _ (by omega)).trans hT4
                                  have hS0 : h7.1 (k + 5) = xa_o 4 [xa_r kb, xa_r (k + 5 + 1), xa_r (k + 5 + 2), xa_i tj, xa_i tb] := (oh7 _ (by omega)).trans hS0
                                  have hS1 : h7.1 (k + 5 + 1) = xa_a 3 po := (oh7 _ (by omega)).trans hS1
                                  have hS2 : h7.1 (k + 5 + 2) = xa_a 2 sp := (oh7 _ (by omega)).trans hS2
                                  have hB0 : h7.1 kb = xa_o 0 [xa_r (kb + 1), xa_r (kb + 2), xa_i 3, xa_i 2, xa_i wa, xa_i sr, xa_i pu, xa_i ri] := (oh7 _ (by omega)).trans hB0
                                  have hB1 : h7.1 (kb + 1) = xa_a 9 ld := (oh7 _ (by omega)).trans hB1
                                  have hB2 : h7.1 (kb + 2) = xa_a 2 dg := (oh7 _ (by omega)).trans hB2
                                  have hn : h7.2 = h.2 := nh7.trans hn
                                  have fr : ∀ i, ((i < k ∨ k + 8 ≤ i) ∧ i ≠ kbr ∧ i ≠ kam) → h7.1 i = h.1 i := fun i hi => (oh7 i (by omega)).trans (fr i hi)
                                  refine xa_iincw (pc := 138) (y := 2) [some (xa_r k), some (xa_i 27), some (xa_i 2), some (xa_i 0)] dX6_numberShapes_138 (by decide) rfl rfl rfl rfl ?_
                                  refine xa_goto (pc := 141) (tgt := 32) dX6_numberShapes_141 (by decide) ?_
                                  refine xa_iload_n (pc := 32) dX6_numberShapes_32 rfl ?_
                                  refine xa_aload_n (pc := 33) dX6_numberShapes_33 rfl ?_
                                  refine xa_getfield (pc := 34) dX6_numberShapes_34 flRX6_9 (by omega) (by omega) hT0 rfl ?_
                                  refine xa_alen (pc := 37) dX6_numberShapes_37 (by omega) hT1 ?_
                                  refine xa_top (y := 2) rfl ?_
                                  refine xa_icmp_ge (pc := 38) (tgt := 144) dX6_numberShapes_38 (by decide) (by decide) (by decide) (fun c_38 => ?_) (fun c_38 => ?_)
                                  · skip
                                    exact c_nsTn3 _ _ _ _ _ _ _ _ _ _ _ _ _ _ _ _ _ _ _ _ _ _ _ hk (by omega) hkb hkk hkbr (by omega) hkam (by omega) hkq hB9 hge hna ⟨xa_upf_ne _ _ (by decide) |>.trans (xa_upf_at _ _ _), xa_upf_at _ _ _, xa_upf_ne _ _ (by decide) |>.trans (xa_upf_at _ _ _), xa_upf_at _ _ _, xa_upf_b (xa_upf_b hpl0 (by have := tp_b (sj := sj) hB9 0; omega)) (by have := tp_b (sj := sj) hB9 1; omega)⟩ hT0 hT1 hT2 hT3 hT4 hS0 hS1 hS2 hB0 hB1 hB2 hn fr
                                  · skip
                                    exfalso; omega
                                · skip
                                  exfalso; omega
                              · skip
                                exfalso; omega
                            · skip
                              refine xa_iconst (pc := 69) dX6_numberShapes_69 ?_
                              refine xa_goto (pc := 70) (tgt := 74) dX6_numberShapes_70 (by decide) ?_
                              refine xa_istoren (pc := 74) [some (xa_r k), some (xa_i 27), some (xa_i 1), some (xa_i 1)] dX6_numberShapes_74 (by decide) (Nat.le_of_ble_eq_true rfl) rfl rfl ?_
                              refine xa_aload_n (pc := 75) dX6_numberShapes_75 rfl ?_
                              refine xa_getfield (pc := 76) dX6_numberShapes_76 flRX6_9 (by omega) (by omega) hT0 rfl ?_
                              refine xa_iload_n (pc := 79) dX6_numberShapes_79 rfl ?_
                              refine xa_iload_n (pc := 80) dX6_numberShapes_80 rfl ?_
                              refine xa_if_eq (pc := 81) (tgt := 99) dX6_numberShapes_81 (by decide) (by decide) (fun c_81 => ?_) (fun c_81 => ?_)
                              · skip
                                exfalso; omega
                              · skip
                                refine xa_aload_n (pc := 84) dX6_numberShapes_84 rfl ?_
                                refine xa_getfield (pc := 85) dX6_numberShapes_85 flRX6_24 (by omega) (by omega) hT0 rfl ?_
                                refine xa_iload_n (pc := 88) dX6_numberShapes_88 rfl ?_
                                refine xa_callV (pc := 89) (as := [xa_i 1]) (rest := [xa_i 1, xa_r (k + 1)]) dX6_numberShapes_89 ⟨qX0_stepsOf.1, qX0_stepsOf.2.1, qX0_stepsOf.2.2, by decide, by decide⟩ lkRX6_52 imX0_stepsOf seX0_stepsOf rfl rfl (by omega) (by omega) hB0 rfl (Nat.le_of_ble_eq_true rfl) (Nat.zero_le _) (Nat.zero_le _) (c_stepsOf _ _ _ _ _ _ _ _ _ _ (by decide) (by omega) ⟨hB0, hB1, hB2, by omega, by omega⟩) (fun r h' hq => ?_)
                                obtain ⟨rfl, hq⟩ := hq
                                have hq := hq.symm
                                subst hq
                                refine xa_iconst (pc := 92) dX6_numberShapes_92 ?_
                                refine xa_callS (pc := 93) (as := [xa_i (sp_steps wa sr 1), xa_i 1]) (rest := [xa_i 1, xa_r (k + 1)]) dX6_numberShapes_93 ⟨qJ9_max_7cf53.1, qJ9_max_7cf53.2.1, qJ9_max_7cf53.2.2, by decide, by decide⟩ lkRX6_56 smJ9_max_7cf53 rfl rfl (Nat.le_of_ble_eq_true rfl) (Nat.zero_le _) (Nat.zero_le _) (c_max _ _ (by unfold sp_steps; split <;> omega) (by decide)) (fun r h' hq => ?_)
                                obtain ⟨rfl, hq⟩ := hq
                                have hq := hq.symm
                                subst hq
                                refine xa_goto (pc := 96) (tgt := 100) dX6_numberShapes_96 (by decide) ?_
                                refine xa_top (y := tp 2 wa sr sj 1) (by first | exact tp_y hB9 (j := 1) (by decide) (fun z => by omega) | exact tp_n (j := 1) (Or.inr (by omega)) | exact tp_n (j := 1) (Or.inl (by decide))) ?_
                                refine xa_iastw (pc := 100) 1 dX6_numberShapes_100 (by omega) (by omega) hT1 (by omega) (by omega) rfl (fun h8 nh8 ch8 oh8 => ?_)
                                have hT1 : h8.1 (k + 1) = xa_a 2 (xa_upf (xa_upf pl 0 (tp 2 wa sr sj 0)) 1 (tp 2 wa sr sj 1)) := ch8
                                have hT0 : h8.1 k = xa_o 6 [xa_r kb, xa_r (k + 5), xa_i sj, xa_r (k + 1), xa_r (k + 2), xa_i (27 * (tp 2 wa sr sj 0)), xa_i fs, xa_i lst, xa_r kbr, xa_r kam] := (oh8 _ (by omega)).trans hT0
                                have hT2 : h8.1 (k + 2) = xa_a 2 (xa_upf lw 0 (-tz 2 wa sj 0)) := (oh8 _ (by omega)).trans hT2
                                have hT3 : h8.1 kbr = xa_a nb br := (oh8 _ (by omega)).trans hT3
                                have hT4 : h8.1 kam = xa_a na am := (oh8 _ (by omega)).trans hT4
                                have hS0 : h8.1 (k + 5) = xa_o 4 [xa_r kb, xa_r (k + 5 + 1), xa_r (k + 5 + 2), xa_i tj, xa_i tb] := (oh8 _ (by omega)).trans hS0
                                have hS1 : h8.1 (k + 5 + 1) = xa_a 3 po := (oh8 _ (by omega)).trans hS1
                                have hS2 : h8.1 (k + 5 + 2) = xa_a 2 sp := (oh8 _ (by omega)).trans hS2
                                have hB0 : h8.1 kb = xa_o 0 [xa_r (kb + 1), xa_r (kb + 2), xa_i 3, xa_i 2, xa_i wa, xa_i sr, xa_i pu, xa_i ri] := (oh8 _ (by omega)).trans hB0
                                have hB1 : h8.1 (kb + 1) = xa_a 9 ld := (oh8 _ (by omega)).trans hB1
                                have hB2 : h8.1 (kb + 2) = xa_a 2 dg := (oh8 _ (by omega)).trans hB2
                                have hn : h8.2 = h.2 := nh8.trans hn
                                have fr : ∀ i, ((i < k ∨ k + 8 ≤ i) ∧ i ≠ kbr ∧ i ≠ kam) → h8.1 i = h.1 i := fun i hi => (oh8 i (by omega)).trans (fr i hi)
                                refine xa_aload_n (pc := 101) dX6_numberShapes_101 rfl ?_
                                refine xa_getfield (pc := 102) dX6_numberShapes_102 flRX6_15 (by omega) (by omega) hT0 rfl ?_
                                refine xa_iload_n (pc := 105) dX6_numberShapes_105 rfl ?_
                                refine xa_iload_n (pc := 106) dX6_numberShapes_106 rfl ?_
                                refine xa_if_eq (pc := 107) (tgt := 121) dX6_numberShapes_107 (by decide) (by decide) (fun c_107 => ?_) (fun c_107 => ?_)
                                · skip
                                  exfalso; omega
                                · skip
                                  refine xa_aload_n (pc := 110) dX6_numberShapes_110 rfl ?_
                                  refine xa_getfield (pc := 111) dX6_numberShapes_111 flRX6_24 (by omega) (by omega) hT0 rfl ?_
                                  refine xa_iload_n (pc := 114) dX6_numberShapes_114 rfl ?_
                                  refine xa_callV (pc := 115) (as := [xa_i 1]) (rest := [xa_i 1, xa_r (k + 2)]) dX6_numberShapes_115 ⟨qX0_lowestOf.1, qX0_lowestOf.2.1, qX0_lowestOf.2.2, by decide, by decide⟩ lkRX6_62 imX0_lowestOf seX0_lowestOf rfl rfl (by omega) (by omega) hB0 rfl (Nat.le_of_ble_eq_true rfl) (Nat.zero_le _) (Nat.zero_le _) (c_lowestOf _ _ _ _ _ _ _ _ _ _ (by decide) (by omega) ⟨hB0, hB1, hB2, by omega, by omega⟩) (fun r h' hq => ?_)
                                  obtain ⟨rfl, hq⟩ := hq
                                  have hq := hq.symm
                                  subst hq
                                  refine xa_goto (pc := 118) (tgt := 122) dX6_numberShapes_118 (by decide) ?_
                                  refine xa_top (y := -tz 2 wa sj 1) (by first | exact tz_y (j := 1) (by decide) (fun z => by omega) | exact tz_n (j := 1) (Or.inr (by omega)) | exact tz_n (j := 1) (Or.inl (by decide))) ?_
                                  refine xa_iastw (pc := 122) 1 dX6_numberShapes_122 (by omega) (by omega) hT2 (by omega) (by omega) rfl (fun h9 nh9 ch9 oh9 => ?_)
                                  have hT2 : h9.1 (k + 2) = xa_a 2 (xa_upf (xa_upf lw 0 (-tz 2 wa sj 0)) 1 (-tz 2 wa sj 1)) := ch9
                                  have hT0 : h9.1 k = xa_o 6 [xa_r kb, xa_r (k + 5), xa_i sj, xa_r (k + 1), xa_r (k + 2), xa_i (27 * (tp 2 wa sr sj 0)), xa_i fs, xa_i lst, xa_r kbr, xa_r kam] := (oh9 _ (by omega)).trans hT0
                                  have hT1 : h9.1 (k + 1) = xa_a 2 (xa_upf (xa_upf pl 0 (tp 2 wa sr sj 0)) 1 (tp 2 wa sr sj 1)) := (oh9 _ (by omega)).trans hT1
                                  have hT3 : h9.1 kbr = xa_a nb br := (oh9 _ (by omega)).trans hT3
                                  have hT4 : h9.1 kam = xa_a na am := (oh9 _ (by omega)).trans hT4
                                  have hS0 : h9.1 (k + 5) = xa_o 4 [xa_r kb, xa_r (k + 5 + 1), xa_r (k + 5 + 2), xa_i tj, xa_i tb] := (oh9 _ (by omega)).trans hS0
                                  have hS1 : h9.1 (k + 5 + 1) = xa_a 3 po := (oh9 _ (by omega)).trans hS1
                                  have hS2 : h9.1 (k + 5 + 2) = xa_a 2 sp := (oh9 _ (by omega)).trans hS2
                                  have hB0 : h9.1 kb = xa_o 0 [xa_r (kb + 1), xa_r (kb + 2), xa_i 3, xa_i 2, xa_i wa, xa_i sr, xa_i pu, xa_i ri] := (oh9 _ (by omega)).trans hB0
                                  have hB1 : h9.1 (kb + 1) = xa_a 9 ld := (oh9 _ (by omega)).trans hB1
                                  have hB2 : h9.1 (kb + 2) = xa_a 2 dg := (oh9 _ (by omega)).trans hB2
                                  have hn : h9.2 = h.2 := nh9.trans hn
                                  have fr : ∀ i, ((i < k ∨ k + 8 ≤ i) ∧ i ≠ kbr ∧ i ≠ kam) → h9.1 i = h.1 i := fun i hi => (oh9 i (by omega)).trans (fr i hi)
                                  refine xa_aload_n (pc := 123) dX6_numberShapes_123 rfl ?_
                                  refine xa_dup (pc := 124) dX6_numberShapes_124 rfl ?_
                                  refine xa_getfield (pc := 125) dX6_numberShapes_125 flRX6_46 (by omega) (by omega) hT0 rfl ?_
                                  refine xa_aload_n (pc := 128) dX6_numberShapes_128 rfl ?_
                                  refine xa_getfield (pc := 129) dX6_numberShapes_129 flRX6_9 (by omega) (by omega) hT0 rfl ?_
                                  refine xa_iload_n (pc := 132) dX6_numberShapes_132 rfl ?_
                                  refine xa_ialdw (pc := 133) 1 dX6_numberShapes_133 (by omega) hT1 (by omega) (by omega) rfl ?_
                                  refine xa_top (y := tp 2 wa sr sj 1) (xa_upf_at _ _ _) ?_
                                  refine xa_imul (pc := 134) dX6_numberShapes_134 ?_
                                  refine xa_top (y := (((kN 3 2 wa sr sj).toNat : Nat) : Int)) (by rw [Int.toNat_of_nonneg (by omega)]; unfold kN; rw [if_pos (by decide)]) ?_
                                  refine xa_putw (pc := 135) [xa_r kb, xa_r (k + 5), xa_i sj, xa_r (k + 1), xa_r (k + 2), xa_i (((kN 3 2 wa sr sj).toNat : Nat) : Int), xa_i fs, xa_i lst, xa_r kbr, xa_r kam] dX6_numberShapes_135 flRX6_46 plX6_5 (by omega) (by omega) hT0 trivial rfl (fun h10 nh10 ch10 oh10 => ?_)
                                  have hT0 : h10.1 k = xa_o 6 [xa_r kb, xa_r (k + 5), xa_i sj, xa_r (k + 1), xa_r (k + 2), xa_i (((kN 3 2 wa sr sj).toNat : Nat) : Int), xa_i fs, xa_i lst, xa_r kbr, xa_r kam] := ch10
                                  have hT1 : h10.1 (k + 1) = xa_a 2 (xa_upf (xa_upf pl 0 (tp 2 wa sr sj 0)) 1 (tp 2 wa sr sj 1)) := (oh10 _ (by omega)).trans hT1
                                  have hT2 : h10.1 (k + 2) = xa_a 2 (xa_upf (xa_upf lw 0 (-tz 2 wa sj 0)) 1 (-tz 2 wa sj 1)) := (oh10 _ (by omega)).trans hT2
                                  have hT3 : h10.1 kbr = xa_a nb br := (oh10 _ (by omega)).trans hT3
                                  have hT4 : h10.1 kam = xa_a na am := (oh10 _ (by omega)).trans hT4
                                  have hS0 : h10.1 (k + 5) = xa_o 4 [xa_r kb, xa_r (k + 5 + 1), xa_r (k + 5 + 2), xa_i tj, xa_i tb] := (oh10 _ (by omega)).trans hS0
                                  have hS1 : h10.1 (k + 5 + 1) = xa_a 3 po := (oh10 _ (by omega)).trans hS1
                                  have hS2 : h10.1 (k + 5 + 2) = xa_a 2 sp := (oh10 _ (by omega)).trans hS2
                                  have hB0 : h10.1 kb = xa_o 0 [xa_r (kb + 1), xa_r (kb + 2), xa_i 3, xa_i 2, xa_i wa, xa_i sr, xa_i pu, xa_i ri] := (oh10 _ (by omega)).trans hB0
                                  have hB1 : h10.1 (kb + 1) = xa_a 9 ld := (oh10 _ (by omega)).trans hB1
                                  have hB2 : h10.1 (kb + 2) = xa_a 2 dg := (oh10 _ (by omega)).trans hB2
                                  have hn : h10.2 = h.2 := nh10.trans hn
                                  have fr : ∀ i, ((i < k ∨ k + 8 ≤ i) ∧ i ≠ kbr ∧ i ≠ kam) → h10.1 i = h.1 i := fun i hi => (oh10 i (by omega)).trans (fr i hi)
                                  refine xa_iincw (pc := 138) (y := 2) [some (xa_r k), some (xa_i 27), some (xa_i 2), some (xa_i 1)] dX6_numberShapes_138 (by decide) rfl rfl rfl rfl ?_
                                  refine xa_goto (pc := 141) (tgt := 32) dX6_numberShapes_141 (by decide) ?_
                                  refine xa_iload_n (pc := 32) dX6_numberShapes_32 rfl ?_
                                  refine xa_aload_n (pc := 33) dX6_numberShapes_33 rfl ?_
                                  refine xa_getfield (pc := 34) dX6_numberShapes_34 flRX6_9 (by omega) (by omega) hT0 rfl ?_
                                  refine xa_alen (pc := 37) dX6_numberShapes_37 (by omega) hT1 ?_
                                  refine xa_top (y := 2) rfl ?_
                                  refine xa_icmp_ge (pc := 38) (tgt := 144) dX6_numberShapes_38 (by decide) (by decide) (by decide) (fun c_38 => ?_) (fun c_38 => ?_)
                                  · skip
                                    exact c_nsTn3 _ _ _ _ _ _ _ _ _ _ _ _ _ _ _ _ _ _ _ _ _ _ _ hk (by omega) hkb hkk hkbr (by omega) hkam (by omega) hkq hB9 hge hna ⟨xa_upf_ne _ _ (by decide) |>.trans (xa_upf_at _ _ _), xa_upf_at _ _ _, xa_upf_ne _ _ (by decide) |>.trans (xa_upf_at _ _ _), xa_upf_at _ _ _, xa_upf_b (xa_upf_b hpl0 (by have := tp_b (sj := sj) hB9 0; omega)) (by have := tp_b (sj := sj) hB9 1; omega)⟩ hT0 hT1 hT2 hT3 hT4 hS0 hS1 hS2 hB0 hB1 hB2 hn fr
                                  · skip
                                    exfalso; omega
                    · skip
                      exfalso; omega
                  · skip
                    exfalso; omega
                · skip
                  refine xa_iconst (pc := 69) dX6_numberShapes_69 ?_
                  refine xa_goto (pc := 70) (tgt := 74) dX6_numberShapes_70 (by decide) ?_
                  refine xa_istoren (pc := 74) [some (xa_r k), some (xa_i 27), some (xa_i 0), some (xa_i 1)] dX6_numberShapes_74 (by decide) (Nat.le_of_ble_eq_true rfl) rfl rfl ?_
                  refine xa_aload_n (pc := 75) dX6_numberShapes_75 rfl ?_
                  refine xa_getfield (pc := 76) dX6_numberShapes_76 flRX6_9 (by omega) (by omega) hT0 rfl ?_
                  refine xa_iload_n (pc := 79) dX6_numberShapes_79 rfl ?_
                  refine xa_iload_n (pc := 80) dX6_numberShapes_80 rfl ?_
                  refine xa_if_eq (pc := 81) (tgt := 99) dX6_numberShapes_81 (by decide) (by decide) (fun c_81 => ?_) (fun c_81 => ?_)
                  · skip
                    exfalso; omega
                  · skip
                    refine xa_aload_n (pc := 84) dX6_numberShapes_84 rfl ?_
                    refine xa_getfield (pc := 85) dX6_numberShapes_85 flRX6_24 (by omega) (by omega) hT0 rfl ?_
                    refine xa_iload_n (pc := 88) dX6_numberShapes_88 rfl ?_
                    refine xa_callV (pc := 89) (as := [xa_i 0]) (rest := [xa_i 0, xa_r (k + 1)]) dX6_numberShapes_89 ⟨qX0_stepsOf.1, qX0_stepsOf.2.1, qX0_stepsOf.2.2, by decide, by decide⟩ lkRX6_52 imX0_stepsOf seX0_stepsOf rfl rfl (by omega) (by omega) hB0 rfl (Nat.le_of_ble_eq_true rfl) (Nat.zero_le _) (Nat.zero_le _) (c_stepsOf _ _ _ _ _ _ _ _ _ _ (by decide) (by omega) ⟨hB0, hB1, hB2, by omega, by omega⟩) (fun r h' hq => ?_)
                    obtain ⟨rfl, hq⟩ := hq
                    have hq := hq.symm
                    subst hq
                    refine xa_iconst (pc := 92) dX6_numberShapes_92 ?_
                    refine xa_callS (pc := 93) (as := [xa_i (sp_steps wa sr 0), xa_i 1]) (rest := [xa_i 0, xa_r (k + 1)]) dX6_numberShapes_93 ⟨qJ9_max_7cf53.1, qJ9_max_7cf53.2.1, qJ9_max_7cf53.2.2, by decide, by decide⟩ lkRX6_56 smJ9_max_7cf53 rfl rfl (Nat.le_of_ble_eq_true rfl) (Nat.zero_le _) (Nat.zero_le _) (c_max _ _ (by unfold sp_steps; split <;> omega) (by decide)) (fun r h' hq => ?_)
                    obtain ⟨rfl, hq⟩ := hq
                    have hq := hq.symm
                    subst hq
                    refine xa_goto (pc := 96) (tgt := 100) dX6_numberShapes_96 (by decide) ?_
                    refine xa_top (y := tp 2 wa sr sj 0) (by first | exact tp_y hB9 (j := 0) (by decide) (fun z => by omega) | exact tp_n (j := 0) (Or.inr (by omega)) | exact tp_n (j := 0) (Or.inl (by decide))) ?_
                    refine xa_iastw (pc := 100) 0 dX6_numberShapes_100 (by omega) (by omega) hT1 (by omega) (by omega) rfl (fun h11 nh11 ch11 oh11 => ?_)
                    have hT1 : h11.1 (k + 1) = xa_a 2 (xa_upf pl 0 (tp 2 wa sr sj 0)) := ch11
                    have hT0 : h11.1 k = xa_o 6 [xa_r kb, xa_r (k + 5), xa_i sj, xa_r (k + 1), xa_r (k + 2), xa_i 27, xa_i fs, xa_i lst, xa_r kbr, xa_r kam] := (oh11 _ (by omega)).trans hT0
                    have hT2 : h11.1 (k + 2) = xa_a 2 lw := (oh11 _ (by omega)).trans hT2
                    have hT3 : h11.1 kbr = xa_a nb br := (oh11 _ (by omega)).trans hT3
                    have hT4 : h11.1 kam = xa_a na am := (oh11 _ (by omega)).trans hT4
                    have hS0 : h11.1 (k + 5) = xa_o 4 [xa_r kb, xa_r (k + 5 + 1), xa_r (k + 5 + 2), xa_i tj, xa_i tb] := (oh11 _ (by omega)).trans hS0
                    have hS1 : h11.1 (k + 5 + 1) = xa_a 3 po := (oh11 _ (by omega)).trans hS1
                    have hS2 : h11.1 (k + 5 + 2) = xa_a 2 sp := (oh11 _ (by omega)).trans hS2
                    have hB0 : h11.1 kb = xa_o 0 [xa_r (kb + 1), xa_r (kb + 2), xa_i 3, xa_i 2, xa_i wa, xa_i sr, xa_i pu, xa_i ri] := (oh11 _ (by omega)).trans hB0
                    have hB1 : h11.1 (kb + 1) = xa_a 9 ld := (oh11 _ (by omega)).trans hB1
                    have hB2 : h11.1 (kb + 2) = xa_a 2 dg := (oh11 _ (by omega)).trans hB2
                    have hn : h11.2 = h.2 := nh11.trans hn
                    have fr : ∀ i, ((i < k ∨ k + 8 ≤ i) ∧ i ≠ kbr ∧ i ≠ kam) → h11.1 i = h.1 i := fun i hi => (oh11 i (by omega)).trans (fr i hi)
                    refine xa_aload_n (pc := 101) dX6_numberShapes_101 rfl ?_
                    refine xa_getfield (pc := 102) dX6_numberShapes_102 flRX6_15 (by omega) (by omega) hT0 rfl ?_
                    refine xa_iload_n (pc := 105) dX6_numberShapes_105 rfl ?_
                    refine xa_iload_n (pc := 106) dX6_numberShapes_106 rfl ?_
                    refine xa_if_eq (pc := 107) (tgt := 121) dX6_numberShapes_107 (by decide) (by decide) (fun c_107 => ?_) (fun c_107 => ?_)
                    · skip
                      exfalso; omega
                    · skip
                      refine xa_aload_n (pc := 110) dX6_numberShapes_110 rfl ?_
                      refine xa_getfield (pc := 111) dX6_numberShapes_111 flRX6_24 (by omega) (by omega) hT0 rfl ?_
                      refine xa_iload_n (pc := 114) dX6_numberShapes_114 rfl ?_
                      refine xa_callV (pc := 115) (as := [xa_i 0]) (rest := [xa_i 0, xa_r (k + 2)]) dX6_numberShapes_115 ⟨qX0_lowestOf.1, qX0_lowestOf.2.1, qX0_lowestOf.2.2, by decide, by decide⟩ lkRX6_62 imX0_lowestOf seX0_lowestOf rfl rfl (by omega) (by omega) hB0 rfl (Nat.le_of_ble_eq_true rfl) (Nat.zero_le _) (Nat.zero_le _) (c_lowestOf _ _ _ _ _ _ _ _ _ _ (by decide) (by omega) ⟨hB0, hB1, hB2, by omega, by omega⟩) (fun r h' hq => ?_)
                      obtain ⟨rfl, hq⟩ := hq
                      have hq := hq.symm
                      subst hq
                      refine xa_goto (pc := 118) (tgt := 122) dX6_numberShapes_118 (by decide) ?_
                      refine xa_top (y := -tz 2 wa sj 0) (by first | exact tz_y (j := 0) (by decide) (fun z => by omega) | exact tz_n (j := 0) (Or.inr (by omega)) | exact tz_n (j := 0) (Or.inl (by decide))) ?_
                      refine xa_iastw (pc := 122) 0 dX6_numberShapes_122 (by omega) (by omega) hT2 (by omega) (by omega) rfl (fun h12 nh12 ch12 oh12 => ?_)
                      have hT2 : h12.1 (k + 2) = xa_a 2 (xa_upf lw 0 (-tz 2 wa sj 0)) := ch12
                      have hT0 : h12.1 k = xa_o 6 [xa_r kb, xa_r (k + 5), xa_i sj, xa_r (k + 1), xa_r (k + 2), xa_i 27, xa_i fs, xa_i lst, xa_r kbr, xa_r kam] := (oh12 _ (by omega)).trans hT0
                      have hT1 : h12.1 (k + 1) = xa_a 2 (xa_upf pl 0 (tp 2 wa sr sj 0)) := (oh12 _ (by omega)).trans hT1
                      have hT3 : h12.1 kbr = xa_a nb br := (oh12 _ (by omega)).trans hT3
                      have hT4 : h12.1 kam = xa_a na am := (oh12 _ (by omega)).trans hT4
                      have hS0 : h12.1 (k + 5) = xa_o 4 [xa_r kb, xa_r (k + 5 + 1), xa_r (k + 5 + 2), xa_i tj, xa_i tb] := (oh12 _ (by omega)).trans hS0
                      have hS1 : h12.1 (k + 5 + 1) = xa_a 3 po := (oh12 _ (by omega)).trans hS1
                      have hS2 : h12.1 (k + 5 + 2) = xa_a 2 sp := (oh12 _ (by omega)).trans hS2
                      have hB0 : h12.1 kb = xa_o 0 [xa_r (kb + 1), xa_r (kb + 2), xa_i 3, xa_i 2, xa_i wa, xa_i sr, xa_i pu, xa_i ri] := (oh12 _ (by omega)).trans hB0
                      have hB1 : h12.1 (kb + 1) = xa_a 9 ld := (oh12 _ (by omega)).trans hB1
                      have hB2 : h12.1 (kb + 2) = xa_a 2 dg := (oh12 _ (by omega)).trans hB2
                      have hn : h12.2 = h.2 := nh12.trans hn
                      have fr : ∀ i, ((i < k ∨ k + 8 ≤ i) ∧ i ≠ kbr ∧ i ≠ kam) → h12.1 i = h.1 i := fun i hi => (oh12 i (by omega)).trans (fr i hi)
                      refine xa_aload_n (pc := 123) dX6_numberShapes_123 rfl ?_
                      refine xa_dup (pc := 124) dX6_numberShapes_124 rfl ?_
                      refine xa_getfield (pc := 125) dX6_numberShapes_125 flRX6_46 (by omega) (by omega) hT0 rfl ?_
                      refine xa_aload_n (pc := 128) dX6_numberShapes_128 rfl ?_
                      refine xa_getfield (pc := 129) dX6_numberShapes_129 flRX6_9 (by omega) (by omega) hT0 rfl ?_
                      refine xa_iload_n (pc := 132) dX6_numberShapes_132 rfl ?_
                      refine xa_ialdw (pc := 133) 0 dX6_numberShapes_133 (by omega) hT1 (by omega) (by omega) rfl ?_
                      refine xa_top (y := tp 2 wa sr sj 0) (xa_upf_at _ _ _) ?_
                      refine xa_imul (pc := 134) dX6_numberShapes_134 ?_
                      refine xa_putw (pc := 135) [xa_r kb, xa_r (k + 5), xa_i sj, xa_r (k + 1), xa_r (k + 2), xa_i (27 * (tp 2 wa sr sj 0)), xa_i fs, xa_i lst, xa_r kbr, xa_r kam] dX6_numberShapes_135 flRX6_46 plX6_5 (by omega) (by omega) hT0 trivial rfl (fun h13 nh13 ch13 oh13 => ?_)
                      have hT0 : h13.1 k = xa_o 6 [xa_r kb, xa_r (k + 5), xa_i sj, xa_r (k + 1), xa_r (k + 2), xa_i (27 * (tp 2 wa sr sj 0)), xa_i fs, xa_i lst, xa_r kbr, xa_r kam] := ch13
                      have hT1 : h13.1 (k + 1) = xa_a 2 (xa_upf pl 0 (tp 2 wa sr sj 0)) := (oh13 _ (by omega)).trans hT1
                      have hT2 : h13.1 (k + 2) = xa_a 2 (xa_upf lw 0 (-tz 2 wa sj 0)) := (oh13 _ (by omega)).trans hT2
                      have hT3 : h13.1 kbr = xa_a nb br := (oh13 _ (by omega)).trans hT3
                      have hT4 : h13.1 kam = xa_a na am := (oh13 _ (by omega)).trans hT4
                      have hS0 : h13.1 (k + 5) = xa_o 4 [xa_r kb, xa_r (k + 5 + 1), xa_r (k + 5 + 2), xa_i tj, xa_i tb] := (oh13 _ (by omega)).trans hS0
                      have hS1 : h13.1 (k + 5 + 1) = xa_a 3 po := (oh13 _ (by omega)).trans hS1
                      have hS2 : h13.1 (k + 5 + 2) = xa_a 2 sp := (oh13 _ (by omega)).trans hS2
                      have hB0 : h13.1 kb = xa_o 0 [xa_r (kb + 1), xa_r (kb + 2), xa_i 3, xa_i 2, xa_i wa, xa_i sr, xa_i pu, xa_i ri] := (oh13 _ (by omega)).trans hB0
                      have hB1 : h13.1 (kb + 1) = xa_a 9 ld := (oh13 _ (by omega)).trans hB1
                      have hB2 : h13.1 (kb + 2) = xa_a 2 dg := (oh13 _ (by omega)).trans hB2
                      have hn : h13.2 = h.2 := nh13.trans hn
                      have fr : ∀ i, ((i < k ∨ k + 8 ≤ i) ∧ i ≠ kbr ∧ i ≠ kam) → h13.1 i = h.1 i := fun i hi => (oh13 i (by omega)).trans (fr i hi)
                      refine xa_iincw (pc := 138) (y := 1) [some (xa_r k), some (xa_i 27), some (xa_i 1), some (xa_i 1)] dX6_numberShapes_138 (by decide) rfl rfl rfl rfl ?_
                      refine xa_goto (pc := 141) (tgt := 32) dX6_numberShapes_141 (by decide) ?_
                      refine xa_iload_n (pc := 32) dX6_numberShapes_32 rfl ?_
                      refine xa_aload_n (pc := 33) dX6_numberShapes_33 rfl ?_
                      refine xa_getfield (pc := 34) dX6_numberShapes_34 flRX6_9 (by omega) (by omega) hT0 rfl ?_
                      refine xa_alen (pc := 37) dX6_numberShapes_37 (by omega) hT1 ?_
                      refine xa_top (y := 2) rfl ?_
                      refine xa_icmp_ge (pc := 38) (tgt := 144) dX6_numberShapes_38 (by decide) (by decide) (by decide) (fun c_38 => ?_) (fun c_38 => ?_)
                      · skip
                        exfalso; omega
                      · skip
                        refine xa_iload_n (pc := 41) dX6_numberShapes_41 rfl ?_
                        refine xa_aload_n (pc := 42) dX6_numberShapes_42 rfl ?_
                        refine xa_getfield (pc := 43) dX6_numberShapes_43 flRX6_15 (by omega) (by omega) hT0 rfl ?_
                        refine xa_alen (pc := 46) dX6_numberShapes_46 (by omega) hT2 ?_
                        refine xa_top (y := 2) rfl ?_
                        refine xa_icmp_ge (pc := 47) (tgt := 144) dX6_numberShapes_47 (by decide) (by decide) (by decide) (fun c_47 => ?_) (fun c_47 => ?_)
                        · skip
                          exfalso; omega
                        · skip
                          refine xa_iload_n (pc := 50) dX6_numberShapes_50 rfl ?_
                          refine xa_aload_n (pc := 51) dX6_numberShapes_51 rfl ?_
                          refine xa_getfield (pc := 52) dX6_numberShapes_52 flRX6_24 (by omega) (by omega) hT0 rfl ?_
                          refine xa_getfield (pc := 55) dX6_numberShapes_55 flRX6_49 (by omega) (by omega) hB0 rfl ?_
                          refine xa_icmp_ge (pc := 58) (tgt := 73) dX6_numberShapes_58 (by decide) (by decide) (by decide) (fun c_58 => ?_) (fun c_58 => ?_)
                          · skip
                            exfalso; omega
                          · skip
                            refine xa_iload_n (pc := 61) dX6_numberShapes_61 rfl ?_
                            refine xa_aload_n (pc := 62) dX6_numberShapes_62 rfl ?_
                            refine xa_getfield (pc := 63) dX6_numberShapes_63 flRX6_28 (by omega) (by omega) hT0 rfl ?_
                            refine xa_icmp_eq (pc := 66) (tgt := 73) dX6_numberShapes_66 (by decide) (by decide) ⟨by omega, by omega⟩ (fun c_66 => ?_) (fun c_66 => ?_)
                            · skip
                              refine xa_iconst (pc := 73) dX6_numberShapes_73 ?_
                              refine xa_istoren (pc := 74) [some (xa_r k), some (xa_i 27), some (xa_i 1), some (xa_i 0)] dX6_numberShapes_74 (by decide) (Nat.le_of_ble_eq_true rfl) rfl rfl ?_
                              refine xa_aload_n (pc := 75) dX6_numberShapes_75 rfl ?_
                              refine xa_getfield (pc := 76) dX6_numberShapes_76 flRX6_9 (by omega) (by omega) hT0 rfl ?_
                              refine xa_iload_n (pc := 79) dX6_numberShapes_79 rfl ?_
                              refine xa_iload_n (pc := 80) dX6_numberShapes_80 rfl ?_
                              refine xa_if_eq (pc := 81) (tgt := 99) dX6_numberShapes_81 (by decide) (by decide) (fun c_81 => ?_) (fun c_81 => ?_)
                              · skip
                                refine xa_iconst (pc := 99) dX6_numberShapes_99 ?_
                                refine xa_top (y := tp 2 wa sr sj 1) (by first | exact tp_y hB9 (j := 1) (by decide) (fun z => by omega) | exact tp_n (j := 1) (Or.inr (by omega)) | exact tp_n (j := 1) (Or.inl (by decide))) ?_
                                refine xa_iastw (pc := 100) 1 dX6_numberShapes_100 (by omega) (by omega) hT1 (by omega) (by omega) rfl (fun h14 nh14 ch14 oh14 => ?_)
                                have hT1 : h14.1 (k + 1) = xa_a 2 (xa_upf (xa_upf pl 0 (tp 2 wa sr sj 0)) 1 (tp 2 wa sr sj 1)) := ch14
                                have hT0 : h14.1 k = xa_o 6 [xa_r kb, xa_r (k + 5), xa_i sj, xa_r (k + 1), xa_r (k + 2), xa_i (27 * (tp 2 wa sr sj 0)), xa_i fs, xa_i lst, xa_r kbr, xa_r kam] := (oh14 _ (by omega)).trans hT0
                                have hT2 : h14.1 (k + 2) = xa_a 2 (xa_upf lw 0 (-tz 2 wa sj 0)) := (oh14 _ (by omega)).trans hT2
                                have hT3 : h14.1 kbr = xa_a nb br := (oh14 _ (by omega)).trans hT3
                                have hT4 : h14.1 kam = xa_a na am := (oh14 _ (by omega)).trans hT4
                                have hS0 : h14.1 (k + 5) = xa_o 4 [xa_r kb, xa_r (k + 5 + 1), xa_r (k + 5 + 2), xa_i tj, xa_i tb] := (oh14 _ (by omega)).trans hS0
                                have hS1 : h14.1 (k + 5 + 1) = xa_a 3 po := (oh14 _ (by omega)).trans hS1
                                have hS2 : h14.1 (k + 5 + 2) = xa_a 2 sp := (oh14 _ (by omega)).trans hS2
                                have hB0 : h14.1 kb = xa_o 0 [xa_r (kb + 1), xa_r (kb + 2), xa_i 3, xa_i 2, xa_i wa, xa_i sr, xa_i pu, xa_i ri] := (oh14 _ (by omega)).trans hB0
                                have hB1 : h14.1 (kb + 1) = xa_a 9 ld := (oh14 _ (by omega)).trans hB1
                                have hB2 : h14.1 (kb + 2) = xa_a 2 dg := (oh14 _ (by omega)).trans hB2
                                have hn : h14.2 = h.2 := nh14.trans hn
                                have fr : ∀ i, ((i < k ∨ k + 8 ≤ i) ∧ i ≠ kbr ∧ i ≠ kam) → h14.1 i = h.1 i := fun i hi => (oh14 i (by omega)).trans (fr i hi)
                                refine xa_aload_n (pc := 101) dX6_numberShapes_101 rfl ?_
                                refine xa_getfield (pc := 102) dX6_numberShapes_102 flRX6_15 (by omega) (by omega) hT0 rfl ?_
                                refine xa_iload_n (pc := 105) dX6_numberShapes_105 rfl ?_
                                refine xa_iload_n (pc := 106) dX6_numberShapes_106 rfl ?_
                                refine xa_if_eq (pc := 107) (tgt := 121) dX6_numberShapes_107 (by decide) (by decide) (fun c_107 => ?_) (fun c_107 => ?_)
                                · skip
                                  refine xa_iconst (pc := 121) dX6_numberShapes_121 ?_
                                  refine xa_top (y := -tz 2 wa sj 1) (by first | exact tz_y (j := 1) (by decide) (fun z => by omega) | exact tz_n (j := 1) (Or.inr (by omega)) | exact tz_n (j := 1) (Or.inl (by decide))) ?_
                                  refine xa_iastw (pc := 122) 1 dX6_numberShapes_122 (by omega) (by omega) hT2 (by omega) (by omega) rfl (fun h15 nh15 ch15 oh15 => ?_)
                                  have hT2 : h15.1 (k + 2) = xa_a 2 (xa_upf (xa_upf lw 0 (-tz 2 wa sj 0)) 1 (-tz 2 wa sj 1)) := ch15
                                  have hT0 : h15.1 k = xa_o 6 [xa_r kb, xa_r (k + 5), xa_i sj, xa_r (k + 1), xa_r (k + 2), xa_i (27 * (tp 2 wa sr sj 0)), xa_i fs, xa_i lst, xa_r kbr, xa_r kam] := (oh15 _ (by omega)).trans hT0
                                  have hT1 : h15.1 (k + 1) = xa_a 2 (xa_upf (xa_upf pl 0 (tp 2 wa sr sj 0)) 1 (tp 2 wa sr sj 1)) := (oh15 _ (by omega)).trans hT1
                                  have hT3 : h15.1 kbr = xa_a nb br := (oh15 _ (by omega)).trans hT3
                                  have hT4 : h15.1 kam = xa_a na am := (oh15 _ (by omega)).trans hT4
                                  have hS0 : h15.1 (k + 5) = xa_o 4 [xa_r kb, xa_r (k + 5 + 1), xa_r (k + 5 + 2), xa_i tj, xa_i tb] := (oh15 _ (by omega)).trans hS0
                                  have hS1 : h15.1 (k + 5 + 1) = xa_a 3 po := (oh15 _ (by omega)).trans hS1
                                  have hS2 : h15.1 (k + 5 + 2) = xa_a 2 sp := (oh15 _ (by omega)).trans hS2
                                  have hB0 : h15.1 kb = xa_o 0 [xa_r (kb + 1), xa_r (kb + 2), xa_i 3, xa_i 2, xa_i wa, xa_i sr, xa_i pu, xa_i ri] := (oh15 _ (by omega)).trans hB0
                                  have hB1 : h15.1 (kb + 1) = xa_a 9 ld := (oh15 _ (by omega)).trans hB1
                                  have hB2 : h15.1 (kb + 2) = xa_a 2 dg := (oh15 _ (by omega)).trans hB2
                                  have hn : h15.2 = h.2 := nh15.trans hn
                                  have fr : ∀ i, ((i < k ∨ k + 8 ≤ i) ∧ i ≠ kbr ∧ i ≠ kam) → h15.1 i = h.1 i := fun i hi => (oh15 i (by omega)).trans (fr i hi)
                                  refine xa_aload_n (pc := 123) dX6_numberShapes_123 rfl ?_
                                  refine xa_dup (pc := 124) dX6_numberShapes_124 rfl ?_
                                  refine xa_getfield (pc := 125) dX6_numberShapes_125 flRX6_46 (by omega) (by omega) hT0 rfl ?_
                                  refine xa_aload_n (pc := 128) dX6_numberShapes_128 rfl ?_
                                  refine xa_getfield (pc := 129) dX6_numberShapes_129 flRX6_9 (by omega) (by omega) hT0 rfl ?_
                                  refine xa_iload_n (pc := 132) dX6_numberShapes_132 rfl ?_
                                  refine xa_ialdw (pc := 133) 1 dX6_numberShapes_133 (by omega) hT1 (by omega) (by omega) rfl ?_
                                  refine xa_top (y := tp 2 wa sr sj 1) (xa_upf_at _ _ _) ?_
                                  refine xa_imul (pc := 134) dX6_numberShapes_134 ?_
                                  refine xa_top (y := (((kN 3 2 wa sr sj).toNat : Nat) : Int)) (by rw [Int.toNat_of_nonneg (by omega)]; unfold kN; rw [if_pos (by decide)]) ?_
                                  refine xa_putw (pc := 135) [xa_r kb, xa_r (k + 5), xa_i sj, xa_r (k + 1), xa_r (k + 2), xa_i (((kN 3 2 wa sr sj).toNat : Nat) : Int), xa_i fs, xa_i lst, xa_r kbr, xa_r kam] dX6_numberShapes_135 flRX6_46 plX6_5 (by omega) (by omega) hT0 trivial rfl (fun h16 nh16 ch16 oh16 => ?_)
                                  have hT0 : h16.1 k = xa_o 6 [xa_r kb, xa_r (k + 5), xa_i sj, xa_r (k + 1), xa_r (k + 2), xa_i (((kN 3 2 wa sr sj).toNat : Nat) : Int), xa_i fs, xa_i lst, xa_r kbr, xa_r kam] := ch16
                                  have hT1 : h16.1 (k + 1) = xa_a 2 (xa_upf (xa_upf pl 0 (tp 2 wa sr sj 0)) 1 (tp 2 wa sr sj 1)) := (oh16 _ (by omega)).trans hT1
                                  have hT2 : h16.1 (k + 2) = xa_a 2 (xa_upf (xa_upf lw 0 (-tz 2 wa sj 0)) 1 (-tz 2 wa sj 1)) := (oh16 _ (by omega)).trans hT2
                                  have hT3 : h16.1 kbr = xa_a nb br := (oh16 _ (by omega)).trans hT3
                                  have hT4 : h16.1 kam = xa_a na am := (oh16 _ (by omega)).trans hT4
                                  have hS0 : h16.1 (k + 5) = xa_o 4 [xa_r kb, xa_r (k + 5 + 1), xa_r (k + 5 + 2), xa_i tj, xa_i tb] := (oh16 _ (by omega)).trans hS0
                                  have hS1 : h16.1 (k + 5 + 1) = xa_a 3 po := (oh16 _ (by omega)).trans hS1
                                  have hS2 : h16.1 (k + 5 + 2) = xa_a 2 sp := (oh16 _ (by omega)).trans hS2
                                  have hB0 : h16.1 kb = xa_o 0 [xa_r (kb + 1), xa_r (kb + 2), xa_i 3, xa_i 2, xa_i wa, xa_i sr, xa_i pu, xa_i ri] := (oh16 _ (by omega)).trans hB0
                                  have hB1 : h16.1 (kb + 1) = xa_a 9 ld := (oh16 _ (by omega)).trans hB1
                                  have hB2 : h16.1 (kb + 2) = xa_a 2 dg := (oh16 _ (by omega)).trans hB2
                                  have hn : h16.2 = h.2 := nh16.trans hn
                                  have fr : ∀ i, ((i < k ∨ k + 8 ≤ i) ∧ i ≠ kbr ∧ i ≠ kam) → h16.1 i = h.1 i := fun i hi => (oh16 i (by omega)).trans (fr i hi)
                                  refine xa_iincw (pc := 138) (y := 2) [some (xa_r k), some (xa_i 27), some (xa_i 2), some (xa_i 0)] dX6_numberShapes_138 (by decide) rfl rfl rfl rfl ?_
                                  refine xa_goto (pc := 141) (tgt := 32) dX6_numberShapes_141 (by decide) ?_
                                  refine xa_iload_n (pc := 32) dX6_numberShapes_32 rfl ?_
                                  refine xa_aload_n (pc := 33) dX6_numberShapes_33 rfl ?_
                                  refine xa_getfield (pc := 34) dX6_numberShapes_34 flRX6_9 (by omega) (by omega) hT0 rfl ?_
                                  refine xa_alen (pc := 37) dX6_numberShapes_37 (by omega) hT1 ?_
                                  refine xa_top (y := 2) rfl ?_
                                  refine xa_icmp_ge (pc := 38) (tgt := 144) dX6_numberShapes_38 (by decide) (by decide) (by decide) (fun c_38 => ?_) (fun c_38 => ?_)
                                  · skip
                                    exact c_nsTn3 _ _ _ _ _ _ _ _ _ _ _ _ _ _ _ _ _ _ _ _ _ _ _ hk (by omega) hkb hkk hkbr (by omega) hkam (by omega) hkq hB9 hge hna ⟨xa_upf_ne _ _ (by decide) |>.trans (xa_upf_at _ _ _), xa_upf_at _ _ _, xa_upf_ne _ _ (by decide) |>.trans (xa_upf_at _ _ _), xa_upf_at _ _ _, xa_upf_b (xa_upf_b hpl0 (by have := tp_b (sj := sj) hB9 0; omega)) (by have := tp_b (sj := sj) hB9 1; omega)⟩ hT0 hT1 hT2 hT3 hT4 hS0 hS1 hS2 hB0 hB1 hB2 hn fr
                                  · skip
                                    exfalso; omega
                                · skip
                                  exfalso; omega
                              · skip
                                exfalso; omega
                            · skip
                              refine xa_iconst (pc := 69) dX6_numberShapes_69 ?_
                              refine xa_goto (pc := 70) (tgt := 74) dX6_numberShapes_70 (by decide) ?_
                              refine xa_istoren (pc := 74) [some (xa_r k), some (xa_i 27), some (xa_i 1), some (xa_i 1)] dX6_numberShapes_74 (by decide) (Nat.le_of_ble_eq_true rfl) rfl rfl ?_
                              refine xa_aload_n (pc := 75) dX6_numberShapes_75 rfl ?_
                              refine xa_getfield (pc := 76) dX6_numberShapes_76 flRX6_9 (by omega) (by omega) hT0 rfl ?_
                              refine xa_iload_n (pc := 79) dX6_numberShapes_79 rfl ?_
                              refine xa_iload_n (pc := 80) dX6_numberShapes_80 rfl ?_
                              refine xa_if_eq (pc := 81) (tgt := 99) dX6_numberShapes_81 (by decide) (by decide) (fun c_81 => ?_) (fun c_81 => ?_)
                              · skip
                                exfalso; omega
                              · skip
                                refine xa_aload_n (pc := 84) dX6_numberShapes_84 rfl ?_
                                refine xa_getfield (pc := 85) dX6_numberShapes_85 flRX6_24 (by omega) (by omega) hT0 rfl ?_
                                refine xa_iload_n (pc := 88) dX6_numberShapes_88 rfl ?_
                                refine xa_callV (pc := 89) (as := [xa_i 1]) (rest := [xa_i 1, xa_r (k + 1)]) dX6_numberShapes_89 ⟨qX0_stepsOf.1, qX0_stepsOf.2.1, qX0_stepsOf.2.2, by decide, by decide⟩ lkRX6_52 imX0_stepsOf seX0_stepsOf rfl rfl (by omega) (by omega) hB0 rfl (Nat.le_of_ble_eq_true rfl) (Nat.zero_le _) (Nat.zero_le _) (c_stepsOf _ _ _ _ _ _ _ _ _ _ (by decide) (by omega) ⟨hB0, hB1, hB2, by omega, by omega⟩) (fun r h' hq => ?_)
                                obtain ⟨rfl, hq⟩ := hq
                                have hq := hq.symm
                                subst hq
                                refine xa_iconst (pc := 92) dX6_numberShapes_92 ?_
                                refine xa_callS (pc := 93) (as := [xa_i (sp_steps wa sr 1), xa_i 1]) (rest := [xa_i 1, xa_r (k + 1)]) dX6_numberShapes_93 ⟨qJ9_max_7cf53.1, qJ9_max_7cf53.2.1, qJ9_max_7cf53.2.2, by decide, by decide⟩ lkRX6_56 smJ9_max_7cf53 rfl rfl (Nat.le_of_ble_eq_true rfl) (Nat.zero_le _) (Nat.zero_le _) (c_max _ _ (by unfold sp_steps; split <;> omega) (by decide)) (fun r h' hq => ?_)
                                obtain ⟨rfl, hq⟩ := hq
                                have hq := hq.symm
                                subst hq
                                refine xa_goto (pc := 96) (tgt := 100) dX6_numberShapes_96 (by decide) ?_
                                refine xa_top (y := tp 2 wa sr sj 1) (by first | exact tp_y hB9 (j := 1) (by decide) (fun z => by omega) | exact tp_n (j := 1) (Or.inr (by omega)) | exact tp_n (j := 1) (Or.inl (by decide))) ?_
                                refine xa_iastw (pc := 100) 1 dX6_numberShapes_100 (by omega) (by omega) hT1 (by omega) (by omega) rfl (fun h17 nh17 ch17 oh17 => ?_)
                                have hT1 : h17.1 (k + 1) = xa_a 2 (xa_upf (xa_upf pl 0 (tp 2 wa sr sj 0)) 1 (tp 2 wa sr sj 1)) := ch17
                                have hT0 : h17.1 k = xa_o 6 [xa_r kb, xa_r (k + 5), xa_i sj, xa_r (k + 1), xa_r (k + 2), xa_i (27 * (tp 2 wa sr sj 0)), xa_i fs, xa_i lst, xa_r kbr, xa_r kam] := (oh17 _ (by omega)).trans hT0
                                have hT2 : h17.1 (k + 2) = xa_a 2 (xa_upf lw 0 (-tz 2 wa sj 0)) := (oh17 _ (by omega)).trans hT2
                                have hT3 : h17.1 kbr = xa_a nb br := (oh17 _ (by omega)).trans hT3
                                have hT4 : h17.1 kam = xa_a na am := (oh17 _ (by omega)).trans hT4
                                have hS0 : h17.1 (k + 5) = xa_o 4 [xa_r kb, xa_r (k + 5 + 1), xa_r (k + 5 + 2), xa_i tj, xa_i tb] := (oh17 _ (by omega)).trans hS0
                                have hS1 : h17.1 (k + 5 + 1) = xa_a 3 po := (oh17 _ (by omega)).trans hS1
                                have hS2 : h17.1 (k + 5 + 2) = xa_a 2 sp := (oh17 _ (by omega)).trans hS2
                                have hB0 : h17.1 kb = xa_o 0 [xa_r (kb + 1), xa_r (kb + 2), xa_i 3, xa_i 2, xa_i wa, xa_i sr, xa_i pu, xa_i ri] := (oh17 _ (by omega)).trans hB0
                                have hB1 : h17.1 (kb + 1) = xa_a 9 ld := (oh17 _ (by omega)).trans hB1
                                have hB2 : h17.1 (kb + 2) = xa_a 2 dg := (oh17 _ (by omega)).trans hB2
                                have hn : h17.2 = h.2 := nh17.trans hn
                                have fr : ∀ i, ((i < k ∨ k + 8 ≤ i) ∧ i ≠ kbr ∧ i ≠ kam) → h17.1 i = h.1 i := fun i hi => (oh17 i (by omega)).trans (fr i hi)
                                refine xa_aload_n (pc := 101) dX6_numberShapes_101 rfl ?_
                                refine xa_getfield (pc := 102) dX6_numberShapes_102 flRX6_15 (by omega) (by omega) hT0 rfl ?_
                                refine xa_iload_n (pc := 105) dX6_numberShapes_105 rfl ?_
                                refine xa_iload_n (pc := 106) dX6_numberShapes_106 rfl ?_
                                refine xa_if_eq (pc := 107) (tgt := 121) dX6_numberShapes_107 (by decide) (by decide) (fun c_107 => ?_) (fun c_107 => ?_)
                                · skip
                                  exfalso; omega
                                · skip
                                  refine xa_aload_n (pc := 110) dX6_numberShapes_110 rfl ?_
                                  refine xa_getfield (pc := 111) dX6_numberShapes_111 flRX6_24 (by omega) (by omega) hT0 rfl ?_
                                  refine xa_iload_n (pc := 114) dX6_numberShapes_114 rfl ?_
                                  refine xa_callV (pc := 115) (as := [xa_i 1]) (rest := [xa_i 1, xa_r (k + 2)]) dX6_numberShapes_115 ⟨qX0_lowestOf.1, qX0_lowestOf.2.1, qX0_lowestOf.2.2, by decide, by decide⟩ lkRX6_62 imX0_lowestOf seX0_lowestOf rfl rfl (by omega) (by omega) hB0 rfl (Nat.le_of_ble_eq_true rfl) (Nat.zero_le _) (Nat.zero_le _) (c_lowestOf _ _ _ _ _ _ _ _ _ _ (by decide) (by omega) ⟨hB0, hB1, hB2, by omega, by omega⟩) (fun r h' hq => ?_)
                                  obtain ⟨rfl, hq⟩ := hq
                                  have hq := hq.symm
                                  subst hq
                                  refine xa_goto (pc := 118) (tgt := 122) dX6_numberShapes_118 (by decide) ?_
                                  refine xa_top (y := -tz 2 wa sj 1) (by first | exact tz_y (j := 1) (by decide) (fun z => by omega) | exact tz_n (j := 1) (Or.inr (by omega)) | exact tz_n (j := 1) (Or.inl (by decide))) ?_
                                  refine xa_iastw (pc := 122) 1 dX6_numberShapes_122 (by omega) (by omega) hT2 (by omega) (by omega) rfl (fun h18 nh18 ch18 oh18 => ?_)
                                  have hT2 : h18.1 (k + 2) = xa_a 2 (xa_upf (xa_upf lw 0 (-tz 2 wa sj 0)) 1 (-tz 2 wa sj 1)) := ch18
                                  have hT0 : h18.1 k = xa_o 6 [xa_r kb, xa_r (k + 5), xa_i sj, xa_r (k + 1), xa_r (k + 2), xa_i (27 * (tp 2 wa sr sj 0)), xa_i fs, xa_i lst, xa_r kbr, xa_r kam] := (oh18 _ (by omega)).trans hT0
                                  have hT1 : h18.1 (k + 1) = xa_a 2 (xa_upf (xa_upf pl 0 (tp 2 wa sr sj 0)) 1 (tp 2 wa sr sj 1)) := (oh18 _ (by omega)).trans hT1
                                  have hT3 : h18.1 kbr = xa_a nb br := (oh18 _ (by omega)).trans hT3
                                  have hT4 : h18.1 kam = xa_a na am := (oh18 _ (by omega)).trans hT4
                                  have hS0 : h18.1 (k + 5) = xa_o 4 [xa_r kb, xa_r (k + 5 + 1), xa_r (k + 5 + 2), xa_i tj, xa_i tb] := (oh18 _ (by omega)).trans hS0
                                  have hS1 : h18.1 (k + 5 + 1) = xa_a 3 po := (oh18 _ (by omega)).trans hS1
                                  have hS2 : h18.1 (k + 5 + 2) = xa_a 2 sp := (oh18 _ (by omega)).trans hS2
                                  have hB0 : h18.1 kb = xa_o 0 [xa_r (kb + 1), xa_r (kb + 2), xa_i 3, xa_i 2, xa_i wa, xa_i sr, xa_i pu, xa_i ri] := (oh18 _ (by omega)).trans hB0
                                  have hB1 : h18.1 (kb + 1) = xa_a 9 ld := (oh18 _ (by omega)).trans hB1
                                  have hB2 : h18.1 (kb + 2) = xa_a 2 dg := (oh18 _ (by omega)).trans hB2
                                  have hn : h18.2 = h.2 := nh18.trans hn
                                  have fr : ∀ i, ((i < k ∨ k + 8 ≤ i) ∧ i ≠ kbr ∧ i ≠ kam) → h18.1 i = h.1 i := fun i hi => (oh18 i (by omega)).trans (fr i hi)
                                  refine xa_aload_n (pc := 123) dX6_numberShapes_123 rfl ?_
                                  refine xa_dup (pc := 124) dX6_numberShapes_124 rfl ?_
                                  refine xa_getfield (pc := 125) dX6_numberShapes_125 flRX6_46 (by omega) (by omega) hT0 rfl ?_
                                  refine xa_aload_n (pc := 128) dX6_numberShapes_128 rfl ?_
                                  refine xa_getfield (pc := 129) dX6_numberShapes_129 flRX6_9 (by omega) (by omega) hT0 rfl ?_
                                  refine xa_iload_n (pc := 132) dX6_numberShapes_132 rfl ?_
                                  refine xa_ialdw (pc := 133) 1 dX6_numberShapes_133 (by omega) hT1 (by omega) (by omega) rfl ?_
                                  refine xa_top (y := tp 2 wa sr sj 1) (xa_upf_at _ _ _) ?_
                                  refine xa_imul (pc := 134) dX6_numberShapes_134 ?_
                                  refine xa_top (y := (((kN 3 2 wa sr sj).toNat : Nat) : Int)) (by rw [Int.toNat_of_nonneg (by omega)]; unfold kN; rw [if_pos (by decide)]) ?_
                                  refine xa_putw (pc := 135) [xa_r kb, xa_r (k + 5), xa_i sj, xa_r (k + 1), xa_r (k + 2), xa_i (((kN 3 2 wa sr sj).toNat : Nat) : Int), xa_i fs, xa_i lst, xa_r kbr, xa_r kam] dX6_numberShapes_135 flRX6_46 plX6_5 (by omega) (by omega) hT0 trivial rfl (fun h19 nh19 ch19 oh19 => ?_)
                                  have hT0 : h19.1 k = xa_o 6 [xa_r kb, xa_r (k + 5), xa_i sj, xa_r (k + 1), xa_r (k + 2), xa_i (((kN 3 2 wa sr sj).toNat : Nat) : Int), xa_i fs, xa_i lst, xa_r kbr, xa_r kam] := ch19
                                  have hT1 : h19.1 (k + 1) = xa_a 2 (xa_upf (xa_upf pl 0 (tp 2 wa sr sj 0)) 1 (tp 2 wa sr sj 1)) := (oh19 _ (by omega)).trans hT1
                                  have hT2 : h19.1 (k + 2) = xa_a 2 (xa_upf (xa_upf lw 0 (-tz 2 wa sj 0)) 1 (-tz 2 wa sj 1)) := (oh19 _ (by omega)).trans hT2
                                  have hT3 : h19.1 kbr = xa_a nb br := (oh19 _ (by omega)).trans hT3
                                  have hT4 : h19.1 kam = xa_a na am := (oh19 _ (by omega)).trans hT4
                                  have hS0 : h19.1 (k + 5) = xa_o 4 [xa_r kb, xa_r (k + 5 + 1), xa_r (k + 5 + 2), xa_i tj, xa_i tb] := (oh19 _ (by omega)).trans hS0
                                  have hS1 : h19.1 (k + 5 + 1) = xa_a 3 po := (oh19 _ (by omega)).trans hS1
                                  have hS2 : h19.1 (k + 5 + 2) = xa_a 2 sp := (oh19 _ (by omega)).trans hS2
                                  have hB0 : h19.1 kb = xa_o 0 [xa_r (kb + 1), xa_r (kb + 2), xa_i 3, xa_i 2, xa_i wa, xa_i sr, xa_i pu, xa_i ri] := (oh19 _ (by omega)).trans hB0
                                  have hB1 : h19.1 (kb + 1) = xa_a 9 ld := (oh19 _ (by omega)).trans hB1
                                  have hB2 : h19.1 (kb + 2) = xa_a 2 dg := (oh19 _ (by omega)).trans hB2
                                  have hn : h19.2 = h.2 := nh19.trans hn
                                  have fr : ∀ i, ((i < k ∨ k + 8 ≤ i) ∧ i ≠ kbr ∧ i ≠ kam) → h19.1 i = h.1 i := fun i hi => (oh19 i (by omega)).trans (fr i hi)
                                  refine xa_iincw (pc := 138) (y := 2) [some (xa_r k), some (xa_i 27), some (xa_i 2), some (xa_i 1)] dX6_numberShapes_138 (by decide) rfl rfl rfl rfl ?_
                                  refine xa_goto (pc := 141) (tgt := 32) dX6_numberShapes_141 (by decide) ?_
                                  refine xa_iload_n (pc := 32) dX6_numberShapes_32 rfl ?_
                                  refine xa_aload_n (pc := 33) dX6_numberShapes_33 rfl ?_
                                  refine xa_getfield (pc := 34) dX6_numberShapes_34 flRX6_9 (by omega) (by omega) hT0 rfl ?_
                                  refine xa_alen (pc := 37) dX6_numberShapes_37 (by omega) hT1 ?_
                                  refine xa_top (y := 2) rfl ?_
                                  refine xa_icmp_ge (pc := 38) (tgt := 144) dX6_numberShapes_38 (by decide) (by decide) (by decide) (fun c_38 => ?_) (fun c_38 => ?_)
                                  · skip
                                    exact c_nsTn3 _ _ _ _ _ _ _ _ _ _ _ _ _ _ _ _ _ _ _ _ _ _ _ hk (by omega) hkb hkk hkbr (by omega) hkam (by omega) hkq hB9 hge hna ⟨xa_upf_ne _ _ (by decide) |>.trans (xa_upf_at _ _ _), xa_upf_at _ _ _, xa_upf_ne _ _ (by decide) |>.trans (xa_upf_at _ _ _), xa_upf_at _ _ _, xa_upf_b (xa_upf_b hpl0 (by have := tp_b (sj := sj) hB9 0; omega)) (by have := tp_b (sj := sj) hB9 1; omega)⟩ hT0 hT1 hT2 hT3 hT4 hS0 hS1 hS2 hB0 hB1 hB2 hn fr
                                  · skip
                                    exfalso; omega
        · skip
          exfalso; omega
theorem c_nsTa3 {G : xa_G} {h0 h : xa_H} {g3 : Option xa_V} (k kb kbr kam : Nat) (sj : Int) (pl lw br am : Nat → Int) (nb na : Nat) (fs lst : Int) (po sp : Nat → Int) (tj tb : Int) (ld dg : Nat → Int) (wa sr pu ri : Int) (hk : 2 ≤ k) (hkn : k + 7 < h.2) (hkb : 2 ≤ kb) (hkk : kb + 3 ≤ k) (hkbr : k + 8 ≤ kbr ∨ kbr = k + 3) (hkbr2 : kbr < h.2) (hkam : k + 8 ≤ kam ∨ kam = k + 4) (hkam2 : kam < h.2) (hkq : kbr ≠ kam) (hB9 : vB ld dg 3 2 wa sr pu ri) (hlt : (na : Int) < kN 3 2 wa sr sj) (p : Nat) (hp : h0.2 = p) (hP : kP 2 wa sr sj pl lw) (hT0 : h.1 k = xa_o 6 [xa_r kb, xa_r (k + 5), xa_i sj, xa_r (k + 1), xa_r (k + 2), xa_i (((kN 3 2 wa sr sj).toNat : Nat) : Int), xa_i fs, xa_i lst, xa_r kbr, xa_r kam]) (hT1 : h.1 (k + 1) = xa_a 2 pl) (hT2 : h.1 (k + 2) = xa_a 2 lw) (hT3 : h.1 kbr = xa_a nb br) (hT4 : h.1 kam = xa_a na am) (hS0 : h.1 (k + 5) = xa_o 4 [xa_r kb, xa_r (k + 5 + 1), xa_r (k + 5 + 2), xa_i tj, xa_i tb]) (hS1 : h.1 (k + 5 + 1) = xa_a 3 po) (hS2 : h.1 (k + 5 + 2) = xa_a 2 sp) (hB0 : h.1 kb = xa_o 0 [xa_r (kb + 1), xa_r (kb + 2), xa_i 3, xa_i 2, xa_i wa, xa_i sr, xa_i pu, xa_i ri]) (hB1 : h.1 (kb + 1) = xa_a 9 ld) (hB2 : h.1 (kb + 2) = xa_a 2 dg) (hn : h.2 = h0.2) (fr : ∀ i, ((i < k ∨ k + 8 ≤ i) ∧ i ≠ kbr ∧ i ≠ kam ∧ i < p) → h.1 i = h0.1 i) : xa_W G mX6_numberShapes (xa_Z G (fun r h' => r = none ∧ (∃ pl' lw' : Nat → Int, kP 2 wa sr sj pl' lw' ∧ h'.1 k = xa_o 6 [xa_r kb, xa_r (k + 5), xa_i sj, xa_r (k + 1), xa_r (k + 2), xa_i (((kN 3 2 wa sr sj).toNat : Nat) : Int), xa_i (kF 3 2 wa sr sj), xa_i (kF 3 2 wa sr sj + 27 - 1), xa_r (p + 1), xa_r p] ∧ h'.1 (k + 1) = xa_a 2 pl' ∧ h'.1 (k + 2) = xa_a 2 lw' ∧ h'.1 (p + 1) = xa_a ((kN 3 2 wa sr sj).toNat * 11) (fun _ => 0) ∧ h'.1 p = xa_a ((kN 3 2 wa sr sj).toNat) (xa_fl (fun _ => 0) (kN 3 2 wa sr sj).toNat 0)) ∧ xS h' (k + 5) kb (xa_upf (xa_upf (xa_upf (xa_fl po 3 1) 0 0) 1 0) 2 0) (xa_fl sp 2 0) tj 0 ∧ h'.2 = h0.2 + 2 ∧ ∀ i, ((i < k ∨ k + 8 ≤ i) ∧ i ≠ kbr ∧ i ≠ kam ∧ i < p) → h'.1 i = h0.1 i)) 144 [some (xa_r k), some (xa_i 27), some (xa_i 2), g3] [] h 2 ((kN 3 2 wa sr sj).toNat * 12) := by
  have hkN := kN_b (sj := sj) hB9
  have hkF := kF_b (sj := sj) hB9
  refine xa_aload_n (pc := 144) dX6_numberShapes_144 rfl ?_
  refine xa_getfield (pc := 145) dX6_numberShapes_145 flRX6_21 (by omega) (by omega) hT0 rfl ?_
  refine xa_alen (pc := 148) dX6_numberShapes_148 (by omega) hT4 ?_
  refine xa_aload_n (pc := 149) dX6_numberShapes_149 rfl ?_
  refine xa_getfield (pc := 150) dX6_numberShapes_150 flRX6_46 (by omega) (by omega) hT0 rfl ?_
  refine xa_icmp_ge (pc := 153) (tgt := 179) dX6_numberShapes_153 (by decide) ⟨by omega, by omega⟩ ⟨by omega, by omega⟩ (fun c_153 => ?_) (fun c_153 => ?_)
  · skip
    exfalso; omega
  · skip
    refine xa_aload_n (pc := 156) dX6_numberShapes_156 rfl ?_
    refine xa_aload_n (pc := 157) dX6_numberShapes_157 rfl ?_
    refine xa_getfield (pc := 158) dX6_numberShapes_158 flRX6_46 (by omega) (by omega) hT0 rfl ?_
    refine xa_newap (pc := 161) (mc0 := 1) (ms0 := (kN 3 2 wa sr sj).toNat * 11) ((kN 3 2 wa sr sj).toNat) p (by omega) dX6_numberShapes_161 (by omega) (by omega) (by omega) (by omega) (fun h1 nh1 ch1 oh1 => ?_)
    have hT0 : h1.1 k = xa_o 6 [xa_r kb, xa_r (k + 5), xa_i sj, xa_r (k + 1), xa_r (k + 2), xa_i (((kN 3 2 wa sr sj).toNat : Nat) : Int), xa_i fs, xa_i lst, xa_r kbr, xa_r kam] := (oh1 _ (by omega)).trans hT0
    have hT1 : h1.1 (k + 1) = xa_a 2 pl := (oh1 _ (by omega)).trans hT1
    have hT2 : h1.1 (k + 2) = xa_a 2 lw := (oh1 _ (by omega)).trans hT2
    have hT3 : h1.1 kbr = xa_a nb br := (oh1 _ (by omega)).trans hT3
    have hT4 : h1.1 kam = xa_a na am := (oh1 _ (by omega)).trans hT4
    have hS0 : h1.1 (k + 5) = xa_o 4 [xa_r kb, xa_r (k + 5 + 1), xa_r (k + 5 + 2), xa_i tj, xa_i tb] := (oh1 _ (by omega)).trans hS0
    have hS1 : h1.1 (k + 5 + 1) = xa_a 3 po := (oh1 _ (by omega)).trans hS1
    have hS2 : h1.1 (k + 5 + 2) = xa_a 2 sp := (oh1 _ (by omega)).trans hS2
    have hB0 : h1.1 kb = xa_o 0 [xa_r (kb + 1), xa_r (kb + 2), xa_i 3, xa_i 2, xa_i wa, xa_i sr, xa_i pu, xa_i ri] := (oh1 _ (by omega)).trans hB0
    have hB1 : h1.1 (kb + 1) = xa_a 9 ld := (oh1 _ (by omega)).trans hB1
    have hB2 : h1.1 (kb + 2) = xa_a 2 dg := (oh1 _ (by omega)).trans hB2
    have hA0 : h1.1 p = xa_a ((kN 3 2 wa sr sj).toNat) (fun _ => 0) := ch1
    have hn : h1.2 = h0.2 + 1 := by omega
    have fr : ∀ i, ((i < k ∨ k + 8 ≤ i) ∧ i ≠ kbr ∧ i ≠ kam ∧ i < p) → h1.1 i = h0.1 i := fun i hi => (oh1 i (by omega)).trans (fr i hi)
    refine xa_putw (pc := 163) [xa_r kb, xa_r (k + 5), xa_i sj, xa_r (k + 1), xa_r (k + 2), xa_i (((kN 3 2 wa sr sj).toNat : Nat) : Int), xa_i fs, xa_i lst, xa_r kbr, xa_r p] dX6_numberShapes_163 flRX6_21 plX6_9 (by omega) (by omega) hT0 trivial rfl (fun h2 nh2 ch2 oh2 => ?_)
    have hT0 : h2.1 k = xa_o 6 [xa_r kb, xa_r (k + 5), xa_i sj, xa_r (k + 1), xa_r (k + 2), xa_i (((kN 3 2 wa sr sj).toNat : Nat) : Int), xa_i fs, xa_i lst, xa_r kbr, xa_r p] := ch2
    have hT1 : h2.1 (k + 1) = xa_a 2 pl := (oh2 _ (by omega)).trans hT1
    have hT2 : h2.1 (k + 2) = xa_a 2 lw := (oh2 _ (by omega)).trans hT2
    have hT3 : h2.1 kbr = xa_a nb br := (oh2 _ (by omega)).trans hT3
    have hT4 : h2.1 kam = xa_a na am := (oh2 _ (by omega)).trans hT4
    have hS0 : h2.1 (k + 5) = xa_o 4 [xa_r kb, xa_r (k + 5 + 1), xa_r (k + 5 + 2), xa_i tj, xa_i tb] := (oh2 _ (by omega)).trans hS0
    have hS1 : h2.1 (k + 5 + 1) = xa_a 3 po := (oh2 _ (by omega)).trans hS1
    have hS2 : h2.1 (k + 5 + 2) = xa_a 2 sp := (oh2 _ (by omega)).trans hS2
    have hB0 : h2.1 kb = xa_o 0 [xa_r (kb + 1), xa_r (kb + 2), xa_i 3, xa_i 2, xa_i wa, xa_i sr, xa_i pu, xa_i ri] := (oh2 _ (by omega)).trans hB0
    have hB1 : h2.1 (kb + 1) = xa_a 9 ld := (oh2 _ (by omega)).trans hB1
    have hB2 : h2.1 (kb + 2) = xa_a 2 dg := (oh2 _ (by omega)).trans hB2
    have hA0 : h2.1 p = xa_a ((kN 3 2 wa sr sj).toNat) (fun _ => 0) := (oh2 _ (by omega)).trans hA0
    have hn : h2.2 = h0.2 + 1 := nh2.trans hn
    have fr : ∀ i, ((i < k ∨ k + 8 ≤ i) ∧ i ≠ kbr ∧ i ≠ kam ∧ i < p) → h2.1 i = h0.1 i := fun i hi => (oh2 i (by omega)).trans (fr i hi)
    refine xa_aload_n (pc := 166) dX6_numberShapes_166 rfl ?_
    refine xa_aload_n (pc := 167) dX6_numberShapes_167 rfl ?_
    refine xa_getfield (pc := 168) dX6_numberShapes_168 flRX6_46 (by omega) (by omega) hT0 rfl ?_
    refine xa_bipush (pc := 171) dX6_numberShapes_171 rfl ?_
    refine xa_imul (pc := 173) dX6_numberShapes_173 ?_
    refine xa_newap (pc := 174) (mc0 := 0) (ms0 := 0) ((kN 3 2 wa sr sj).toNat * 11) (p + 1) (by omega) dX6_numberShapes_174 (by omega) (by omega) (by omega) (by omega) (fun h3 nh3 ch3 oh3 => ?_)
    have hT0 : h3.1 k = xa_o 6 [xa_r kb, xa_r (k + 5), xa_i sj, xa_r (k + 1), xa_r (k + 2), xa_i (((kN 3 2 wa sr sj).toNat : Nat) : Int), xa_i fs, xa_i lst, xa_r kbr, xa_r p] := (oh3 _ (by omega)).trans hT0
    have hT1 : h3.1 (k + 1) = xa_a 2 pl := (oh3 _ (by omega)).trans hT1
    have hT2 : h3.1 (k + 2) = xa_a 2 lw := (oh3 _ (by omega)).trans hT2
    have hT3 : h3.1 kbr = xa_a nb br := (oh3 _ (by omega)).trans hT3
    have hT4 : h3.1 kam = xa_a na am := (oh3 _ (by omega)).trans hT4
    have hS0 : h3.1 (k + 5) = xa_o 4 [xa_r kb, xa_r (k + 5 + 1), xa_r (k + 5 + 2), xa_i tj, xa_i tb] := (oh3 _ (by omega)).trans hS0
    have hS1 : h3.1 (k + 5 + 1) = xa_a 3 po := (oh3 _ (by omega)).trans hS1
    have hS2 : h3.1 (k + 5 + 2) = xa_a 2 sp := (oh3 _ (by omega)).trans hS2
    have hB0 : h3.1 kb = xa_o 0 [xa_r (kb + 1), xa_r (kb + 2), xa_i 3, xa_i 2, xa_i wa, xa_i sr, xa_i pu, xa_i ri] := (oh3 _ (by omega)).trans hB0
    have hB1 : h3.1 (kb + 1) = xa_a 9 ld := (oh3 _ (by omega)).trans hB1
    have hB2 : h3.1 (kb + 2) = xa_a 2 dg := (oh3 _ (by omega)).trans hB2
    have hA0 : h3.1 p = xa_a ((kN 3 2 wa sr sj).toNat) (fun _ => 0) := (oh3 _ (by omega)).trans hA0
    have hA1 : h3.1 (p + 1) = xa_a ((kN 3 2 wa sr sj).toNat * 11) (fun _ => 0) := ch3
    have hn : h3.2 = h0.2 + 2 := by omega
    have fr : ∀ i, ((i < k ∨ k + 8 ≤ i) ∧ i ≠ kbr ∧ i ≠ kam ∧ i < p) → h3.1 i = h0.1 i := fun i hi => (oh3 i (by omega)).trans (fr i hi)
    refine xa_putw (pc := 176) [xa_r kb, xa_r (k + 5), xa_i sj, xa_r (k + 1), xa_r (k + 2), xa_i (((kN 3 2 wa sr sj).toNat : Nat) : Int), xa_i fs, xa_i lst, xa_r (p + 1), xa_r p] dX6_numberShapes_176 flRX6_18 plX6_8 (by omega) (by omega) hT0 trivial rfl (fun h4 nh4 ch4 oh4 => ?_)
    have hT0 : h4.1 k = xa_o 6 [xa_r kb, xa_r (k + 5), xa_i sj, xa_r (k + 1), xa_r (k + 2), xa_i (((kN 3 2 wa sr sj).toNat : Nat) : Int), xa_i fs, xa_i lst, xa_r (p + 1), xa_r p] := ch4
    have hT1 : h4.1 (k + 1) = xa_a 2 pl := (oh4 _ (by omega)).trans hT1
    have hT2 : h4.1 (k + 2) = xa_a 2 lw := (oh4 _ (by omega)).trans hT2
    have hT3 : h4.1 kbr = xa_a nb br := (oh4 _ (by omega)).trans hT3
    have hT4 : h4.1 kam = xa_a na am := (oh4 _ (by omega)).trans hT4
    have hS0 : h4.1 (k + 5) = xa_o 4 [xa_r kb, xa_r (k + 5 + 1), xa_r (k + 5 + 2), xa_i tj, xa_i tb] := (oh4 _ (by omega)).trans hS0
    have hS1 : h4.1 (k + 5 + 1) = xa_a 3 po := (oh4 _ (by omega)).trans hS1
    have hS2 : h4.1 (k + 5 + 2) = xa_a 2 sp := (oh4 _ (by omega)).trans hS2
    have hB0 : h4.1 kb = xa_o 0 [xa_r (kb + 1), xa_r (kb + 2), xa_i 3, xa_i 2, xa_i wa, xa_i sr, xa_i pu, xa_i ri] := (oh4 _ (by omega)).trans hB0
    have hB1 : h4.1 (kb + 1) = xa_a 9 ld := (oh4 _ (by omega)).trans hB1
    have hB2 : h4.1 (kb + 2) = xa_a 2 dg := (oh4 _ (by omega)).trans hB2
    have hA0 : h4.1 p = xa_a ((kN 3 2 wa sr sj).toNat) (fun _ => 0) := (oh4 _ (by omega)).trans hA0
    have hA1 : h4.1 (p + 1) = xa_a ((kN 3 2 wa sr sj).toNat * 11) (fun _ => 0) := (oh4 _ (by omega)).trans hA1
    have hn : h4.2 = h0.2 + 2 := nh4.trans hn
    have fr : ∀ i, ((i < k ∨ k + 8 ≤ i) ∧ i ≠ kbr ∧ i ≠ kam ∧ i < p) → h4.1 i = h0.1 i := fun i hi => (oh4 i (by omega)).trans (fr i hi)
    refine xa_aload_n (pc := 179) dX6_numberShapes_179 rfl ?_
    refine xa_getfield (pc := 180) dX6_numberShapes_180 flRX6_21 (by omega) (by omega) hT0 rfl ?_
    refine xa_iconst (pc := 183) dX6_numberShapes_183 ?_
    refine xa_callS (pc := 184) (as := [xa_r p, xa_i 0]) (rest := []) dX6_numberShapes_184 ⟨qJ7_fill_53178.1, qJ7_fill_53178.2.1, qJ7_fill_53178.2.2, by decide, by decide⟩ lkRX6_65 smJ7_fill_53178 rfl rfl (Nat.le_of_ble_eq_true rfl) (Nat.zero_le _) (Nat.zero_le _) (c_fill _ _ _ _ (by omega) (by omega) (by omega) hA0) (fun r h' hq => ?_)
    obtain ⟨rfl, hqn, hqA, hqf⟩ := hq
    have hA0 : h'.1 p = xa_a ((kN 3 2 wa sr sj).toNat) (xa_fl (fun _ => 0) ((kN 3 2 wa sr sj).toNat) 0) := hqA
    have hT0 : h'.1 k = xa_o 6 [xa_r kb, xa_r (k + 5), xa_i sj, xa_r (k + 1), xa_r (k + 2), xa_i (((kN 3 2 wa sr sj).toNat : Nat) : Int), xa_i fs, xa_i lst, xa_r (p + 1), xa_r p] := (hqf _ (by omega)).trans hT0
    have hT1 : h'.1 (k + 1) = xa_a 2 pl := (hqf _ (by omega)).trans hT1
    have hT2 : h'.1 (k + 2) = xa_a 2 lw := (hqf _ (by omega)).trans hT2
    have hT3 : h'.1 kbr = xa_a nb br := (hqf _ (by omega)).trans hT3
    have hT4 : h'.1 kam = xa_a na am := (hqf _ (by omega)).trans hT4
    have hS0 : h'.1 (k + 5) = xa_o 4 [xa_r kb, xa_r (k + 5 + 1), xa_r (k + 5 + 2), xa_i tj, xa_i tb] := (hqf _ (by omega)).trans hS0
    have hS1 : h'.1 (k + 5 + 1) = xa_a 3 po := (hqf _ (by omega)).trans hS1
    have hS2 : h'.1 (k + 5 + 2) = xa_a 2 sp := (hqf _ (by omega)).trans hS2
    have hB0 : h'.1 kb = xa_o 0 [xa_r (kb + 1), xa_r (kb + 2), xa_i 3, xa_i 2, xa_i wa, xa_i sr, xa_i pu, xa_i ri] := (hqf _ (by omega)).trans hB0
    have hB1 : h'.1 (kb + 1) = xa_a 9 ld := (hqf _ (by omega)).trans hB1
    have hB2 : h'.1 (kb + 2) = xa_a 2 dg := (hqf _ (by omega)).trans hB2
    have hA1 : h'.1 (p + 1) = xa_a ((kN 3 2 wa sr sj).toNat * 11) (fun _ => 0) := (hqf _ (by omega)).trans hA1
    have hn : h'.2 = h0.2 + 2 := hqn.trans hn
    have fr : ∀ i, ((i < k ∨ k + 8 ≤ i) ∧ i ≠ kbr ∧ i ≠ kam ∧ i < p) → h'.1 i = h0.1 i := fun i hi => (hqf i (by omega)).trans (fr i hi)
    refine xa_aload_n (pc := 187) dX6_numberShapes_187 rfl ?_
    refine xa_getfield (pc := 188) dX6_numberShapes_188 flRX6_37 (by omega) (by omega) hT0 rfl ?_
    refine xa_callV (pc := 191) (as := []) (rest := []) dX6_numberShapes_191 ⟨qX4_rest.1, qX4_rest.2.1, qX4_rest.2.2, by decide, by decide⟩ lkRX6_71 imX4_rest seX4_rest rfl rfl (by omega) (by omega) hS0 rfl (Nat.le_of_ble_eq_true rfl) (Nat.zero_le _) (Nat.zero_le _) (c_rest _ _ _ _ _ _ _ _ 3 2 _ _ _ _ ⟨hS0, hS1, hS2, by omega, by omega⟩ ⟨hB0, hB1, hB2, by omega, by omega⟩ (by omega) (by omega) (by omega)) (fun r h' hq => ?_)
    obtain ⟨rfl, ⟨hS0, hS1, hS2, -, -⟩, hqn, hqf⟩ := hq
    have hS0 : h'.1 (k + 5) = xa_o 4 [xa_r kb, xa_r (k + 5 + 1), xa_r (k + 5 + 2), xa_i tj, xa_i 0] := hS0
    have hS1 : h'.1 (k + 5 + 1) = xa_a 3 (xa_fl po 3 1) := hS1
    have hS2 : h'.1 (k + 5 + 2) = xa_a 2 (xa_fl sp 2 0) := hS2
    have hT0 : h'.1 k = xa_o 6 [xa_r kb, xa_r (k + 5), xa_i sj, xa_r (k + 1), xa_r (k + 2), xa_i (((kN 3 2 wa sr sj).toNat : Nat) : Int), xa_i fs, xa_i lst, xa_r (p + 1), xa_r p] := (hqf _ (by omega)).trans hT0
    have hT1 : h'.1 (k + 1) = xa_a 2 pl := (hqf _ (by omega)).trans hT1
    have hT2 : h'.1 (k + 2) = xa_a 2 lw := (hqf _ (by omega)).trans hT2
    have hT3 : h'.1 kbr = xa_a nb br := (hqf _ (by omega)).trans hT3
    have hT4 : h'.1 kam = xa_a na am := (hqf _ (by omega)).trans hT4
    have hB0 : h'.1 kb = xa_o 0 [xa_r (kb + 1), xa_r (kb + 2), xa_i 3, xa_i 2, xa_i wa, xa_i sr, xa_i pu, xa_i ri] := (hqf _ (by omega)).trans hB0
    have hB1 : h'.1 (kb + 1) = xa_a 9 ld := (hqf _ (by omega)).trans hB1
    have hB2 : h'.1 (kb + 2) = xa_a 2 dg := (hqf _ (by omega)).trans hB2
    have hA0 : h'.1 p = xa_a ((kN 3 2 wa sr sj).toNat) (xa_fl (fun _ => 0) ((kN 3 2 wa sr sj).toNat) 0) := (hqf _ (by omega)).trans hA0
    have hA1 : h'.1 (p + 1) = xa_a ((kN 3 2 wa sr sj).toNat * 11) (fun _ => 0) := (hqf _ (by omega)).trans hA1
    have hn : h'.2 = h0.2 + 2 := hqn.trans hn
    have fr : ∀ i, ((i < k ∨ k + 8 ≤ i) ∧ i ≠ kbr ∧ i ≠ kam ∧ i < p) → h'.1 i = h0.1 i := fun i hi => (hqf i (by omega)).trans (fr i hi)
    refine xa_iconst (pc := 194) dX6_numberShapes_194 ?_
    refine xa_istoren (pc := 195) [some (xa_r k), some (xa_i 27), some (xa_i 0), g3] dX6_numberShapes_195 (by decide) (Nat.le_of_ble_eq_true rfl) rfl rfl ?_
    refine xa_iload_n (pc := 196) dX6_numberShapes_196 rfl ?_
    refine xa_aload_n (pc := 197) dX6_numberShapes_197 rfl ?_
    refine xa_getfield (pc := 198) dX6_numberShapes_198 flRX6_24 (by omega) (by omega) hT0 rfl ?_
    refine xa_getfield (pc := 201) dX6_numberShapes_201 flRX6_41 (by omega) (by omega) hB0 rfl ?_
    refine xa_icmp_ge (pc := 204) (tgt := 222) dX6_numberShapes_204 (by decide) (by decide) (by decide) (fun c_204 => ?_) (fun c_204 => ?_)
    · skip
      exfalso; omega
    · skip
      refine xa_aload_n (pc := 207) dX6_numberShapes_207 rfl ?_
      refine xa_getfield (pc := 208) dX6_numberShapes_208 flRX6_37 (by omega) (by omega) hT0 rfl ?_
      refine xa_iload_n (pc := 211) dX6_numberShapes_211 rfl ?_
      refine xa_iconst (pc := 212) dX6_numberShapes_212 ?_
      refine xa_callV (pc := 213) (as := [xa_i 0, xa_i 0]) (rest := []) dX6_numberShapes_213 ⟨qX4_takePose.1, qX4_takePose.2.1, qX4_takePose.2.2, by decide, by decide⟩ lkRX6_74 imX4_takePose seX4_takePose rfl rfl (by omega) (by omega) hS0 rfl (Nat.le_of_ble_eq_true rfl) (Nat.zero_le _) (Nat.zero_le _) (c_takePose _ _ _ _ _ _ 0 0 0 rfl ⟨by decide, by decide⟩ (by omega) (by omega) hS0 hS1 hS2) (fun r h' hq => ?_)
      obtain ⟨rfl, hqA, hqn, hqf⟩ := hq
      have hS1 : h'.1 (k + 5 + 1) = xa_a 3 (xa_upf (xa_fl po 3 1) 0 0) := hqA
      have hT0 : h'.1 k = xa_o 6 [xa_r kb, xa_r (k + 5), xa_i sj, xa_r (k + 1), xa_r (k + 2), xa_i (((kN 3 2 wa sr sj).toNat : Nat) : Int), xa_i fs, xa_i lst, xa_r (p + 1), xa_r p] := (hqf _ (by omega)).trans hT0
      have hT1 : h'.1 (k + 1) = xa_a 2 pl := (hqf _ (by omega)).trans hT1
      have hT2 : h'.1 (k + 2) = xa_a 2 lw := (hqf _ (by omega)).trans hT2
      have hT3 : h'.1 kbr = xa_a nb br := (hqf _ (by omega)).trans hT3
      have hT4 : h'.1 kam = xa_a na am := (hqf _ (by omega)).trans hT4
      have hS0 : h'.1 (k + 5) = xa_o 4 [xa_r kb, xa_r (k + 5 + 1), xa_r (k + 5 + 2), xa_i tj, xa_i 0] := (hqf _ (by omega)).trans hS0
      have hS2 : h'.1 (k + 5 + 2) = xa_a 2 (xa_fl sp 2 0) := (hqf _ (by omega)).trans hS2
      have hB0 : h'.1 kb = xa_o 0 [xa_r (kb + 1), xa_r (kb + 2), xa_i 3, xa_i 2, xa_i wa, xa_i sr, xa_i pu, xa_i ri] := (hqf _ (by omega)).trans hB0
      have hB1 : h'.1 (kb + 1) = xa_a 9 ld := (hqf _ (by omega)).trans hB1
      have hB2 : h'.1 (kb + 2) = xa_a 2 dg := (hqf _ (by omega)).trans hB2
      have hA0 : h'.1 p = xa_a ((kN 3 2 wa sr sj).toNat) (xa_fl (fun _ => 0) ((kN 3 2 wa sr sj).toNat) 0) := (hqf _ (by omega)).trans hA0
      have hA1 : h'.1 (p + 1) = xa_a ((kN 3 2 wa sr sj).toNat * 11) (fun _ => 0) := (hqf _ (by omega)).trans hA1
      have hn : h'.2 = h0.2 + 2 := hqn.trans hn
      have fr : ∀ i, ((i < k ∨ k + 8 ≤ i) ∧ i ≠ kbr ∧ i ≠ kam ∧ i < p) → h'.1 i = h0.1 i := fun i hi => (hqf i (by omega)).trans (fr i hi)
      refine xa_iincw (pc := 216) (y := 1) [some (xa_r k), some (xa_i 27), some (xa_i 1), g3] dX6_numberShapes_216 (by decide) rfl rfl rfl rfl ?_
      refine xa_goto (pc := 219) (tgt := 196) dX6_numberShapes_219 (by decide) ?_
      refine xa_iload_n (pc := 196) dX6_numberShapes_196 rfl ?_
      refine xa_aload_n (pc := 197) dX6_numberShapes_197 rfl ?_
      refine xa_getfield (pc := 198) dX6_numberShapes_198 flRX6_24 (by omega) (by omega) hT0 rfl ?_
      refine xa_getfield (pc := 201) dX6_numberShapes_201 flRX6_41 (by omega) (by omega) hB0 rfl ?_
      refine xa_icmp_ge (pc := 204) (tgt := 222) dX6_numberShapes_204 (by decide) (by decide) (by decide) (fun c_204 => ?_) (fun c_204 => ?_)
      · skip
        exfalso; omega
      · skip
        refine xa_aload_n (pc := 207) dX6_numberShapes_207 rfl ?_
        refine xa_getfield (pc := 208) dX6_numberShapes_208 flRX6_37 (by omega) (by omega) hT0 rfl ?_
        refine xa_iload_n (pc := 211) dX6_numberShapes_211 rfl ?_
        refine xa_iconst (pc := 212) dX6_numberShapes_212 ?_
        refine xa_callV (pc := 213) (as := [xa_i 1, xa_i 0]) (rest := []) dX6_numberShapes_213 ⟨qX4_takePose.1, qX4_takePose.2.1, qX4_takePose.2.2, by decide, by decide⟩ lkRX6_74 imX4_takePose seX4_takePose rfl rfl (by omega) (by omega) hS0 rfl (Nat.le_of_ble_eq_true rfl) (Nat.zero_le _) (Nat.zero_le _) (c_takePose _ _ _ _ _ _ 1 0 1 rfl ⟨by decide, by decide⟩ (by omega) (by omega) hS0 hS1 hS2) (fun r h' hq => ?_)
        obtain ⟨rfl, hqA, hqn, hqf⟩ := hq
        have hS1 : h'.1 (k + 5 + 1) = xa_a 3 (xa_upf (xa_upf (xa_fl po 3 1) 0 0) 1 0) := hqA
        have hT0 : h'.1 k = xa_o 6 [xa_r kb, xa_r (k + 5), xa_i sj, xa_r (k + 1), xa_r (k + 2), xa_i (((kN 3 2 wa sr sj).toNat : Nat) : Int), xa_i fs, xa_i lst, xa_r (p + 1), xa_r p] := (hqf _ (by omega)).trans hT0
        have hT1 : h'.1 (k + 1) = xa_a 2 pl := (hqf _ (by omega)).trans hT1
        have hT2 : h'.1 (k + 2) = xa_a 2 lw := (hqf _ (by omega)).trans hT2
        have hT3 : h'.1 kbr = xa_a nb br := (hqf _ (by omega)).trans hT3
        have hT4 : h'.1 kam = xa_a na am := (hqf _ (by omega)).trans hT4
        have hS0 : h'.1 (k + 5) = xa_o 4 [xa_r kb, xa_r (k + 5 + 1), xa_r (k + 5 + 2), xa_i tj, xa_i 0] := (hqf _ (by omega)).trans hS0
        have hS2 : h'.1 (k + 5 + 2) = xa_a 2 (xa_fl sp 2 0) := (hqf _ (by omega)).trans hS2
        have hB0 : h'.1 kb = xa_o 0 [xa_r (kb + 1), xa_r (kb + 2), xa_i 3, xa_i 2, xa_i wa, xa_i sr, xa_i pu, xa_i ri] := (hqf _ (by omega)).trans hB0
        have hB1 : h'.1 (kb + 1) = xa_a 9 ld := (hqf _ (by omega)).trans hB1
        have hB2 : h'.1 (kb + 2) = xa_a 2 dg := (hqf _ (by omega)).trans hB2
        have hA0 : h'.1 p = xa_a ((kN 3 2 wa sr sj).toNat) (xa_fl (fun _ => 0) ((kN 3 2 wa sr sj).toNat) 0) := (hqf _ (by omega)).trans hA0
        have hA1 : h'.1 (p + 1) = xa_a ((kN 3 2 wa sr sj).toNat * 11) (fun _ => 0) := (hqf _ (by omega)).trans hA1
        have hn : h'.2 = h0.2 + 2 := hqn.trans hn
        have fr : ∀ i, ((i < k ∨ k + 8 ≤ i) ∧ i ≠ kbr ∧ i ≠ kam ∧ i < p) → h'.1 i = h0.1 i := fun i hi => (hqf i (by omega)).trans (fr i hi)
        refine xa_iincw (pc := 216) (y := 2) [some (xa_r k), some (xa_i 27), some (xa_i 2), g3] dX6_numberShapes_216 (by decide) rfl rfl rfl rfl ?_
        refine xa_goto (pc := 219) (tgt := 196) dX6_numberShapes_219 (by decide) ?_
        refine xa_iload_n (pc := 196) dX6_numberShapes_196 rfl ?_
        refine xa_aload_n (pc := 197) dX6_numberShapes_197 rfl ?_
        refine xa_getfield (pc := 198) dX6_numberShapes_198 flRX6_24 (by omega) (by omega) hT0 rfl ?_
        refine xa_getfield (pc := 201) dX6_numberShapes_201 flRX6_41 (by omega) (by omega) hB0 rfl ?_
        refine xa_icmp_ge (pc := 204) (tgt := 222) dX6_numberShapes_204 (by decide) (by decide) (by decide) (fun c_204 => ?_) (fun c_204 => ?_)
        · skip
          exfalso; omega
        · skip
          refine xa_aload_n (pc := 207) dX6_numberShapes_207 rfl ?_
          refine xa_getfield (pc := 208) dX6_numberShapes_208 flRX6_37 (by omega) (by omega) hT0 rfl ?_
          refine xa_iload_n (pc := 211) dX6_numberShapes_211 rfl ?_
          refine xa_iconst (pc := 212) dX6_numberShapes_212 ?_
          refine xa_callV (pc := 213) (as := [xa_i 2, xa_i 0]) (rest := []) dX6_numberShapes_213 ⟨qX4_takePose.1, qX4_takePose.2.1, qX4_takePose.2.2, by decide, by decide⟩ lkRX6_74 imX4_takePose seX4_takePose rfl rfl (by omega) (by omega) hS0 rfl (Nat.le_of_ble_eq_true rfl) (Nat.zero_le _) (Nat.zero_le _) (c_takePose _ _ _ _ _ _ 2 0 2 rfl ⟨by decide, by decide⟩ (by omega) (by omega) hS0 hS1 hS2) (fun r h' hq => ?_)
          obtain ⟨rfl, hqA, hqn, hqf⟩ := hq
          have hS1 : h'.1 (k + 5 + 1) = xa_a 3 (xa_upf (xa_upf (xa_upf (xa_fl po 3 1) 0 0) 1 0) 2 0) := hqA
          have hT0 : h'.1 k = xa_o 6 [xa_r kb, xa_r (k + 5), xa_i sj, xa_r (k + 1), xa_r (k + 2), xa_i (((kN 3 2 wa sr sj).toNat : Nat) : Int), xa_i fs, xa_i lst, xa_r (p + 1), xa_r p] := (hqf _ (by omega)).trans hT0
          have hT1 : h'.1 (k + 1) = xa_a 2 pl := (hqf _ (by omega)).trans hT1
          have hT2 : h'.1 (k + 2) = xa_a 2 lw := (hqf _ (by omega)).trans hT2
          have hT3 : h'.1 kbr = xa_a nb br := (hqf _ (by omega)).trans hT3
          have hT4 : h'.1 kam = xa_a na am := (hqf _ (by omega)).trans hT4
          have hS0 : h'.1 (k + 5) = xa_o 4 [xa_r kb, xa_r (k + 5 + 1), xa_r (k + 5 + 2), xa_i tj, xa_i 0] := (hqf _ (by omega)).trans hS0
          have hS2 : h'.1 (k + 5 + 2) = xa_a 2 (xa_fl sp 2 0) := (hqf _ (by omega)).trans hS2
          have hB0 : h'.1 kb = xa_o 0 [xa_r (kb + 1), xa_r (kb + 2), xa_i 3, xa_i 2, xa_i wa, xa_i sr, xa_i pu, xa_i ri] := (hqf _ (by omega)).trans hB0
          have hB1 : h'.1 (kb + 1) = xa_a 9 ld := (hqf _ (by omega)).trans hB1
          have hB2 : h'.1 (kb + 2) = xa_a 2 dg := (hqf _ (by omega)).trans hB2
          have hA0 : h'.1 p = xa_a ((kN 3 2 wa sr sj).toNat) (xa_fl (fun _ => 0) ((kN 3 2 wa sr sj).toNat) 0) := (hqf _ (by omega)).trans hA0
          have hA1 : h'.1 (p + 1) = xa_a ((kN 3 2 wa sr sj).toNat * 11) (fun _ => 0) := (hqf _ (by omega)).trans hA1
          have hn : h'.2 = h0.2 + 2 := hqn.trans hn
          have fr : ∀ i, ((i < k ∨ k + 8 ≤ i) ∧ i ≠ kbr ∧ i ≠ kam ∧ i < p) → h'.1 i = h0.1 i := fun i hi => (hqf i (by omega)).trans (fr i hi)
          refine xa_iincw (pc := 216) (y := 3) [some (xa_r k), some (xa_i 27), some (xa_i 3), g3] dX6_numberShapes_216 (by decide) rfl rfl rfl rfl ?_
          refine xa_goto (pc := 219) (tgt := 196) dX6_numberShapes_219 (by decide) ?_
          refine xa_iload_n (pc := 196) dX6_numberShapes_196 rfl ?_
          refine xa_aload_n (pc := 197) dX6_numberShapes_197 rfl ?_
          refine xa_getfield (pc := 198) dX6_numberShapes_198 flRX6_24 (by omega) (by omega) hT0 rfl ?_
          refine xa_getfield (pc := 201) dX6_numberShapes_201 flRX6_41 (by omega) (by omega) hB0 rfl ?_
          refine xa_icmp_ge (pc := 204) (tgt := 222) dX6_numberShapes_204 (by decide) (by decide) (by decide) (fun c_204 => ?_) (fun c_204 => ?_)
          · skip
            refine xa_aload_n (pc := 222) dX6_numberShapes_222 rfl ?_
            refine xa_aload_n (pc := 223) dX6_numberShapes_223 rfl ?_
            refine xa_callV (pc := 224) (as := []) (rest := [xa_r k]) dX6_numberShapes_224 ⟨qX6_numberNow.1, qX6_numberNow.2.1, qX6_numberNow.2.2, by decide, by decide⟩ lkRX6_78 imX6_numberNow seX6_numberNow rfl rfl (by omega) (by omega) hT0 rfl (Nat.le_of_ble_eq_true rfl) (Nat.zero_le _) (Nat.zero_le _) (c_numberNow3 _ _ _ _ _ _ _ _ _ _ _ (kN 3 2 wa sr sj).toNat _ _ _ _ _ _ _ _ _ _ _ _ _ (by omega) (by omega) (by omega) (by omega) (by omega) (by omega) (by omega) (by omega) hT0 hT1 hT2 hA1 hA0 hS0 hS1 hS2 hB0 hB1 hB2) (fun r h' hq => ?_)
            obtain ⟨rfl, hq⟩ := hq
            have hq := hq.symm
            subst hq
            refine xa_top (y := kF 3 2 wa sr sj) ?_ ?_
            · rw [kF_E]; exact (num_E (pa := 3) (jo := 2) (sr := sr) (wa := wa) (sj := sj) (pl := pl) (lw := lw) (po := xa_upf (xa_upf (xa_upf (xa_fl po 3 1) 0 0) 1 0) 2 0) (sp := xa_fl sp 2 0) (c := (0, 0, 0, 0, 0)) hP ⟨(xa_upf_ne _ _ (by decide)).trans ((xa_upf_ne _ _ (by decide)).trans (xa_upf_at _ _ _)), (xa_upf_ne _ _ (by decide)).trans (xa_upf_at _ _ _), fun _ => xa_upf_at _ _ _, xa_fl_lt _ _ (by decide), xa_fl_lt _ _ (by decide)⟩).2 (by decide)
            refine xa_putw (pc := 227) [xa_r kb, xa_r (k + 5), xa_i sj, xa_r (k + 1), xa_r (k + 2), xa_i (((kN 3 2 wa sr sj).toNat : Nat) : Int), xa_i (kF 3 2 wa sr sj), xa_i lst, xa_r (p + 1), xa_r p] dX6_numberShapes_227 flRX6_82 plX6_6 (by omega) (by omega) hT0 trivial rfl (fun h5 nh5 ch5 oh5 => ?_)
            have hT0 : h5.1 k = xa_o 6 [xa_r kb, xa_r (k + 5), xa_i sj, xa_r (k + 1), xa_r (k + 2), xa_i (((kN 3 2 wa sr sj).toNat : Nat) : Int), xa_i (kF 3 2 wa sr sj), xa_i lst, xa_r (p + 1), xa_r p] := ch5
            have hT1 : h5.1 (k + 1) = xa_a 2 pl := (oh5 _ (by omega)).trans hT1
            have hT2 : h5.1 (k + 2) = xa_a 2 lw := (oh5 _ (by omega)).trans hT2
            have hT3 : h5.1 kbr = xa_a nb br := (oh5 _ (by omega)).trans hT3
            have hT4 : h5.1 kam = xa_a na am := (oh5 _ (by omega)).trans hT4
            have hS0 : h5.1 (k + 5) = xa_o 4 [xa_r kb, xa_r (k + 5 + 1), xa_r (k + 5 + 2), xa_i tj, xa_i 0] := (oh5 _ (by omega)).trans hS0
            have hS1 : h5.1 (k + 5 + 1) = xa_a 3 (xa_upf (xa_upf (xa_upf (xa_fl po 3 1) 0 0) 1 0) 2 0) := (oh5 _ (by omega)).trans hS1
            have hS2 : h5.1 (k + 5 + 2) = xa_a 2 (xa_fl sp 2 0) := (oh5 _ (by omega)).trans hS2
            have hB0 : h5.1 kb = xa_o 0 [xa_r (kb + 1), xa_r (kb + 2), xa_i 3, xa_i 2, xa_i wa, xa_i sr, xa_i pu, xa_i ri] := (oh5 _ (by omega)).trans hB0
            have hB1 : h5.1 (kb + 1) = xa_a 9 ld := (oh5 _ (by omega)).trans hB1
            have hB2 : h5.1 (kb + 2) = xa_a 2 dg := (oh5 _ (by omega)).trans hB2
            have hA0 : h5.1 p = xa_a ((kN 3 2 wa sr sj).toNat) (xa_fl (fun _ => 0) ((kN 3 2 wa sr sj).toNat) 0) := (oh5 _ (by omega)).trans hA0
            have hA1 : h5.1 (p + 1) = xa_a ((kN 3 2 wa sr sj).toNat * 11) (fun _ => 0) := (oh5 _ (by omega)).trans hA1
            have hn : h5.2 = h0.2 + 2 := nh5.trans hn
            have fr : ∀ i, ((i < k ∨ k + 8 ≤ i) ∧ i ≠ kbr ∧ i ≠ kam ∧ i < p) → h5.1 i = h0.1 i := fun i hi => (oh5 i (by omega)).trans (fr i hi)
            refine xa_aload_n (pc := 230) dX6_numberShapes_230 rfl ?_
            refine xa_aload_n (pc := 231) dX6_numberShapes_231 rfl ?_
            refine xa_getfield (pc := 232) dX6_numberShapes_232 flRX6_82 (by omega) (by omega) hT0 rfl ?_
            refine xa_iload_n (pc := 235) dX6_numberShapes_235 rfl ?_
            refine xa_iadd (pc := 236) dX6_numberShapes_236 ?_
            refine xa_iconst (pc := 237) dX6_numberShapes_237 ?_
            refine xa_isub (pc := 238) dX6_numberShapes_238 ?_
            refine xa_putw (pc := 239) [xa_r kb, xa_r (k + 5), xa_i sj, xa_r (k + 1), xa_r (k + 2), xa_i (((kN 3 2 wa sr sj).toNat : Nat) : Int), xa_i (kF 3 2 wa sr sj), xa_i (((kF 3 2 wa sr sj) + 27) - 1), xa_r (p + 1), xa_r p] dX6_numberShapes_239 flRX6_85 plX6_7 (by omega) (by omega) hT0 trivial rfl (fun h6 nh6 ch6 oh6 => ?_)
            have hT0 : h6.1 k = xa_o 6 [xa_r kb, xa_r (k + 5), xa_i sj, xa_r (k + 1), xa_r (k + 2), xa_i (((kN 3 2 wa sr sj).toNat : Nat) : Int), xa_i (kF 3 2 wa sr sj), xa_i (((kF 3 2 wa sr sj) + 27) - 1), xa_r (p + 1), xa_r p] := ch6
            have hT1 : h6.1 (k + 1) = xa_a 2 pl := (oh6 _ (by omega)).trans hT1
            have hT2 : h6.1 (k + 2) = xa_a 2 lw := (oh6 _ (by omega)).trans hT2
            have hT3 : h6.1 kbr = xa_a nb br := (oh6 _ (by omega)).trans hT3
            have hT4 : h6.1 kam = xa_a na am := (oh6 _ (by omega)).trans hT4
            have hS0 : h6.1 (k + 5) = xa_o 4 [xa_r kb, xa_r (k + 5 + 1), xa_r (k + 5 + 2), xa_i tj, xa_i 0] := (oh6 _ (by omega)).trans hS0
            have hS1 : h6.1 (k + 5 + 1) = xa_a 3 (xa_upf (xa_upf (xa_upf (xa_fl po 3 1) 0 0) 1 0) 2 0) := (oh6 _ (by omega)).trans hS1
            have hS2 : h6.1 (k + 5 + 2) = xa_a 2 (xa_fl sp 2 0) := (oh6 _ (by omega)).trans hS2
            have hB0 : h6.1 kb = xa_o 0 [xa_r (kb + 1), xa_r (kb + 2), xa_i 3, xa_i 2, xa_i wa, xa_i sr, xa_i pu, xa_i ri] := (oh6 _ (by omega)).trans hB0
            have hB1 : h6.1 (kb + 1) = xa_a 9 ld := (oh6 _ (by omega)).trans hB1
            have hB2 : h6.1 (kb + 2) = xa_a 2 dg := (oh6 _ (by omega)).trans hB2
            have hA0 : h6.1 p = xa_a ((kN 3 2 wa sr sj).toNat) (xa_fl (fun _ => 0) ((kN 3 2 wa sr sj).toNat) 0) := (oh6 _ (by omega)).trans hA0
            have hA1 : h6.1 (p + 1) = xa_a ((kN 3 2 wa sr sj).toNat * 11) (fun _ => 0) := (oh6 _ (by omega)).trans hA1
            have hn : h6.2 = h0.2 + 2 := nh6.trans hn
            have fr : ∀ i, ((i < k ∨ k + 8 ≤ i) ∧ i ≠ kbr ∧ i ≠ kam ∧ i < p) → h6.1 i = h0.1 i := fun i hi => (oh6 i (by omega)).trans (fr i hi)
            refine xa_return (pc := 242) dX6_numberShapes_242 rfl ?_
            exact ⟨rfl, ⟨pl, lw, hP, hT0, hT1, hT2, hA1, hA0⟩, ⟨hS0, hS1, hS2, by omega, by omega⟩, by omega, fr⟩
          · skip
            exfalso; omega
theorem c_numberShapesa3 {G : xa_G} {h : xa_H} (k kb kbr kam : Nat) (sj : Int) (pl lw br am : Nat → Int) (nb na : Nat) (ns fs lst : Int) (po sp : Nat → Int) (tj tb : Int) (ld dg : Nat → Int) (wa sr pu ri : Int) (hk : 2 ≤ k) (hkn : k + 7 < h.2) (hkb : 2 ≤ kb) (hkk : kb + 3 ≤ k) (hkbr : k + 8 ≤ kbr ∨ kbr = k + 3) (hkbr2 : kbr < h.2) (hkam : k + 8 ≤ kam ∨ kam = k + 4) (hkam2 : kam < h.2) (hkq : kbr ≠ kam) (hpl0 : ∀ i, 0 ≤ pl i ∧ pl i ≤ 12) (hsj : -1 ≤ sj ∧ sj ≤ 1) (hB9 : vB ld dg 3 2 wa sr pu ri) (hlt : (na : Int) < kN 3 2 wa sr sj) (p : Nat) (hp : h.2 = p) (hT0 : h.1 k = xa_o 6 [xa_r kb, xa_r (k + 5), xa_i sj, xa_r (k + 1), xa_r (k + 2), xa_i ns, xa_i fs, xa_i lst, xa_r kbr, xa_r kam]) (hT1 : h.1 (k + 1) = xa_a 2 pl) (hT2 : h.1 (k + 2) = xa_a 2 lw) (hT3 : h.1 kbr = xa_a nb br) (hT4 : h.1 kam = xa_a na am) (hS0 : h.1 (k + 5) = xa_o 4 [xa_r kb, xa_r (k + 5 + 1), xa_r (k + 5 + 2), xa_i tj, xa_i tb]) (hS1 : h.1 (k + 5 + 1) = xa_a 3 po) (hS2 : h.1 (k + 5 + 2) = xa_a 2 sp) (hB0 : h.1 kb = xa_o 0 [xa_r (kb + 1), xa_r (kb + 2), xa_i 3, xa_i 2, xa_i wa, xa_i sr, xa_i pu, xa_i ri]) (hB1 : h.1 (kb + 1) = xa_a 9 ld) (hB2 : h.1 (kb + 2) = xa_a 2 dg) : xa_M G mX6_numberShapes [xa_r k] h 2 ((kN 3 2 wa sr sj).toNat * 12) (fun r h' => r = none ∧ (∃ pl' lw' : Nat → Int, kP 2 wa sr sj pl' lw' ∧ h'.1 k = xa_o 6 [xa_r kb, xa_r (k + 5), xa_i sj, xa_r (k + 1), xa_r (k + 2), xa_i (((kN 3 2 wa sr sj).toNat : Nat) : Int), xa_i (kF 3 2 wa sr sj), xa_i (kF 3 2 wa sr sj + 27 - 1), xa_r (p + 1), xa_r p] ∧ h'.1 (k + 1) = xa_a 2 pl' ∧ h'.1 (k + 2) = xa_a 2 lw' ∧ h'.1 (p + 1) = xa_a ((kN 3 2 wa sr sj).toNat * 11) (fun _ => 0) ∧ h'.1 p = xa_a ((kN 3 2 wa sr sj).toNat) (xa_fl (fun _ => 0) (kN 3 2 wa sr sj).toNat 0)) ∧ xS h' (k + 5) kb (xa_upf (xa_upf (xa_upf (xa_fl po 3 1) 0 0) 1 0) 2 0) (xa_fl sp 2 0) tj 0 ∧ h'.2 = h.2 + 2 ∧ ∀ i, ((i < k ∨ k + 8 ≤ i) ∧ i ≠ kbr ∧ i ≠ kam ∧ i < p) → h'.1 i = h.1 i) := by
  refine xa_enter (by decide +kernel) (Nat.le_of_ble_eq_true rfl) ?_
  refine xa_locals (ls' := [some (xa_r k), none, none, none]) rfl ?_
  have hn : h.2 = h.2 := rfl
  have fr : ∀ i, ((i < k ∨ k + 8 ≤ i) ∧ i ≠ kbr ∧ i ≠ kam ∧ i < p) → h.1 i = h.1 i := fun _ _ => rfl
  have hkN := kN_b (sj := sj) hB9
  have hkF := kF_b (sj := sj) hB9
  have hw := hB9.wag
  refine xa_iconst (pc := 0) dX6_numberShapes_0 ?_
  refine xa_istoren (pc := 1) [some (xa_r k), some (xa_i 1), none, none] dX6_numberShapes_1 (by decide) (Nat.le_of_ble_eq_true rfl) rfl rfl ?_
  refine xa_iconst (pc := 2) dX6_numberShapes_2 ?_
  refine xa_istoren (pc := 3) [some (xa_r k), some (xa_i 1), some (xa_i 0), none] dX6_numberShapes_3 (by decide) (Nat.le_of_ble_eq_true rfl) rfl rfl ?_
  refine xa_iload_n (pc := 4) dX6_numberShapes_4 rfl ?_
  refine xa_aload_n (pc := 5) dX6_numberShapes_5 rfl ?_
  refine xa_getfield (pc := 6) dX6_numberShapes_6 flRX6_24 (by omega) (by omega) hT0 rfl ?_
  refine xa_getfield (pc := 9) dX6_numberShapes_9 flRX6_41 (by omega) (by omega) hB0 rfl ?_
  refine xa_icmp_ge (pc := 12) (tgt := 25) dX6_numberShapes_12 (by decide) (by decide) (by decide) (fun c_12 => ?_) (fun c_12 => ?_)
  · skip
    exfalso; omega
  · skip
    refine xa_iload_n (pc := 15) dX6_numberShapes_15 rfl ?_
    refine xa_iconst (pc := 16) dX6_numberShapes_16 ?_
    refine xa_imul (pc := 17) dX6_numberShapes_17 ?_
    refine xa_top (y := 3) (by decide) ?_
    refine xa_istoren (pc := 18) [some (xa_r k), some (xa_i 3), some (xa_i 0), none] dX6_numberShapes_18 (by decide) (Nat.le_of_ble_eq_true rfl) rfl rfl ?_
    refine xa_iincw (pc := 19) (y := 1) [some (xa_r k), some (xa_i 3), some (xa_i 1), none] dX6_numberShapes_19 (by decide) rfl rfl rfl rfl ?_
    refine xa_goto (pc := 22) (tgt := 4) dX6_numberShapes_22 (by decide) ?_
    refine xa_iload_n (pc := 4) dX6_numberShapes_4 rfl ?_
    refine xa_aload_n (pc := 5) dX6_numberShapes_5 rfl ?_
    refine xa_getfield (pc := 6) dX6_numberShapes_6 flRX6_24 (by omega) (by omega) hT0 rfl ?_
    refine xa_getfield (pc := 9) dX6_numberShapes_9 flRX6_41 (by omega) (by omega) hB0 rfl ?_
    refine xa_icmp_ge (pc := 12) (tgt := 25) dX6_numberShapes_12 (by decide) (by decide) (by decide) (fun c_12 => ?_) (fun c_12 => ?_)
    · skip
      exfalso; omega
    · skip
      refine xa_iload_n (pc := 15) dX6_numberShapes_15 rfl ?_
      refine xa_iconst (pc := 16) dX6_numberShapes_16 ?_
      refine xa_imul (pc := 17) dX6_numberShapes_17 ?_
      refine xa_top (y := 9) (by decide) ?_
      refine xa_istoren (pc := 18) [some (xa_r k), some (xa_i 9), some (xa_i 1), none] dX6_numberShapes_18 (by decide) (Nat.le_of_ble_eq_true rfl) rfl rfl ?_
      refine xa_iincw (pc := 19) (y := 2) [some (xa_r k), some (xa_i 9), some (xa_i 2), none] dX6_numberShapes_19 (by decide) rfl rfl rfl rfl ?_
      refine xa_goto (pc := 22) (tgt := 4) dX6_numberShapes_22 (by decide) ?_
      refine xa_iload_n (pc := 4) dX6_numberShapes_4 rfl ?_
      refine xa_aload_n (pc := 5) dX6_numberShapes_5 rfl ?_
      refine xa_getfield (pc := 6) dX6_numberShapes_6 flRX6_24 (by omega) (by omega) hT0 rfl ?_
      refine xa_getfield (pc := 9) dX6_numberShapes_9 flRX6_41 (by omega) (by omega) hB0 rfl ?_
      refine xa_icmp_ge (pc := 12) (tgt := 25) dX6_numberShapes_12 (by decide) (by decide) (by decide) (fun c_12 => ?_) (fun c_12 => ?_)
      · skip
        exfalso; omega
      · skip
        refine xa_iload_n (pc := 15) dX6_numberShapes_15 rfl ?_
        refine xa_iconst (pc := 16) dX6_numberShapes_16 ?_
        refine xa_imul (pc := 17) dX6_numberShapes_17 ?_
        refine xa_top (y := 27) (by decide) ?_
        refine xa_istoren (pc := 18) [some (xa_r k), some (xa_i 27), some (xa_i 2), none] dX6_numberShapes_18 (by decide) (Nat.le_of_ble_eq_true rfl) rfl rfl ?_
        refine xa_iincw (pc := 19) (y := 3) [some (xa_r k), some (xa_i 27), some (xa_i 3), none] dX6_numberShapes_19 (by decide) rfl rfl rfl rfl ?_
        refine xa_goto (pc := 22) (tgt := 4) dX6_numberShapes_22 (by decide) ?_
        refine xa_iload_n (pc := 4) dX6_numberShapes_4 rfl ?_
        refine xa_aload_n (pc := 5) dX6_numberShapes_5 rfl ?_
        refine xa_getfield (pc := 6) dX6_numberShapes_6 flRX6_24 (by omega) (by omega) hT0 rfl ?_
        refine xa_getfield (pc := 9) dX6_numberShapes_9 flRX6_41 (by omega) (by omega) hB0 rfl ?_
        refine xa_icmp_ge (pc := 12) (tgt := 25) dX6_numberShapes_12 (by decide) (by decide) (by decide) (fun c_12 => ?_) (fun c_12 => ?_)
        · skip
          refine xa_aload_n (pc := 25) dX6_numberShapes_25 rfl ?_
          refine xa_iload_n (pc := 26) dX6_numberShapes_26 rfl ?_
          refine xa_putw (pc := 27) [xa_r kb, xa_r (k + 5), xa_i sj, xa_r (k + 1), xa_r (k + 2), xa_i 27, xa_i fs, xa_i lst, xa_r kbr, xa_r kam] dX6_numberShapes_27 flRX6_46 plX6_5 (by omega) (by omega) hT0 trivial rfl (fun h1 nh1 ch1 oh1 => ?_)
          have hT0 : h1.1 k = xa_o 6 [xa_r kb, xa_r (k + 5), xa_i sj, xa_r (k + 1), xa_r (k + 2), xa_i 27, xa_i fs, xa_i lst, xa_r kbr, xa_r kam] := ch1
          have hT1 : h1.1 (k + 1) = xa_a 2 pl := (oh1 _ (by omega)).trans hT1
          have hT2 : h1.1 (k + 2) = xa_a 2 lw := (oh1 _ (by omega)).trans hT2
          have hT3 : h1.1 kbr = xa_a nb br := (oh1 _ (by omega)).trans hT3
          have hT4 : h1.1 kam = xa_a na am := (oh1 _ (by omega)).trans hT4
          have hS0 : h1.1 (k + 5) = xa_o 4 [xa_r kb, xa_r (k + 5 + 1), xa_r (k + 5 + 2), xa_i tj, xa_i tb] := (oh1 _ (by omega)).trans hS0
          have hS1 : h1.1 (k + 5 + 1) = xa_a 3 po := (oh1 _ (by omega)).trans hS1
          have hS2 : h1.1 (k + 5 + 2) = xa_a 2 sp := (oh1 _ (by omega)).trans hS2
          have hB0 : h1.1 kb = xa_o 0 [xa_r (kb + 1), xa_r (kb + 2), xa_i 3, xa_i 2, xa_i wa, xa_i sr, xa_i pu, xa_i ri] := (oh1 _ (by omega)).trans hB0
          have hB1 : h1.1 (kb + 1) = xa_a 9 ld := (oh1 _ (by omega)).trans hB1
          have hB2 : h1.1 (kb + 2) = xa_a 2 dg := (oh1 _ (by omega)).trans hB2
          have hn : h1.2 = h.2 := nh1.trans hn
          have fr : ∀ i, ((i < k ∨ k + 8 ≤ i) ∧ i ≠ kbr ∧ i ≠ kam ∧ i < p) → h1.1 i = h.1 i := fun i hi => (oh1 i (by omega)).trans (fr i hi)
          refine xa_iconst (pc := 30) dX6_numberShapes_30 ?_
          refine xa_istoren (pc := 31) [some (xa_r k), some (xa_i 27), some (xa_i 0), none] dX6_numberShapes_31 (by decide) (Nat.le_of_ble_eq_true rfl) rfl rfl ?_
          refine xa_iload_n (pc := 32) dX6_numberShapes_32 rfl ?_
          refine xa_aload_n (pc := 33) dX6_numberShapes_33 rfl ?_
          refine xa_getfield (pc := 34) dX6_numberShapes_34 flRX6_9 (by omega) (by omega) hT0 rfl ?_
          refine xa_alen (pc := 37) dX6_numberShapes_37 (by omega) hT1 ?_
          refine xa_top (y := 2) rfl ?_
          refine xa_icmp_ge (pc := 38) (tgt := 144) dX6_numberShapes_38 (by decide) (by decide) (by decide) (fun c_38 => ?_) (fun c_38 => ?_)
          · skip
            exfalso; omega
          · skip
            refine xa_iload_n (pc := 41) dX6_numberShapes_41 rfl ?_
            refine xa_aload_n (pc := 42) dX6_numberShapes_42 rfl ?_
            refine xa_getfield (pc := 43) dX6_numberShapes_43 flRX6_15 (by omega) (by omega) hT0 rfl ?_
            refine xa_alen (pc := 46) dX6_numberShapes_46 (by omega) hT2 ?_
            refine xa_top (y := 2) rfl ?_
            refine xa_icmp_ge (pc := 47) (tgt := 144) dX6_numberShapes_47 (by decide) (by decide) (by decide) (fun c_47 => ?_) (fun c_47 => ?_)
            · skip
              exfalso; omega
            · skip
              refine xa_iload_n (pc := 50) dX6_numberShapes_50 rfl ?_
              refine xa_aload_n (pc := 51) dX6_numberShapes_51 rfl ?_
              refine xa_getfield (pc := 52) dX6_numberShapes_52 flRX6_24 (by omega) (by omega) hT0 rfl ?_
              refine xa_getfield (pc := 55) dX6_numberShapes_55 flRX6_49 (by omega) (by omega) hB0 rfl ?_
              refine xa_icmp_ge (pc := 58) (tgt := 73) dX6_numberShapes_58 (by decide) (by decide) (by decide) (fun c_58 => ?_) (fun c_58 => ?_)
              · skip
                exfalso; omega
              · skip
                refine xa_iload_n (pc := 61) dX6_numberShapes_61 rfl ?_
                refine xa_aload_n (pc := 62) dX6_numberShapes_62 rfl ?_
                refine xa_getfield (pc := 63) dX6_numberShapes_63 flRX6_28 (by omega) (by omega) hT0 rfl ?_
                refine xa_icmp_eq (pc := 66) (tgt := 73) dX6_numberShapes_66 (by decide) (by decide) ⟨by omega, by omega⟩ (fun c_66 => ?_) (fun c_66 => ?_)
                · skip
                  refine xa_iconst (pc := 73) dX6_numberShapes_73 ?_
                  refine xa_istoren (pc := 74) [some (xa_r k), some (xa_i 27), some (xa_i 0), some (xa_i 0)] dX6_numberShapes_74 (by decide) (Nat.le_of_ble_eq_true rfl) rfl rfl ?_
                  refine xa_aload_n (pc := 75) dX6_numberShapes_75 rfl ?_
                  refine xa_getfield (pc := 76) dX6_numberShapes_76 flRX6_9 (by omega) (by omega) hT0 rfl ?_
                  refine xa_iload_n (pc := 79) dX6_numberShapes_79 rfl ?_
                  refine xa_iload_n (pc := 80) dX6_numberShapes_80 rfl ?_
                  refine xa_if_eq (pc := 81) (tgt := 99) dX6_numberShapes_81 (by decide) (by decide) (fun c_81 => ?_) (fun c_81 => ?_)
                  · skip
                    refine xa_iconst (pc := 99) dX6_numberShapes_99 ?_
                    refine xa_top (y := tp 2 wa sr sj 0) (by first | exact tp_y hB9 (j := 0) (by decide) (fun z => by omega) | exact tp_n (j := 0) (Or.inr (by omega)) | exact tp_n (j := 0) (Or.inl (by decide))) ?_
                    refine xa_iastw (pc := 100) 0 dX6_numberShapes_100 (by omega) (by omega) hT1 (by omega) (by omega) rfl (fun h2 nh2 ch2 oh2 => ?_)
                    have hT1 : h2.1 (k + 1) = xa_a 2 (xa_upf pl 0 (tp 2 wa sr sj 0)) := ch2
                    have hT0 : h2.1 k = xa_o 6 [xa_r kb, xa_r (k + 5), xa_i sj, xa_r (k + 1), xa_r (k + 2), xa_i 27, xa_i fs, xa_i lst, xa_r kbr, xa_r kam] := (oh2 _ (by omega)).trans hT0
                    have hT2 : h2.1 (k + 2) = xa_a 2 lw := (oh2 _ (by omega)).trans hT2
                    have hT3 : h2.1 kbr = xa_a nb br := (oh2 _ (by omega)).trans hT3
                    have hT4 : h2.1 kam = xa_a na am := (oh2 _ (by omega)).trans hT4
                    have hS0 : h2.1 (k + 5) = xa_o 4 [xa_r kb, xa_r (k + 5 + 1), xa_r (k + 5 + 2), xa_i tj, xa_i tb] := (oh2 _ (by omega)).trans hS0
                    have hS1 : h2.1 (k + 5 + 1) = xa_a 3 po := (oh2 _ (by omega)).trans hS1
                    have hS2 : h2.1 (k + 5 + 2) = xa_a 2 sp := (oh2 _ (by omega)).trans hS2
                    have hB0 : h2.1 kb = xa_o 0 [xa_r (kb + 1), xa_r (kb + 2), xa_i 3, xa_i 2, xa_i wa, xa_i sr, xa_i pu, xa_i ri] := (oh2 _ (by omega)).trans hB0
                    have hB1 : h2.1 (kb + 1) = xa_a 9 ld := (oh2 _ (by omega)).trans hB1
                    have hB2 : h2.1 (kb + 2) = xa_a 2 dg := (oh2 _ (by omega)).trans hB2
                    have hn : h2.2 = h.2 := nh2.trans hn
                    have fr : ∀ i, ((i < k ∨ k + 8 ≤ i) ∧ i ≠ kbr ∧ i ≠ kam ∧ i < p) → h2.1 i = h.1 i := fun i hi => (oh2 i (by omega)).trans (fr i hi)
                    refine xa_aload_n (pc := 101) dX6_numberShapes_101 rfl ?_
                    refine xa_getfield (pc := 102) dX6_numberShapes_102 flRX6_15 (by omega) (by omega) hT0 rfl ?_
                    refine xa_iload_n (pc := 105) dX6_numberShapes_105 rfl ?_
                    refine xa_iload_n (pc := 106) dX6_numberShapes_106 rfl ?_
                    refine xa_if_eq (pc := 107) (tgt := 121) dX6_numberShapes_107 (by decide) (by decide) (fun c_107 => ?_) (fun c_107 => ?_)
                    · skip
                      refine xa_iconst (pc := 121) dX6_numberShapes_121 ?_
                      refine xa_top (y := -tz 2 wa sj 0) (by first | exact tz_y (j := 0) (by decide) (fun z => by omega) | exact tz_n (j := 0) (Or.inr (by omega)) | exact tz_n (j := 0) (Or.inl (by decide))) ?_
                      refine xa_iastw (pc := 122) 0 dX6_numberShapes_122 (by omega) (by omega) hT2 (by omega) (by omega) rfl (fun h3 nh3 ch3 oh3 => ?_)
                      have hT2 : h3.1 (k + 2) = xa_a 2 (xa_upf lw 0 (-tz 2 wa sj 0)) := ch3
                      have hT0 : h3.1 k = xa_o 6 [xa_r kb, xa_r (k + 5), xa_i sj, xa_r (k + 1), xa_r (k + 2), xa_i 27, xa_i fs, xa_i lst, xa_r kbr, xa_r kam] := (oh3 _ (by omega)).trans hT0
                      have hT1 : h3.1 (k + 1) = xa_a 2 (xa_upf pl 0 (tp 2 wa sr sj 0)) := (oh3 _ (by omega)).trans hT1
                      have hT3 : h3.1 kbr = xa_a nb br := (oh3 _ (by omega)).trans hT3
                      have hT4 : h3.1 kam = xa_a na am := (oh3 _ (by omega)).trans hT4
                      have hS0 : h3.1 (k + 5) = xa_o 4 [xa_r kb, xa_r (k + 5 + 1), xa_r (k + 5 + 2), xa_i tj, xa_i tb] := (oh3 _ (by omega)).trans hS0
                      have hS1 : h3.1 (k + 5 + 1) = xa_a 3 po := (oh3 _ (by omega)).trans hS1
                      have hS2 : h3.1 (k + 5 + 2) = xa_a 2 sp := (oh3 _ (by omega)).trans hS2
                      have hB0 : h3.1 kb = xa_o 0 [xa_r (kb + 1), xa_r (kb + 2), xa_i 3, xa_i 2, xa_i wa, xa_i sr, xa_i pu, xa_i ri] := (oh3 _ (by omega)).trans hB0
                      have hB1 : h3.1 (kb + 1) = xa_a 9 ld := (oh3 _ (by omega)).trans hB1
                      have hB2 : h3.1 (kb + 2) = xa_a 2 dg := (oh3 _ (by omega)).trans hB2
                      have hn : h3.2 = h.2 := nh3.trans hn
                      have fr : ∀ i, ((i < k ∨ k + 8 ≤ i) ∧ i ≠ kbr ∧ i ≠ kam ∧ i < p) → h3.1 i = h.1 i := fun i hi => (oh3 i (by omega)).trans (fr i hi)
                      refine xa_aload_n (pc := 123) dX6_numberShapes_123 rfl ?_
                      refine xa_dup (pc := 124) dX6_numberShapes_124 rfl ?_
                      refine xa_getfield (pc := 125) dX6_numberShapes_125 flRX6_46 (by omega) (by omega) hT0 rfl ?_
                      refine xa_aload_n (pc := 128) dX6_numberShapes_128 rfl ?_
                      refine xa_getfield (pc := 129) dX6_numberShapes_129 flRX6_9 (by omega) (by omega) hT0 rfl ?_
                      refine xa_iload_n (pc := 132) dX6_numberShapes_132 rfl ?_
                      refine xa_ialdw (pc := 133) 0 dX6_numberShapes_133 (by omega) hT1 (by omega) (by omega) rfl ?_
                      refine xa_top (y := tp 2 wa sr sj 0) (xa_upf_at _ _ _) ?_
                      refine xa_imul (pc := 134) dX6_numberShapes_134 ?_
                      refine xa_putw (pc := 135) [xa_r kb, xa_r (k + 5), xa_i sj, xa_r (k + 1), xa_r (k + 2), xa_i (27 * (tp 2 wa sr sj 0)), xa_i fs, xa_i lst, xa_r kbr, xa_r kam] dX6_numberShapes_135 flRX6_46 plX6_5 (by omega) (by omega) hT0 trivial rfl (fun h4 nh4 ch4 oh4 => ?_)
                      have hT0 : h4.1 k = xa_o 6 [xa_r kb, xa_r (k + 5), xa_i sj, xa_r (k + 1), xa_r (k + 2), xa_i (27 * (tp 2 wa sr sj 0)), xa_i fs, xa_i lst, xa_r kbr, xa_r kam] := ch4
                      have hT1 : h4.1 (k + 1) = xa_a 2 (xa_upf pl 0 (tp 2 wa sr sj 0)) := (oh4 _ (by omega)).trans hT1
                      have hT2 : h4.1 (k + 2) = xa_a 2 (xa_upf lw 0 (-tz 2 wa sj 0)) := (oh4 _ (by omega)).trans hT2
                      have hT3 : h4.1 kbr = xa_a nb br := (oh4 _ (by omega)).trans hT3
                      have hT4 : h4.1 kam = xa_a na am := (oh4 _ (by omega)).trans hT4
                      have hS0 : h4.1 (k + 5) = xa_o 4 [xa_r kb, xa_r (k + 5 + 1), xa_r (k + 5 + 2), xa_i tj, xa_i tb] := (oh4 _ (by omega)).trans hS0
                      have hS1 : h4.1 (k + 5 + 1) = xa_a 3 po := (oh4 _ (by omega)).trans hS1
                      have hS2 : h4.1 (k + 5 + 2) = xa_a 2 sp := (oh4 _ (by omega)).trans hS2
                      have hB0 : h4.1 kb = xa_o 0 [xa_r (kb + 1), xa_r (kb + 2), xa_i 3, xa_i 2, xa_i wa, xa_i sr, xa_i pu, xa_i ri] := (oh4 _ (by omega)).trans hB0
                      have hB1 : h4.1 (kb + 1) = xa_a 9 ld := (oh4 _ (by omega)).trans hB1
                      have hB2 : h4.1 (kb + 2) = xa_a 2 dg := (oh4 _ (by omega)).trans hB2
                      have hn : h4.2 = h.2 := nh4.trans hn
                      have fr : ∀ i, ((i < k ∨ k + 8 ≤ i) ∧ i ≠ kbr ∧ i ≠ kam ∧ i < p) → h4.1 i = h.1 i := fun i hi => (oh4 i (by omega)).trans (fr i hi)
                      refine xa_iincw (pc := 138) (y := 1) [some (xa_r k), some (xa_i 27), some (xa_i 1), some (xa_i 0)] dX6_numberShapes_138 (by decide) rfl rfl rfl rfl ?_
                      refine xa_goto (pc := 141) (tgt := 32) dX6_numberShapes_141 (by decide) ?_
                      refine xa_iload_n (pc := 32) dX6_numberShapes_32 rfl ?_
                      refine xa_aload_n (pc := 33) dX6_numberShapes_33 rfl ?_
                      refine xa_getfield (pc := 34) dX6_numberShapes_34 flRX6_9 (by omega) (by omega) hT0 rfl ?_
                      refine xa_alen (pc := 37) dX6_numberShapes_37 (by omega) hT1 ?_
                      refine xa_top (y := 2) rfl ?_
                      refine xa_icmp_ge (pc := 38) (tgt := 144) dX6_numberShapes_38 (by decide) (by decide) (by decide) (fun c_38 => ?_) (fun c_38 => ?_)
                      · skip
                        exfalso; omega
                      · skip
                        refine xa_iload_n (pc := 41) dX6_numberShapes_41 rfl ?_
                        refine xa_aload_n (pc := 42) dX6_numberShapes_42 rfl ?_
                        refine xa_getfield (pc := 43) dX6_numberShapes_43 flRX6_15 (by omega) (by omega) hT0 rfl ?_
                        refine xa_alen (pc := 46) dX6_numberShapes_46 (by omega) hT2 ?_
                        refine xa_top (y := 2) rfl ?_
                        refine xa_icmp_ge (pc := 47) (tgt := 144) dX6_numberShapes_47 (by decide) (by decide) (by decide) (fun c_47 => ?_) (fun c_47 => ?_)
                        · skip
                          exfalso; omega
                        · skip
                          refine xa_iload_n (pc := 50) dX6_numberShapes_50 rfl ?_
                          refine xa_aload_n (pc := 51) dX6_numberShapes_51 rfl ?_
                          refine xa_getfield (pc := 52) dX6_numberShapes_52 flRX6_24 (by omega) (by omega) hT0 rfl ?_
                          refine xa_getfield (pc := 55) dX6_numberShapes_55 flRX6_49 (by omega) (by omega) hB0 rfl ?_
                          refine xa_icmp_ge (pc := 58) (tgt := 73) dX6_numberShapes_58 (by decide) (by decide) (by decide) (fun c_58 => ?_) (fun c_58 => ?_)
                          · skip
                            exfalso; omega
                          · skip
                            refine xa_iload_n (pc := 61) dX6_numberShapes_61 rfl ?_
                            refine xa_aload_n (pc := 62) dX6_numberShapes_62 rfl ?_
                            refine xa_getfield (pc := 63) dX6_numberShapes_63 flRX6_28 (by omega) (by omega) hT0 rfl ?_
                            refine xa_icmp_eq (pc := 66) (tgt := 73) dX6_numberShapes_66 (by decide) (by decide) ⟨by omega, by omega⟩ (fun c_66 => ?_) (fun c_66 => ?_)
                            · skip
                              refine xa_iconst (pc := 73) dX6_numberShapes_73 ?_
                              refine xa_istoren (pc := 74) [some (xa_r k), some (xa_i 27), some (xa_i 1), some (xa_i 0)] dX6_numberShapes_74 (by decide) (Nat.le_of_ble_eq_true rfl) rfl rfl ?_
                              refine xa_aload_n (pc := 75) dX6_numberShapes_75 rfl ?_
                              refine xa_getfield (pc := 76) dX6_numberShapes_76 flRX6_9 (by omega) (by omega) hT0 rfl ?_
                              refine xa_iload_n (pc := 79) dX6_numberShapes_79 rfl ?_
                              refine xa_iload_n (pc := 80) dX6_numberShapes_80 rfl ?_
                              refine xa_if_eq (pc := 81) (tgt := 99) dX6_numberShapes_81 (by decide) (by decide) (fun c_81 => ?_) (fun c_81 => ?_)
                              · skip
                                refine xa_iconst (pc := 99) dX6_numberShapes_99 ?_
                                refine xa_top (y := tp 2 wa sr sj 1) (by first | exact tp_y hB9 (j := 1) (by decide) (fun z => by omega) | exact tp_n (j := 1) (Or.inr (by omega)) | exact tp_n (j := 1) (Or.inl (by decide))) ?_
                                refine xa_iastw (pc := 100) 1 dX6_numberShapes_100 (by omega) (by omega) hT1 (by omega) (by omega) rfl (fun h5 nh5 ch5 oh5 => ?_)
                                have hT1 : h5.1 (k + 1) = xa_a 2 (xa_upf (xa_upf pl 0 (tp 2 wa sr sj 0)) 1 (tp 2 wa sr sj 1)) := ch5
                                have hT0 : h5.1 k = xa_o 6 [xa_r kb, xa_r (k + 5), xa_i sj, xa_r (k + 1), xa_r (k + 2), xa_i (27 * (tp 2 wa sr sj 0)), xa_i fs, xa_i lst, xa_r kbr, xa_r kam] := (oh5 _ (by omega)).trans hT0
                                have hT2 : h5.1 (k + 2) = xa_a 2 (xa_upf lw 0 (-tz 2 wa sj 0)) := (oh5 _ (by omega)).trans hT2
                                have hT3 : h5.1 kbr = xa_a nb br := (oh5 _ (by omega)).trans hT3
                                have hT4 : h5.1 kam = xa_a na am := (oh5 _ (by omega)).trans hT4
                                have hS0 : h5.1 (k + 5) = xa_o 4 [xa_r kb, xa_r (k + 5 + 1), xa_r (k + 5 + 2), xa_i tj, xa_i tb] := (oh5 _ (by omega)).trans hS0
                                have hS1 : h5.1 (k + 5 + 1) = xa_a 3 po := (oh5 _ (by omega)).trans hS1
                                have hS2 : h5.1 (k + 5 + 2) = xa_a 2 sp := (oh5 _ (by omega)).trans hS2
                                have hB0 : h5.1 kb = xa_o 0 [xa_r (kb + 1), xa_r (kb + 2), xa_i 3, xa_i 2, xa_i wa, xa_i sr, xa_i pu, xa_i ri] := (oh5 _ (by omega)).trans hB0
                                have hB1 : h5.1 (kb + 1) = xa_a 9 ld := (oh5 _ (by omega)).trans hB1
                                have hB2 : h5.1 (kb + 2) = xa_a 2 dg := (oh5 _ (by omega)).trans hB2
                                have hn : h5.2 = h.2 := nh5.trans hn
                                have fr : ∀ i, ((i < k ∨ k + 8 ≤ i) ∧ i ≠ kbr ∧ i ≠ kam ∧ i < p) → h5.1 i = h.1 i := fun i hi => (oh5 i (by omega)).trans (fr i hi)
                                refine xa_aload_n (pc := 101) dX6_numberShapes_101 rfl ?_
                                refine xa_getfield (pc := 102) dX6_numberShapes_102 flRX6_15 (by omega) (by omega) hT0 rfl ?_
                                refine xa_iload_n (pc := 105) dX6_numberShapes_105 rfl ?_
                                refine xa_iload_n (pc := 106) dX6_numberShapes_106 rfl ?_
                                refine xa_if_eq (pc := 107) (tgt := 121) dX6_numberShapes_107 (by decide) (by decide) (fun c_107 => ?_) (fun c_107 => ?_)
                                · skip
                                  refine xa_iconst (pc := 121) dX6_numberShapes_121 ?_
                                  refine xa_top (y := -tz 2 wa sj 1) (by first | exact tz_y (j := 1) (by decide) (fun z => by omega) | exact tz_n (j := 1) (Or.inr (by omega)) | exact tz_n (j := 1) (Or.inl (by decide))) ?_
                                  refine xa_iastw (pc := 122) 1 dX6_numberShapes_122 (by omega) (by omega) hT2 (by omega) (by omega) rfl (fun h6 nh6 ch6 oh6 => ?_)
                                  have hT2 : h6.1 (k + 2) = xa_a 2 (xa_upf (xa_upf lw 0 (-tz 2 wa sj 0)) 1 (-tz 2 wa sj 1)) := ch6
                                  have hT0 : h6.1 k = xa_o 6 [xa_r kb, xa_r (k + 5), xa_i sj, xa_r (k + 1), xa_r (k + 2), xa_i (27 * (tp 2 wa sr sj 0)), xa_i fs, xa_i lst, xa_r kbr, xa_r kam] := (oh6 _ (by omega)).trans hT0
                                  have hT1 : h6.1 (k + 1) = xa_a 2 (xa_upf (xa_upf pl 0 (tp 2 wa sr sj 0)) 1 (tp 2 wa sr sj 1)) := (oh6 _ (by omega)).trans hT1
                                  have hT3 : h6.1 kbr = xa_a nb br := (oh6 _ (by omega)).trans hT3
                                  have hT4 : h6.1 kam = xa_a na am := (oh6 _ (by omega)).trans hT4
                                  have hS0 : h6.1 (k + 5) = xa_o 4 [xa_r kb, xa_r (k + 5 + 1), xa_r (k + 5 + 2), xa_i tj, xa_i tb] := (oh6 _ (by omega)).trans hS0
                                  have hS1 : h6.1 (k + 5 + 1) = xa_a 3 po := (oh6 _ (by omega)).trans hS1
                                  have hS2 : h6.1 (k + 5 + 2) = xa_a 2 sp := (oh6 _ (by omega)).trans hS2
                                  have hB0 : h6.1 kb = xa_o 0 [xa_r (kb + 1), xa_r (kb + 2), xa_i 3, xa_i 2, xa_i wa, xa_i sr, xa_i pu, xa_i ri] := (oh6 _ (by omega)).trans hB0
                                  have hB1 : h6.1 (kb + 1) = xa_a 9 ld := (oh6 _ (by omega)).trans hB1
                                  have hB2 : h6.1 (kb + 2) = xa_a 2 dg := (oh6 _ (by omega)).trans hB2
                                  have hn : h6.2 = h.2 := nh6.trans hn
                                  have fr : ∀ i, ((i < k ∨ k + 8 ≤ i) ∧ i ≠ kbr ∧ i ≠ kam ∧ i < p) → h6.1 i = h.1 i := fun i hi => (oh6 i (by omega)).trans (fr i hi)
                                  refine xa_aload_n (pc := 123) dX6_numberShapes_123 rfl ?_
                                  refine xa_dup (pc := 124) dX6_numberShapes_124 rfl ?_
                                  refine xa_getfield (pc := 125) dX6_numberShapes_125 flRX6_46 (by omega) (by omega) hT0 rfl ?_
                                  refine xa_aload_n (pc := 128) dX6_numberShapes_128 rfl ?_
                                  refine xa_getfield (pc := 129) dX6_numberShapes_129 flRX6_9 (by omega) (by omega) hT0 rfl ?_
                                  refine xa_iload_n (pc := 132) dX6_numberShapes_132 rfl ?_
                                  refine xa_ialdw (pc := 133) 1 dX6_numberShapes_133 (by omega) hT1 (by omega) (by omega) rfl ?_
                                  refine xa_top (y := tp 2 wa sr sj 1) (xa_upf_at _ _ _) ?_
                                  refine xa_imul (pc := 134) dX6_numberShapes_134 ?_
                                  refine xa_top (y := (((kN 3 2 wa sr sj).toNat : Nat) : Int)) (by rw [Int.toNat_of_nonneg (by omega)]; unfold kN; rw [if_pos (by decide)]) ?_
                                  refine xa_putw (pc := 135) [xa_r kb, xa_r (k + 5), xa_i sj, xa_r (k + 1), xa_r (k + 2), xa_i (((kN 3 2 wa sr sj).toNat : Nat) : Int), xa_i fs, xa_i lst, xa_r kbr, xa_r kam] dX6_numberShapes_135 flRX6_46 plX6_5 (by omega) (by omega) hT0 trivial rfl (fun h7 nh7 ch7 oh7 => ?_)
                                  have hT0 : h7.1 k = xa_o 6 [xa_r kb, xa_r (k + 5), xa_i sj, xa_r (k + 1), xa_r (k + 2), xa_i (((kN 3 2 wa sr sj).toNat : Nat) : Int), xa_i fs, xa_i lst, xa_r kbr, xa_r kam] := ch7
                                  have hT1 : h7.1 (k + 1) = xa_a 2 (xa_upf (xa_upf pl 0 (tp 2 wa sr sj 0)) 1 (tp 2 wa sr sj 1)) := (oh7 _ (by omega)).trans hT1
                                  have hT2 : h7.1 (k + 2) = xa_a 2 (xa_upf (xa_upf lw 0 (-tz 2 wa sj 0)) 1 (-tz 2 wa sj 1)) := (oh7 _ (by omega)).trans hT2
                                  have hT3 : h7.1 kbr = xa_a nb br := (oh7 _ (by omega)).trans hT3
                                  have hT4 : h7.1 kam = xa_a na am := (oh7 _ (by omega)).trans hT4
                                  have hS0 : h7.1 (k + 5) = xa_o 4 [xa_r kb, xa_r (k + 5 + 1), xa_r (k + 5 + 2), xa_i tj, xa_i tb] := (oh7 _ (by omega)).trans hS0
                                  have hS1 : h7.1 (k + 5 + 1) = xa_a 3 po := (oh7 _ (by omega)).trans hS1
                                  have hS2 : h7.1 (k + 5 + 2) = xa_a 2 sp := (oh7 _ (by omega)).trans hS2
                                  have hB0 : h7.1 kb = xa_o 0 [xa_r (kb + 1), xa_r (kb + 2), xa_i 3, xa_i 2, xa_i wa, xa_i sr, xa_i pu, xa_i ri] := (oh7 _ (by omega)).trans hB0
                                  have hB1 : h7.1 (kb + 1) = xa_a 9 ld := (oh7 _ (by omega)).trans hB1
                                  have hB2 : h7.1 (kb + 2) = xa_a 2 dg := (oh7 _ (by omega)).trans hB2
                                  have hn : h7.2 = h.2 := nh7.trans hn
                                  have fr : ∀ i, ((i < k ∨ k + 8 ≤ i) ∧ i ≠ kbr ∧ i ≠ kam ∧ i < p) → h7.1 i = h.1 i := fun i hi => (oh7 i (by omega)).trans (fr i hi)
                                  refine xa_iincw (pc := 138) (y := 2) [some (xa_r k), some (xa_i 27), some (xa_i 2), some (xa_i 0)] dX6_numberShapes_138 (by decide) rfl rfl rfl rfl ?_
                                  refine xa_goto (pc := 141) (tgt := 32) dX6_numberShapes_141 (by decide) ?_
                                  refine xa_iload_n (pc := 32) dX6_numberShapes_32 rfl ?_
                                  refine xa_aload_n (pc := 33) dX6_numberShapes_33 rfl ?_
                                  refine xa_getfield (pc := 34) dX6_numberShapes_34 flRX6_9 (by omega) (by omega) hT0 rfl ?_
                                  refine xa_alen (pc := 37) dX6_numberShapes_37 (by omega) hT1 ?_
                                  refine xa_top (y := 2) rfl ?_
                                  refine xa_icmp_ge (pc := 38) (tgt := 144) dX6_numberShapes_38 (by decide) (by decide) (by decide) (fun c_38 => ?_) (fun c_38 => ?_)
                                  · skip
                                    exact c_nsTa3 _ _ _ _ _ _ _ _ _ _ _ _ _ _ _ _ _ _ _ _ _ _ _ hk (by omega) hkb hkk hkbr (by omega) hkam (by omega) hkq hB9 hlt p hp ⟨xa_upf_ne _ _ (by decide) |>.trans (xa_upf_at _ _ _), xa_upf_at _ _ _, xa_upf_ne _ _ (by decide) |>.trans (xa_upf_at _ _ _), xa_upf_at _ _ _, xa_upf_b (xa_upf_b hpl0 (by have := tp_b (sj := sj) hB9 0; omega)) (by have := tp_b (sj := sj) hB9 1; omega)⟩ hT0 hT1 hT2 hT3 hT4 hS0 hS1 hS2 hB0 hB1 hB2 hn fr
                                  · skip
                                    exfalso; omega
                                · skip
                                  exfalso; omega
                              · skip
                                exfalso; omega
                            · skip
                              refine xa_iconst (pc := 69) dX6_numberShapes_69 ?_
                              refine xa_goto (pc := 70) (tgt := 74) dX6_numberShapes_70 (by decide) ?_
                              refine xa_istoren (pc := 74) [some (xa_r k), some (xa_i 27), some (xa_i 1), some (xa_i 1)] dX6_numberShapes_74 (by decide) (Nat.le_of_ble_eq_true rfl) rfl rfl ?_
                              refine xa_aload_n (pc := 75) dX6_numberShapes_75 rfl ?_
                              refine xa_getfield (pc := 76) dX6_numberShapes_76 flRX6_9 (by omega) (by omega) hT0 rfl ?_
                              refine xa_iload_n (pc := 79) dX6_numberShapes_79 rfl ?_
                              refine xa_iload_n (pc := 80) dX6_numberShapes_80 rfl ?_
                              refine xa_if_eq (pc := 81) (tgt := 99) dX6_numberShapes_81 (by decide) (by decide) (fun c_81 => ?_) (fun c_81 => ?_)
                              · skip
                                exfalso; omega
                              · skip
                                refine xa_aload_n (pc := 84) dX6_numberShapes_84 rfl ?_
                                refine xa_getfield (pc := 85) dX6_numberShapes_85 flRX6_24 (by omega) (by omega) hT0 rfl ?_
                                refine xa_iload_n (pc := 88) dX6_numberShapes_88 rfl ?_
                                refine xa_callV (pc := 89) (as := [xa_i 1]) (rest := [xa_i 1, xa_r (k + 1)]) dX6_numberShapes_89 ⟨qX0_stepsOf.1, qX0_stepsOf.2.1, qX0_stepsOf.2.2, by decide, by decide⟩ lkRX6_52 imX0_stepsOf seX0_stepsOf rfl rfl (by omega) (by omega) hB0 rfl (Nat.le_of_ble_eq_true rfl) (Nat.zero_le _) (Nat.zero_le _) (c_stepsOf _ _ _ _ _ _ _ _ _ _ (by decide) (by omega) ⟨hB0, hB1, hB2, by omega, by omega⟩) (fun r h' hq => ?_)
                                obtain ⟨rfl, hq⟩ := hq
                                have hq := hq.symm
                                subst hq
                                refine xa_iconst (pc := 92) dX6_numberShapes_92 ?_
                                refine xa_callS (pc := 93) (as := [xa_i (sp_steps wa sr 1), xa_i 1]) (rest := [xa_i 1, xa_r (k + 1)]) dX6_numberShapes_93 ⟨qJ9_max_7cf53.1, qJ9_max_7cf53.2.1, qJ9_max_7cf53.2.2, by decide, by decide⟩ lkRX6_56 smJ9_max_7cf53 rfl rfl (Nat.le_of_ble_eq_true rfl) (Nat.zero_le _) (Nat.zero_le _) (c_max _ _ (by unfold sp_steps; split <;> omega) (by decide)) (fun r h' hq => ?_)
                                obtain ⟨rfl, hq⟩ := hq
                                have hq := hq.symm
                                subst hq
                                refine xa_goto (pc := 96) (tgt := 100) dX6_numberShapes_96 (by decide) ?_
                                refine xa_top (y := tp 2 wa sr sj 1) (by first | exact tp_y hB9 (j := 1) (by decide) (fun z => by omega) | exact tp_n (j := 1) (Or.inr (by omega)) | exact tp_n (j := 1) (Or.inl (by decide))) ?_
                                refine xa_iastw (pc := 100) 1 dX6_numberShapes_100 (by omega) (by omega) hT1 (by omega) (by omega) rfl (fun h8 nh8 ch8 oh8 => ?_)
                                have hT1 : h8.1 (k + 1) = xa_a 2 (xa_upf (xa_upf pl 0 (tp 2 wa sr sj 0)) 1 (tp 2 wa sr sj 1)) := ch8
                                have hT0 : h8.1 k = xa_o 6 [xa_r kb, xa_r (k + 5), xa_i sj, xa_r (k + 1), xa_r (k + 2), xa_i (27 * (tp 2 wa sr sj 0)), xa_i fs, xa_i lst, xa_r kbr, xa_r kam] := (oh8 _ (by omega)).trans hT0
                                have hT2 : h8.1 (k + 2) = xa_a 2 (xa_upf lw 0 (-tz 2 wa sj 0)) := (oh8 _ (by omega)).trans hT2
                                have hT3 : h8.1 kbr = xa_a nb br := (oh8 _ (by omega)).trans hT3
                                have hT4 : h8.1 kam = xa_a na am := (oh8 _ (by omega)).trans hT4
                                have hS0 : h8.1 (k + 5) = xa_o 4 [xa_r kb, xa_r (k + 5 + 1), xa_r (k + 5 + 2), xa_i tj, xa_i tb] := (oh8 _ (by omega)).trans hS0
                                have hS1 : h8.1 (k + 5 + 1) = xa_a 3 po := (oh8 _ (by omega)).trans hS1
                                have hS2 : h8.1 (k + 5 + 2) = xa_a 2 sp := (oh8 _ (by omega)).trans hS2
                                have hB0 : h8.1 kb = xa_o 0 [xa_r (kb + 1), xa_r (kb + 2), xa_i 3, xa_i 2, xa_i wa, xa_i sr, xa_i pu, xa_i ri] := (oh8 _ (by omega)).trans hB0
                                have hB1 : h8.1 (kb + 1) = xa_a 9 ld := (oh8 _ (by omega)).trans hB1
                                have hB2 : h8.1 (kb + 2) = xa_a 2 dg := (oh8 _ (by omega)).trans hB2
                                have hn : h8.2 = h.2 := nh8.trans hn
                                have fr : ∀ i, ((i < k ∨ k + 8 ≤ i) ∧ i ≠ kbr ∧ i ≠ kam ∧ i < p) → h8.1 i = h.1 i := fun i hi => (oh8 i (by omega)).trans (fr i hi)
                                refine xa_aload_n (pc := 101) dX6_numberShapes_101 rfl ?_
                                refine xa_getfield (pc := 102) dX6_numberShapes_102 flRX6_15 (by omega) (by omega) hT0 rfl ?_
                                refine xa_iload_n (pc := 105) dX6_numberShapes_105 rfl ?_
                                refine xa_iload_n (pc := 106) dX6_numberShapes_106 rfl ?_
                                refine xa_if_eq (pc := 107) (tgt := 121) dX6_numberShapes_107 (by decide) (by decide) (fun c_107 => ?_) (fun c_107 => ?_)
                                · skip
                                  exfalso; omega
                                · skip
                                  refine xa_aload_n (pc := 110) dX6_numberShapes_110 rfl ?_
                                  refine xa_getfield (pc := 111) dX6_numberShapes_111 flRX6_24 (by omega) (by omega) hT0 rfl ?_
                                  refine xa_iload_n (pc := 114) dX6_numberShapes_114 rfl ?_
                                  refine xa_callV (pc := 115) (as := [xa_i 1]) (rest := [xa_i 1, xa_r (k + 2)]) dX6_numberShapes_115 ⟨qX0_lowestOf.1, qX0_lowestOf.2.1, qX0_lowestOf.2.2, by decide, by decide⟩ lkRX6_62 imX0_lowestOf seX0_lowestOf rfl rfl (by omega) (by omega) hB0 rfl (Nat.le_of_ble_eq_true rfl) (Nat.zero_le _) (Nat.zero_le _) (c_lowestOf _ _ _ _ _ _ _ _ _ _ (by decide) (by omega) ⟨hB0, hB1, hB2, by omega, by omega⟩) (fun r h' hq => ?_)
                                  obtain ⟨rfl, hq⟩ := hq
                                  have hq := hq.symm
                                  subst hq
                                  refine xa_goto (pc := 118) (tgt := 122) dX6_numberShapes_118 (by decide) ?_
                                  refine xa_top (y := -tz 2 wa sj 1) (by first | exact tz_y (j := 1) (by decide) (fun z => by omega) | exact tz_n (j := 1) (Or.inr (by omega)) | exact tz_n (j := 1) (Or.inl (by decide))) ?_
                                  refine xa_iastw (pc := 122) 1 dX6_numberShapes_122 (by omega) (by omega) hT2 (by omega) (by omega) rfl (fun h9 nh9 ch9 oh9 => ?_)
                                  have hT2 : h9.1 (k + 2) = xa_a 2 (xa_upf (xa_upf lw 0 (-tz 2 wa sj 0)) 1 (-tz 2 wa sj 1)) := ch9
                                  have hT0 : h9.1 k = xa_o 6 [xa_r kb, xa_r (k + 5), xa_i sj, xa_r (k + 1), xa_r (k + 2), xa_i (27 * (tp 2 wa sr sj 0)), xa_i fs, xa_i lst, xa_r kbr, xa_r kam] := (oh9 _ (by omega)).trans hT0
                                  have hT1 : h9.1 (k + 1) = xa_a 2 (xa_upf (xa_upf pl 0 (tp 2 wa sr sj 0)) 1 (tp 2 wa sr sj 1)) := (oh9 _ (by omega)).trans hT1
                                  have hT3 : h9.1 kbr = xa_a nb br := (oh9 _ (by omega)).trans hT3
                                  have hT4 : h9.1 kam = xa_a na am := (oh9 _ (by omega)).trans hT4
                                  have hS0 : h9.1 (k + 5) = xa_o 4 [xa_r kb, xa_r (k + 5 + 1), xa_r (k + 5 + 2), xa_i tj, xa_i tb] := (oh9 _ (by omega)).trans hS0
                                  have hS1 : h9.1 (k + 5 + 1) = xa_a 3 po := (oh9 _ (by omega)).trans hS1
                                  have hS2 : h9.1 (k + 5 + 2) = xa_a 2 sp := (oh9 _ (by omega)).trans hS2
                                  have hB0 : h9.1 kb = xa_o 0 [xa_r (kb + 1), xa_r (kb + 2), xa_i 3, xa_i 2, xa_i wa, xa_i sr, xa_i pu, xa_i ri] := (oh9 _ (by omega)).trans hB0
                                  have hB1 : h9.1 (kb + 1) = xa_a 9 ld := (oh9 _ (by omega)).trans hB1
                                  have hB2 : h9.1 (kb + 2) = xa_a 2 dg := (oh9 _ (by omega)).trans hB2
                                  have hn : h9.2 = h.2 := nh9.trans hn
                                  have fr : ∀ i, ((i < k ∨ k + 8 ≤ i) ∧ i ≠ kbr ∧ i ≠ kam ∧ i < p) → h9.1 i = h.1 i := fun i hi => (oh9 i (by omega)).trans (fr i hi)
                                  refine xa_aload_n (pc := 123) dX6_numberShapes_123 rfl ?_
                                  refine xa_dup (pc := 124) dX6_numberShapes_124 rfl ?_
                                  refine xa_getfield (pc := 125) dX6_numberShapes_125 flRX6_46 (by omega) (by omega) hT0 rfl ?_
                                  refine xa_aload_n (pc := 128) dX6_numberShapes_128 rfl ?_
                                  refine xa_getfield (pc := 129) dX6_numberShapes_129 flRX6_9 (by omega) (by omega) hT0 rfl ?_
                                  refine xa_iload_n (pc := 132) dX6_numberShapes_132 rfl ?_
                                  refine xa_ialdw (pc := 133) 1 dX6_numberShapes_133 (by omega) hT1 (by omega) (by omega) rfl ?_
                                  refine xa_top (y := tp 2 wa sr sj 1) (xa_upf_at _ _ _) ?_
                                  refine xa_imul (pc := 134) dX6_numberShapes_134 ?_
                                  refine xa_top (y := (((kN 3 2 wa sr sj).toNat : Nat) : Int)) (by rw [Int.toNat_of_nonneg (by omega)]; unfold kN; rw [if_pos (by decide)]) ?_
                                  refine xa_putw (pc := 135) [xa_r kb, xa_r (k + 5), xa_i sj, xa_r (k + 1), xa_r (k + 2), xa_i (((kN 3 2 wa sr sj).toNat : Nat) : Int), xa_i fs, xa_i lst, xa_r kbr, xa_r kam] dX6_numberShapes_135 flRX6_46 plX6_5 (by omega) (by omega) hT0 trivial rfl (fun h10 nh10 ch10 oh10 => ?_)
                                  have hT0 : h10.1 k = xa_o 6 [xa_r kb, xa_r (k + 5), xa_i sj, xa_r (k + 1), xa_r (k + 2), xa_i (((kN 3 2 wa sr sj).toNat : Nat) : Int), xa_i fs, xa_i lst, xa_r kbr, xa_r kam] := ch10
                                  have hT1 : h10.1 (k + 1) = xa_a 2 (xa_upf (xa_upf pl 0 (tp 2 wa sr sj 0)) 1 (tp 2 wa sr sj 1)) := (oh10 _ (by omega)).trans hT1
                                  have hT2 : h10.1 (k + 2) = xa_a 2 (xa_upf (xa_upf lw 0 (-tz 2 wa sj 0)) 1 (-tz 2 wa sj 1)) := (oh10 _ (by omega)).trans hT2
                                  have hT3 : h10.1 kbr = xa_a nb br := (oh10 _ (by omega)).trans hT3
                                  have hT4 : h10.1 kam = xa_a na am := (oh10 _ (by omega)).trans hT4
                                  have hS0 : h10.1 (k + 5) = xa_o 4 [xa_r kb, xa_r (k + 5 + 1), xa_r (k + 5 + 2), xa_i tj, xa_i tb] := (oh10 _ (by omega)).trans hS0
                                  have hS1 : h10.1 (k + 5 + 1) = xa_a 3 po := (oh10 _ (by omega)).trans hS1
                                  have hS2 : h10.1 (k + 5 + 2) = xa_a 2 sp := (oh10 _ (by omega)).trans hS2
                                  have hB0 : h10.1 kb = xa_o 0 [xa_r (kb + 1), xa_r (kb + 2), xa_i 3, xa_i 2, xa_i wa, xa_i sr, xa_i pu, xa_i ri] := (oh10 _ (by omega)).trans hB0
                                  have hB1 : h10.1 (kb + 1) = xa_a 9 ld := (oh10 _ (by omega)).trans hB1
                                  have hB2 : h10.1 (kb + 2) = xa_a 2 dg := (oh10 _ (by omega)).trans hB2
                                  have hn : h10.2 = h.2 := nh10.trans hn
                                  have fr : ∀ i, ((i < k ∨ k + 8 ≤ i) ∧ i ≠ kbr ∧ i ≠ kam ∧ i < p) → h10.1 i = h.1 i := fun i hi => (oh10 i (by omega)).trans (fr i hi)
                                  refine xa_iincw (pc := 138) (y := 2) [some (xa_r k), some (xa_i 27), some (xa_i 2), some (xa_i 1)] dX6_numberShapes_138 (by decide) rfl rfl rfl rfl ?_
                                  refine xa_goto (pc := 141) (tgt := 32) dX6_numberShapes_141 (by decide) ?_
                                  refine xa_iload_n (pc := 32) dX6_numberShapes_32 rfl ?_
                                  refine xa_aload_n (pc := 33) dX6_numberShapes_33 rfl ?_
                                  refine xa_getfield (pc := 34) dX6_numberShapes_34 flRX6_9 (by omega) (by omega) hT0 rfl ?_
                                  refine xa_alen (pc := 37) dX6_numberShapes_37 (by omega) hT1 ?_
                                  refine xa_top (y := 2) rfl ?_
                                  refine xa_icmp_ge (pc := 38) (tgt := 144) dX6_numberShapes_38 (by decide) (by decide) (by decide) (fun c_38 => ?_) (fun c_38 => ?_)
                                  · skip
                                    exact c_nsTa3 _ _ _ _ _ _ _ _ _ _ _ _ _ _ _ _ _ _ _ _ _ _ _ hk (by omega) hkb hkk hkbr (by omega) hkam (by omega) hkq hB9 hlt p hp ⟨xa_upf_ne _ _ (by decide) |>.trans (xa_upf_at _ _ _), xa_upf_at _ _ _, xa_upf_ne _ _ (by decide) |>.trans (xa_upf_at _ _ _), xa_upf_at _ _ _, xa_upf_b (xa_upf_b hpl0 (by have := tp_b (sj := sj) hB9 0; omega)) (by have := tp_b (sj := sj) hB9 1; omega)⟩ hT0 hT1 hT2 hT3 hT4 hS0 hS1 hS2 hB0 hB1 hB2 hn fr
                                  · skip
                                    exfalso; omega
                    · skip
                      exfalso; omega
                  · skip
                    exfalso; omega
                · skip
                  refine xa_iconst (pc := 69) dX6_numberShapes_69 ?_
                  refine xa_goto (pc := 70) (tgt := 74) dX6_numberShapes_70 (by decide) ?_
                  refine xa_istoren (pc := 74) [some (xa_r k), some (xa_i 27), some (xa_i 0), some (xa_i 1)] dX6_numberShapes_74 (by decide) (Nat.le_of_ble_eq_true rfl) rfl rfl ?_
                  refine xa_aload_n (pc := 75) dX6_numberShapes_75 rfl ?_
                  refine xa_getfield (pc := 76) dX6_numberShapes_76 flRX6_9 (by omega) (by omega) hT0 rfl ?_
                  refine xa_iload_n (pc := 79) dX6_numberShapes_79 rfl ?_
                  refine xa_iload_n (pc := 80) dX6_numberShapes_80 rfl ?_
                  refine xa_if_eq (pc := 81) (tgt := 99) dX6_numberShapes_81 (by decide) (by decide) (fun c_81 => ?_) (fun c_81 => ?_)
                  · skip
                    exfalso; omega
                  · skip
                    refine xa_aload_n (pc := 84) dX6_numberShapes_84 rfl ?_
                    refine xa_getfield (pc := 85) dX6_numberShapes_85 flRX6_24 (by omega) (by omega) hT0 rfl ?_
                    refine xa_iload_n (pc := 88) dX6_numberShapes_88 rfl ?_
                    refine xa_callV (pc := 89) (as := [xa_i 0]) (rest := [xa_i 0, xa_r (k + 1)]) dX6_numberShapes_89 ⟨qX0_stepsOf.1, qX0_stepsOf.2.1, qX0_stepsOf.2.2, by decide, by decide⟩ lkRX6_52 imX0_stepsOf seX0_stepsOf rfl rfl (by omega) (by omega) hB0 rfl (Nat.le_of_ble_eq_true rfl) (Nat.zero_le _) (Nat.zero_le _) (c_stepsOf _ _ _ _ _ _ _ _ _ _ (by decide) (by omega) ⟨hB0, hB1, hB2, by omega, by omega⟩) (fun r h' hq => ?_)
                    obtain ⟨rfl, hq⟩ := hq
                    have hq := hq.symm
                    subst hq
                    refine xa_iconst (pc := 92) dX6_numberShapes_92 ?_
                    refine xa_callS (pc := 93) (as := [xa_i (sp_steps wa sr 0), xa_i 1]) (rest := [xa_i 0, xa_r (k + 1)]) dX6_numberShapes_93 ⟨qJ9_max_7cf53.1, qJ9_max_7cf53.2.1, qJ9_max_7cf53.2.2, by decide, by decide⟩ lkRX6_56 smJ9_max_7cf53 rfl rfl (Nat.le_of_ble_eq_true rfl) (Nat.zero_le _) (Nat.zero_le _) (c_max _ _ (by unfold sp_steps; split <;> omega) (by decide)) (fun r h' hq => ?_)
                    obtain ⟨rfl, hq⟩ := hq
                    have hq := hq.symm
                    subst hq
                    refine xa_goto (pc := 96) (tgt := 100) dX6_numberShapes_96 (by decide) ?_
                    refine xa_top (y := tp 2 wa sr sj 0) (by first | exact tp_y hB9 (j := 0) (by decide) (fun z => by omega) | exact tp_n (j := 0) (Or.inr (by omega)) | exact tp_n (j := 0) (Or.inl (by decide))) ?_
                    refine xa_iastw (pc := 100) 0 dX6_numberShapes_100 (by omega) (by omega) hT1 (by omega) (by omega) rfl (fun h11 nh11 ch11 oh11 => ?_)
                    have hT1 : h11.1 (k + 1) = xa_a 2 (xa_upf pl 0 (tp 2 wa sr sj 0)) := ch11
                    have hT0 : h11.1 k = xa_o 6 [xa_r kb, xa_r (k + 5), xa_i sj, xa_r (k + 1), xa_r (k + 2), xa_i 27, xa_i fs, xa_i lst, xa_r kbr, xa_r kam] := (oh11 _ (by omega)).trans hT0
                    have hT2 : h11.1 (k + 2) = xa_a 2 lw := (oh11 _ (by omega)).trans hT2
                    have hT3 : h11.1 kbr = xa_a nb br := (oh11 _ (by omega)).trans hT3
                    have hT4 : h11.1 kam = xa_a na am := (oh11 _ (by omega)).trans hT4
                    have hS0 : h11.1 (k + 5) = xa_o 4 [xa_r kb, xa_r (k + 5 + 1), xa_r (k + 5 + 2), xa_i tj, xa_i tb] := (oh11 _ (by omega)).trans hS0
                    have hS1 : h11.1 (k + 5 + 1) = xa_a 3 po := (oh11 _ (by omega)).trans hS1
                    have hS2 : h11.1 (k + 5 + 2) = xa_a 2 sp := (oh11 _ (by omega)).trans hS2
                    have hB0 : h11.1 kb = xa_o 0 [xa_r (kb + 1), xa_r (kb + 2), xa_i 3, xa_i 2, xa_i wa, xa_i sr, xa_i pu, xa_i ri] := (oh11 _ (by omega)).trans hB0
                    have hB1 : h11.1 (kb + 1) = xa_a 9 ld := (oh11 _ (by omega)).trans hB1
                    have hB2 : h11.1 (kb + 2) = xa_a 2 dg := (oh11 _ (by omega)).trans hB2
                    have hn : h11.2 = h.2 := nh11.trans hn
                    have fr : ∀ i, ((i < k ∨ k + 8 ≤ i) ∧ i ≠ kbr ∧ i ≠ kam ∧ i < p) → h11.1 i = h.1 i := fun i hi => (oh11 i (by omega)).trans (fr i hi)
                    refine xa_aload_n (pc := 101) dX6_numberShapes_101 rfl ?_
                    refine xa_getfield (pc := 102) dX6_numberShapes_102 flRX6_15 (by omega) (by omega) hT0 rfl ?_
                    refine xa_iload_n (pc := 105) dX6_numberShapes_105 rfl ?_
                    refine xa_iload_n (pc := 106) dX6_numberShapes_106 rfl ?_
                    refine xa_if_eq (pc := 107) (tgt := 121) dX6_numberShapes_107 (by decide) (by decide) (fun c_107 => ?_) (fun c_107 => ?_)
                    · skip
                      exfalso; omega
                    · skip
                      refine xa_aload_n (pc := 110) dX6_numberShapes_110 rfl ?_
                      refine xa_getfield (pc := 111) dX6_numberShapes_111 flRX6_24 (by omega) (by omega) hT0 rfl ?_
                      refine xa_iload_n (pc := 114) dX6_numberShapes_114 rfl ?_
                      refine xa_callV (pc := 115) (as := [xa_i 0]) (rest := [xa_i 0, xa_r (k + 2)]) dX6_numberShapes_115 ⟨qX0_lowestOf.1, qX0_lowestOf.2.1, qX0_lowestOf.2.2, by decide, by decide⟩ lkRX6_62 imX0_lowestOf seX0_lowestOf rfl rfl (by omega) (by omega) hB0 rfl (Nat.le_of_ble_eq_true rfl) (Nat.zero_le _) (Nat.zero_le _) (c_lowestOf _ _ _ _ _ _ _ _ _ _ (by decide) (by omega) ⟨hB0, hB1, hB2, by omega, by omega⟩) (fun r h' hq => ?_)
                      obtain ⟨rfl, hq⟩ := hq
                      have hq := hq.symm
                      subst hq
                      refine xa_goto (pc := 118) (tgt := 122) dX6_numberShapes_118 (by decide) ?_
                      refine xa_top (y := -tz 2 wa sj 0) (by first | exact tz_y (j := 0) (by decide) (fun z => by omega) | exact tz_n (j := 0) (Or.inr (by omega)) | exact tz_n (j := 0) (Or.inl (by decide))) ?_
                      refine xa_iastw (pc := 122) 0 dX6_numberShapes_122 (by omega) (by omega) hT2 (by omega) (by omega) rfl (fun h12 nh12 ch12 oh12 => ?_)
                      have hT2 : h12.1 (k + 2) = xa_a 2 (xa_upf lw 0 (-tz 2 wa sj 0)) := ch12
                      have hT0 : h12.1 k = xa_o 6 [xa_r kb, xa_r (k + 5), xa_i sj, xa_r (k + 1), xa_r (k + 2), xa_i 27, xa_i fs, xa_i lst, xa_r kbr, xa_r kam] := (oh12 _ (by omega)).trans hT0
                      have hT1 : h12.1 (k + 1) = xa_a 2 (xa_upf pl 0 (tp 2 wa sr sj 0)) := (oh12 _ (by omega)).trans hT1
                      have hT3 : h12.1 kbr = xa_a nb br := (oh12 _ (by omega)).trans hT3
                      have hT4 : h12.1 kam = xa_a na am := (oh12 _ (by omega)).trans hT4
                      have hS0 : h12.1 (k + 5) = xa_o 4 [xa_r kb, xa_r (k + 5 + 1), xa_r (k + 5 + 2), xa_i tj, xa_i tb] := (oh12 _ (by omega)).trans hS0
                      have hS1 : h12.1 (k + 5 + 1) = xa_a 3 po := (oh12 _ (by omega)).trans hS1
                      have hS2 : h12.1 (k + 5 + 2) = xa_a 2 sp := (oh12 _ (by omega)).trans hS2
                      have hB0 : h12.1 kb = xa_o 0 [xa_r (kb + 1), xa_r (kb + 2), xa_i 3, xa_i 2, xa_i wa, xa_i sr, xa_i pu, xa_i ri] := (oh12 _ (by omega)).trans hB0
                      have hB1 : h12.1 (kb + 1) = xa_a 9 ld := (oh12 _ (by omega)).trans hB1
                      have hB2 : h12.1 (kb + 2) = xa_a 2 dg := (oh12 _ (by omega)).trans hB2
                      have hn : h12.2 = h.2 := nh12.trans hn
                      have fr : ∀ i, ((i < k ∨ k + 8 ≤ i) ∧ i ≠ kbr ∧ i ≠ kam ∧ i < p) → h12.1 i = h.1 i := fun i hi => (oh12 i (by omega)).trans (fr i hi)
                      refine xa_aload_n (pc := 123) dX6_numberShapes_123 rfl ?_
                      refine xa_dup (pc := 124) dX6_numberShapes_124 rfl ?_
                      refine xa_getfield (pc := 125) dX6_numberShapes_125 flRX6_46 (by omega) (by omega) hT0 rfl ?_
                      refine xa_aload_n (pc := 128) dX6_numberShapes_128 rfl ?_
                      refine xa_getfield (pc := 129) dX6_numberShapes_129 flRX6_9 (by omega) (by omega) hT0 rfl ?_
                      refine xa_iload_n (pc := 132) dX6_numberShapes_132 rfl ?_
                      refine xa_ialdw (pc := 133) 0 dX6_numberShapes_133 (by omega) hT1 (by omega) (by omega) rfl ?_
                      refine xa_top (y := tp 2 wa sr sj 0) (xa_upf_at _ _ _) ?_
                      refine xa_imul (pc := 134) dX6_numberShapes_134 ?_
                      refine xa_putw (pc := 135) [xa_r kb, xa_r (k + 5), xa_i sj, xa_r (k + 1), xa_r (k + 2), xa_i (27 * (tp 2 wa sr sj 0)), xa_i fs, xa_i lst, xa_r kbr, xa_r kam] dX6_numberShapes_135 flRX6_46 plX6_5 (by omega) (by omega) hT0 trivial rfl (fun h13 nh13 ch13 oh13 => ?_)
                      have hT0 : h13.1 k = xa_o 6 [xa_r kb, xa_r (k + 5), xa_i sj, xa_r (k + 1), xa_r (k + 2), xa_i (27 * (tp 2 wa sr sj 0)), xa_i fs, xa_i lst, xa_r kbr, xa_r kam] := ch13
                      have hT1 : h13.1 (k + 1) = xa_a 2 (xa_upf pl 0 (tp 2 wa sr sj 0)) := (oh13 _ (by omega)).trans hT1
                      have hT2 : h13.1 (k + 2) = xa_a 2 (xa_upf lw 0 (-tz 2 wa sj 0)) := (oh13 _ (by omega)).trans hT2
                      have hT3 : h13.1 kbr = xa_a nb br := (oh13 _ (by omega)).trans hT3
                      have hT4 : h13.1 kam = xa_a na am := (oh13 _ (by omega)).trans hT4
                      have hS0 : h13.1 (k + 5) = xa_o 4 [xa_r kb, xa_r (k + 5 + 1), xa_r (k + 5 + 2), xa_i tj, xa_i tb] := (oh13 _ (by omega)).trans hS0
                      have hS1 : h13.1 (k + 5 + 1) = xa_a 3 po := (oh13 _ (by omega)).trans hS1
                      have hS2 : h13.1 (k + 5 + 2) = xa_a 2 sp := (oh13 _ (by omega)).trans hS2
                      have hB0 : h13.1 kb = xa_o 0 [xa_r (kb + 1), xa_r (kb + 2), xa_i 3, xa_i 2, xa_i wa, xa_i sr, xa_i pu, xa_i ri] := (oh13 _ (by omega)).trans hB0
                      have hB1 : h13.1 (kb + 1) = xa_a 9 ld := (oh13 _ (by omega)).trans hB1
                      have hB2 : h13.1 (kb + 2) = xa_a 2 dg := (oh13 _ (by omega)).trans hB2
                      have hn : h13.2 = h.2 := nh13.trans hn
                      have fr : ∀ i, ((i < k ∨ k + 8 ≤ i) ∧ i ≠ kbr ∧ i ≠ kam ∧ i < p) → h13.1 i = h.1 i := fun i hi => (oh13 i (by omega)).trans (fr i hi)
                      refine xa_iincw (pc := 138) (y := 1) [some (xa_r k), some (xa_i 27), some (xa_i 1), some (xa_i 1)] dX6_numberShapes_138 (by decide) rfl rfl rfl rfl ?_
                      refine xa_goto (pc := 141) (tgt := 32) dX6_numberShapes_141 (by decide) ?_
                      refine xa_iload_n (pc := 32) dX6_numberShapes_32 rfl ?_
                      refine xa_aload_n (pc := 33) dX6_numberShapes_33 rfl ?_
                      refine xa_getfield (pc := 34) dX6_numberShapes_34 flRX6_9 (by omega) (by omega) hT0 rfl ?_
                      refine xa_alen (pc := 37) dX6_numberShapes_37 (by omega) hT1 ?_
                      refine xa_top (y := 2) rfl ?_
                      refine xa_icmp_ge (pc := 38) (tgt := 144) dX6_numberShapes_38 (by decide) (by decide) (by decide) (fun c_38 => ?_) (fun c_38 => ?_)
                      · skip
                        exfalso; omega
                      · skip
                        refine xa_iload_n (pc := 41) dX6_numberShapes_41 rfl ?_
                        refine xa_aload_n (pc := 42) dX6_numberShapes_42 rfl ?_
                        refine xa_getfield (pc := 43) dX6_numberShapes_43 flRX6_15 (by omega) (by omega) hT0 rfl ?_
                        refine xa_alen (pc := 46) dX6_numberShapes_46 (by omega) hT2 ?_
                        refine xa_top (y := 2) rfl ?_
                        refine xa_icmp_ge (pc := 47) (tgt := 144) dX6_numberShapes_47 (by decide) (by decide) (by decide) (fun c_47 => ?_) (fun c_47 => ?_)
                        · skip
                          exfalso; omega
                        · skip
                          refine xa_iload_n (pc := 50) dX6_numberShapes_50 rfl ?_
                          refine xa_aload_n (pc := 51) dX6_numberShapes_51 rfl ?_
                          refine xa_getfield (pc := 52) dX6_numberShapes_52 flRX6_24 (by omega) (by omega) hT0 rfl ?_
                          refine xa_getfield (pc := 55) dX6_numberShapes_55 flRX6_49 (by omega) (by omega) hB0 rfl ?_
                          refine xa_icmp_ge (pc := 58) (tgt := 73) dX6_numberShapes_58 (by decide) (by decide) (by decide) (fun c_58 => ?_) (fun c_58 => ?_)
                          · skip
                            exfalso; omega
                          · skip
                            refine xa_iload_n (pc := 61) dX6_numberShapes_61 rfl ?_
                            refine xa_aload_n (pc := 62) dX6_numberShapes_62 rfl ?_
                            refine xa_getfield (pc := 63) dX6_numberShapes_63 flRX6_28 (by omega) (by omega) hT0 rfl ?_
                            refine xa_icmp_eq (pc := 66) (tgt := 73) dX6_numberShapes_66 (by decide) (by decide) ⟨by omega, by omega⟩ (fun c_66 => ?_) (fun c_66 => ?_)
                            · skip
                              refine xa_iconst (pc := 73) dX6_numberShapes_73 ?_
                              refine xa_istoren (pc := 74) [some (xa_r k), some (xa_i 27), some (xa_i 1), some (xa_i 0)] dX6_numberShapes_74 (by decide) (Nat.le_of_ble_eq_true rfl) rfl rfl ?_
                              refine xa_aload_n (pc := 75) dX6_numberShapes_75 rfl ?_
                              refine xa_getfield (pc := 76) dX6_numberShapes_76 flRX6_9 (by omega) (by omega) hT0 rfl ?_
                              refine xa_iload_n (pc := 79) dX6_numberShapes_79 rfl ?_
                              refine xa_iload_n (pc := 80) dX6_numberShapes_80 rfl ?_
                              refine xa_if_eq (pc := 81) (tgt := 99) dX6_numberShapes_81 (by decide) (by decide) (fun c_81 => ?_) (fun c_81 => ?_)
                              · skip
                                refine xa_iconst (pc := 99) dX6_numberShapes_99 ?_
                                refine xa_top (y := tp 2 wa sr sj 1) (by first | exact tp_y hB9 (j := 1) (by decide) (fun z => by omega) | exact tp_n (j := 1) (Or.inr (by omega)) | exact tp_n (j := 1) (Or.inl (by decide))) ?_
                                refine xa_iastw (pc := 100) 1 dX6_numberShapes_100 (by omega) (by omega) hT1 (by omega) (by omega) rfl (fun h14 nh14 ch14 oh14 => ?_)
                                have hT1 : h14.1 (k + 1) = xa_a 2 (xa_upf (xa_upf pl 0 (tp 2 wa sr sj 0)) 1 (tp 2 wa sr sj 1)) := ch14
                                have hT0 : h14.1 k = xa_o 6 [xa_r kb, xa_r (k + 5), xa_i sj, xa_r (k + 1), xa_r (k + 2), xa_i (27 * (tp 2 wa sr sj 0)), xa_i fs, xa_i lst, xa_r kbr, xa_r kam] := (oh14 _ (by omega)).trans hT0
                                have hT2 : h14.1 (k + 2) = xa_a 2 (xa_upf lw 0 (-tz 2 wa sj 0)) := (oh14 _ (by omega)).trans hT2
                                have hT3 : h14.1 kbr = xa_a nb br := (oh14 _ (by omega)).trans hT3
                                have hT4 : h14.1 kam = xa_a na am := (oh14 _ (by omega)).trans hT4
                                have hS0 : h14.1 (k + 5) = xa_o 4 [xa_r kb, xa_r (k + 5 + 1), xa_r (k + 5 + 2), xa_i tj, xa_i tb] := (oh14 _ (by omega)).trans hS0
                                have hS1 : h14.1 (k + 5 + 1) = xa_a 3 po := (oh14 _ (by omega)).trans hS1
                                have hS2 : h14.1 (k + 5 + 2) = xa_a 2 sp := (oh14 _ (by omega)).trans hS2
                                have hB0 : h14.1 kb = xa_o 0 [xa_r (kb + 1), xa_r (kb + 2), xa_i 3, xa_i 2, xa_i wa, xa_i sr, xa_i pu, xa_i ri] := (oh14 _ (by omega)).trans hB0
                                have hB1 : h14.1 (kb + 1) = xa_a 9 ld := (oh14 _ (by omega)).trans hB1
                                have hB2 : h14.1 (kb + 2) = xa_a 2 dg := (oh14 _ (by omega)).trans hB2
                                have hn : h14.2 = h.2 := nh14.trans hn
                                have fr : ∀ i, ((i < k ∨ k + 8 ≤ i) ∧ i ≠ kbr ∧ i ≠ kam ∧ i < p) → h14.1 i = h.1 i := fun i hi => (oh14 i (by omega)).trans (fr i hi)
                                refine xa_aload_n (pc := 101) dX6_numberShapes_101 rfl ?_
                                refine xa_getfield (pc := 102) dX6_numberShapes_102 flRX6_15 (by omega) (by omega) hT0 rfl ?_
                                refine xa_iload_n (pc := 105) dX6_numberShapes_105 rfl ?_
                                refine xa_iload_n (pc := 106) dX6_numberShapes_106 rfl ?_
                                refine xa_if_eq (pc := 107) (tgt := 121) dX6_numberShapes_107 (by decide) (by decide) (fun c_107 => ?_) (fun c_107 => ?_)
                                · skip
                                  refine xa_iconst (pc := 121) dX6_numberShapes_121 ?_
                                  refine xa_top (y := -tz 2 wa sj 1) (by first | exact tz_y (j := 1) (by decide) (fun z => by omega) | exact tz_n (j := 1) (Or.inr (by omega)) | exact tz_n (j := 1) (Or.inl (by decide))) ?_
                                  refine xa_iastw (pc := 122) 1 dX6_numberShapes_122 (by omega) (by omega) hT2 (by omega) (by omega) rfl (fun h15 nh15 ch15 oh15 => ?_)
                                  have hT2 : h15.1 (k + 2) = xa_a 2 (xa_upf (xa_upf lw 0 (-tz 2 wa sj 0)) 1 (-tz 2 wa sj 1)) := ch15
                                  have hT0 : h15.1 k = xa_o 6 [xa_r kb, xa_r (k + 5), xa_i sj, xa_r (k + 1), xa_r (k + 2), xa_i (27 * (tp 2 wa sr sj 0)), xa_i fs, xa_i lst, xa_r kbr, xa_r kam] := (oh15 _ (by omega)).trans hT0
                                  have hT1 : h15.1 (k + 1) = xa_a 2 (xa_upf (xa_upf pl 0 (tp 2 wa sr sj 0)) 1 (tp 2 wa sr sj 1)) := (oh15 _ (by omega)).trans hT1
                                  have hT3 : h15.1 kbr = xa_a nb br := (oh15 _ (by omega)).trans hT3
                                  have hT4 : h15.1 kam = xa_a na am := (oh15 _ (by omega)).trans hT4
                                  have hS0 : h15.1 (k + 5) = xa_o 4 [xa_r kb, xa_r (k + 5 + 1), xa_r (k + 5 + 2), xa_i tj, xa_i tb] := (oh15 _ (by omega)).trans hS0
                                  have hS1 : h15.1 (k + 5 + 1) = xa_a 3 po := (oh15 _ (by omega)).trans hS1
                                  have hS2 : h15.1 (k + 5 + 2) = xa_a 2 sp := (oh15 _ (by omega)).trans hS2
                                  have hB0 : h15.1 kb = xa_o 0 [xa_r (kb + 1), xa_r (kb + 2), xa_i 3, xa_i 2, xa_i wa, xa_i sr, xa_i pu, xa_i ri] := (oh15 _ (by omega)).trans hB0
                                  have hB1 : h15.1 (kb + 1) = xa_a 9 ld := (oh15 _ (by omega)).trans hB1
                                  have hB2 : h15.1 (kb + 2) = xa_a 2 dg := (oh15 _ (by omega)).trans hB2
                                  have hn : h15.2 = h.2 := nh15.trans hn
                                  have fr : ∀ i, ((i < k ∨ k + 8 ≤ i) ∧ i ≠ kbr ∧ i ≠ kam ∧ i < p) → h15.1 i = h.1 i := fun i hi => (oh15 i (by omega)).trans (fr i hi)
                                  refine xa_aload_n (pc := 123) dX6_numberShapes_123 rfl ?_
                                  refine xa_dup (pc := 124) dX6_numberShapes_124 rfl ?_
                                  refine xa_getfield (pc := 125) dX6_numberShapes_125 flRX6_46 (by omega) (by omega) hT0 rfl ?_
                                  refine xa_aload_n (pc := 128) dX6_numberShapes_128 rfl ?_
                                  refine xa_getfield (pc := 129) dX6_numberShapes_129 flRX6_9 (by omega) (by omega) hT0 rfl ?_
                                  refine xa_iload_n (pc := 132) dX6_numberShapes_132 rfl ?_
                                  refine xa_ialdw (pc := 133) 1 dX6_numberShapes_133 (by omega) hT1 (by omega) (by omega) rfl ?_
                                  refine xa_top (y := tp 2 wa sr sj 1) (xa_upf_at _ _ _) ?_
                                  refine xa_imul (pc := 134) dX6_numberShapes_134 ?_
                                  refine xa_top (y := (((kN 3 2 wa sr sj).toNat : Nat) : Int)) (by rw [Int.toNat_of_nonneg (by omega)]; unfold kN; rw [if_pos (by decide)]) ?_
                                  refine xa_putw (pc := 135) [xa_r kb, xa_r (k + 5), xa_i sj, xa_r (k + 1), xa_r (k + 2), xa_i (((kN 3 2 wa sr sj).toNat : Nat) : Int), xa_i fs, xa_i lst, xa_r kbr, xa_r kam] dX6_numberShapes_135 flRX6_46 plX6_5 (by omega) (by omega) hT0 trivial rfl (fun h16 nh16 ch16 oh16 => ?_)
                                  have hT0 : h16.1 k = xa_o 6 [xa_r kb, xa_r (k + 5), xa_i sj, xa_r (k + 1), xa_r (k + 2), xa_i (((kN 3 2 wa sr sj).toNat : Nat) : Int), xa_i fs, xa_i lst, xa_r kbr, xa_r kam] := ch16
                                  have hT1 : h16.1 (k + 1) = xa_a 2 (xa_upf (xa_upf pl 0 (tp 2 wa sr sj 0)) 1 (tp 2 wa sr sj 1)) := (oh16 _ (by omega)).trans hT1
                                  have hT2 : h16.1 (k + 2) = xa_a 2 (xa_upf (xa_upf lw 0 (-tz 2 wa sj 0)) 1 (-tz 2 wa sj 1)) := (oh16 _ (by omega)).trans hT2
                                  have hT3 : h16.1 kbr = xa_a nb br := (oh16 _ (by omega)).trans hT3
                                  have hT4 : h16.1 kam = xa_a na am := (oh16 _ (by omega)).trans hT4
                                  have hS0 : h16.1 (k + 5) = xa_o 4 [xa_r kb, xa_r (k + 5 + 1), xa_r (k + 5 + 2), xa_i tj, xa_i tb] := (oh16 _ (by omega)).trans hS0
                                  have hS1 : h16.1 (k + 5 + 1) = xa_a 3 po := (oh16 _ (by omega)).trans hS1
                                  have hS2 : h16.1 (k + 5 + 2) = xa_a 2 sp := (oh16 _ (by omega)).trans hS2
                                  have hB0 : h16.1 kb = xa_o 0 [xa_r (kb + 1), xa_r (kb + 2), xa_i 3, xa_i 2, xa_i wa, xa_i sr, xa_i pu, xa_i ri] := (oh16 _ (by omega)).trans hB0
                                  have hB1 : h16.1 (kb + 1) = xa_a 9 ld := (oh16 _ (by omega)).trans hB1
                                  have hB2 : h16.1 (kb + 2) = xa_a 2 dg := (oh16 _ (by omega)).trans hB2
                                  have hn : h16.2 = h.2 := nh16.trans hn
                                  have fr : ∀ i, ((i < k ∨ k + 8 ≤ i) ∧ i ≠ kbr ∧ i ≠ kam ∧ i < p) → h16.1 i = h.1 i := fun i hi => (oh16 i (by omega)).trans (fr i hi)
                                  refine xa_iincw (pc := 138) (y := 2) [some (xa_r k), some (xa_i 27), some (xa_i 2), some (xa_i 0)] dX6_numberShapes_138 (by decide) rfl rfl rfl rfl ?_
                                  refine xa_goto (pc := 141) (tgt := 32) dX6_numberShapes_141 (by decide) ?_
                                  refine xa_iload_n (pc := 32) dX6_numberShapes_32 rfl ?_
                                  refine xa_aload_n (pc := 33) dX6_numberShapes_33 rfl ?_
                                  refine xa_getfield (pc := 34) dX6_numberShapes_34 flRX6_9 (by omega) (by omega) hT0 rfl ?_
                                  refine xa_alen (pc := 37) dX6_numberShapes_37 (by omega) hT1 ?_
                                  refine xa_top (y := 2) rfl ?_
                                  refine xa_icmp_ge (pc := 38) (tgt := 144) dX6_numberShapes_38 (by decide) (by decide) (by decide) (fun c_38 => ?_) (fun c_38 => ?_)
                                  · skip
                                    exact c_nsTa3 _ _ _ _ _ _ _ _ _ _ _ _ _ _ _ _ _ _ _ _ _ _ _ hk (by omega) hkb hkk hkbr (by omega) hkam (by omega) hkq hB9 hlt p hp ⟨xa_upf_ne _ _ (by decide) |>.trans (xa_upf_at _ _ _), xa_upf_at _ _ _, xa_upf_ne _ _ (by decide) |>.trans (xa_upf_at _ _ _), xa_upf_at _ _ _, xa_upf_b (xa_upf_b hpl0 (by have := tp_b (sj := sj) hB9 0; omega)) (by have := tp_b (sj := sj) hB9 1; omega)⟩ hT0 hT1 hT2 hT3 hT4 hS0 hS1 hS2 hB0 hB1 hB2 hn fr
                                  · skip
                                    exfalso; omega
                                · skip
                                  exfalso; omega
                              · skip
                                exfalso; omega
                            · skip
                              refine xa_iconst (pc := 69) dX6_numberShapes_69 ?_
                              refine xa_goto (pc := 70) (tgt := 74) dX6_numberShapes_70 (by decide) ?_
                              refine xa_istoren (pc := 74) [some (xa_r k), some (xa_i 27), some (xa_i 1), some (xa_i 1)] dX6_numberShapes_74 (by decide) (Nat.le_of_ble_eq_true rfl) rfl rfl ?_
                              refine xa_aload_n (pc := 75) dX6_numberShapes_75 rfl ?_
                              refine xa_getfield (pc := 76) dX6_numberShapes_76 flRX6_9 (by omega) (by omega) hT0 rfl ?_
                              refine xa_iload_n (pc := 79) dX6_numberShapes_79 rfl ?_
                              refine xa_iload_n (pc := 80) dX6_numberShapes_80 rfl ?_
                              refine xa_if_eq (pc := 81) (tgt := 99) dX6_numberShapes_81 (by decide) (by decide) (fun c_81 => ?_) (fun c_81 => ?_)
                              · skip
                                exfalso; omega
                              · skip
                                refine xa_aload_n (pc := 84) dX6_numberShapes_84 rfl ?_
                                refine xa_getfield (pc := 85) dX6_numberShapes_85 flRX6_24 (by omega) (by omega) hT0 rfl ?_
                                refine xa_iload_n (pc := 88) dX6_numberShapes_88 rfl ?_
                                refine xa_callV (pc := 89) (as := [xa_i 1]) (rest := [xa_i 1, xa_r (k + 1)]) dX6_numberShapes_89 ⟨qX0_stepsOf.1, qX0_stepsOf.2.1, qX0_stepsOf.2.2, by decide, by decide⟩ lkRX6_52 imX0_stepsOf seX0_stepsOf rfl rfl (by omega) (by omega) hB0 rfl (Nat.le_of_ble_eq_true rfl) (Nat.zero_le _) (Nat.zero_le _) (c_stepsOf _ _ _ _ _ _ _ _ _ _ (by decide) (by omega) ⟨hB0, hB1, hB2, by omega, by omega⟩) (fun r h' hq => ?_)
                                obtain ⟨rfl, hq⟩ := hq
                                have hq := hq.symm
                                subst hq
                                refine xa_iconst (pc := 92) dX6_numberShapes_92 ?_
                                refine xa_callS (pc := 93) (as := [xa_i (sp_steps wa sr 1), xa_i 1]) (rest := [xa_i 1, xa_r (k + 1)]) dX6_numberShapes_93 ⟨qJ9_max_7cf53.1, qJ9_max_7cf53.2.1, qJ9_max_7cf53.2.2, by decide, by decide⟩ lkRX6_56 smJ9_max_7cf53 rfl rfl (Nat.le_of_ble_eq_true rfl) (Nat.zero_le _) (Nat.zero_le _) (c_max _ _ (by unfold sp_steps; split <;> omega) (by decide)) (fun r h' hq => ?_)
                                obtain ⟨rfl, hq⟩ := hq
                                have hq := hq.symm
                                subst hq
                                refine xa_goto (pc := 96) (tgt := 100) dX6_numberShapes_96 (by decide) ?_
                                refine xa_top (y := tp 2 wa sr sj 1) (by first | exact tp_y hB9 (j := 1) (by decide) (fun z => by omega) | exact tp_n (j := 1) (Or.inr (by omega)) | exact tp_n (j := 1) (Or.inl (by decide))) ?_
                                refine xa_iastw (pc := 100) 1 dX6_numberShapes_100 (by omega) (by omega) hT1 (by omega) (by omega) rfl (fun h17 nh17 ch17 oh17 => ?_)
                                have hT1 : h17.1 (k + 1) = xa_a 2 (xa_upf (xa_upf pl 0 (tp 2 wa sr sj 0)) 1 (tp 2 wa sr sj 1)) := ch17
                                have hT0 : h17.1 k = xa_o 6 [xa_r kb, xa_r (k + 5), xa_i sj, xa_r (k + 1), xa_r (k + 2), xa_i (27 * (tp 2 wa sr sj 0)), xa_i fs, xa_i lst, xa_r kbr, xa_r kam] := (oh17 _ (by omega)).trans hT0
                                have hT2 : h17.1 (k + 2) = xa_a 2 (xa_upf lw 0 (-tz 2 wa sj 0)) := (oh17 _ (by omega)).trans hT2
                                have hT3 : h17.1 kbr = xa_a nb br := (oh17 _ (by omega)).trans hT3
                                have hT4 : h17.1 kam = xa_a na am := (oh17 _ (by omega)).trans hT4
                                have hS0 : h17.1 (k + 5) = xa_o 4 [xa_r kb, xa_r (k + 5 + 1), xa_r (k + 5 + 2), xa_i tj, xa_i tb] := (oh17 _ (by omega)).trans hS0
                                have hS1 : h17.1 (k + 5 + 1) = xa_a 3 po := (oh17 _ (by omega)).trans hS1
                                have hS2 : h17.1 (k + 5 + 2) = xa_a 2 sp := (oh17 _ (by omega)).trans hS2
                                have hB0 : h17.1 kb = xa_o 0 [xa_r (kb + 1), xa_r (kb + 2), xa_i 3, xa_i 2, xa_i wa, xa_i sr, xa_i pu, xa_i ri] := (oh17 _ (by omega)).trans hB0
                                have hB1 : h17.1 (kb + 1) = xa_a 9 ld := (oh17 _ (by omega)).trans hB1
                                have hB2 : h17.1 (kb + 2) = xa_a 2 dg := (oh17 _ (by omega)).trans hB2
                                have hn : h17.2 = h.2 := nh17.trans hn
                                have fr : ∀ i, ((i < k ∨ k + 8 ≤ i) ∧ i ≠ kbr ∧ i ≠ kam ∧ i < p) → h17.1 i = h.1 i := fun i hi => (oh17 i (by omega)).trans (fr i hi)
                                refine xa_aload_n (pc := 101) dX6_numberShapes_101 rfl ?_
                                refine xa_getfield (pc := 102) dX6_numberShapes_102 flRX6_15 (by omega) (by omega) hT0 rfl ?_
                                refine xa_iload_n (pc := 105) dX6_numberShapes_105 rfl ?_
                                refine xa_iload_n (pc := 106) dX6_numberShapes_106 rfl ?_
                                refine xa_if_eq (pc := 107) (tgt := 121) dX6_numberShapes_107 (by decide) (by decide) (fun c_107 => ?_) (fun c_107 => ?_)
                                · skip
                                  exfalso; omega
                                · skip
                                  refine xa_aload_n (pc := 110) dX6_numberShapes_110 rfl ?_
                                  refine xa_getfield (pc := 111) dX6_numberShapes_111 flRX6_24 (by omega) (by omega) hT0 rfl ?_
                                  refine xa_iload_n (pc := 114) dX6_numberShapes_114 rfl ?_
                                  refine xa_callV (pc := 115) (as := [xa_i 1]) (rest := [xa_i 1, xa_r (k + 2)]) dX6_numberShapes_115 ⟨qX0_lowestOf.1, qX0_lowestOf.2.1, qX0_lowestOf.2.2, by decide, by decide⟩ lkRX6_62 imX0_lowestOf seX0_lowestOf rfl rfl (by omega) (by omega) hB0 rfl (Nat.le_of_ble_eq_true rfl) (Nat.zero_le _) (Nat.zero_le _) (c_lowestOf _ _ _ _ _ _ _ _ _ _ (by decide) (by omega) ⟨hB0, hB1, hB2, by omega, by omega⟩) (fun r h' hq => ?_)
                                  obtain ⟨rfl, hq⟩ := hq
                                  have hq := hq.symm
                                  subst hq
                                  refine xa_goto (pc := 118) (tgt := 122) dX6_numberShapes_118 (by decide) ?_
                                  refine xa_top (y := -tz 2 wa sj 1) (by first | exact tz_y (j := 1) (by decide) (fun z => by omega) | exact tz_n (j := 1) (Or.inr (by omega)) | exact tz_n (j := 1) (Or.inl (by decide))) ?_
                                  refine xa_iastw (pc := 122) 1 dX6_numberShapes_122 (by omega) (by omega) hT2 (by omega) (by omega) rfl (fun h18 nh18 ch18 oh18 => ?_)
                                  have hT2 : h18.1 (k + 2) = xa_a 2 (xa_upf (xa_upf lw 0 (-tz 2 wa sj 0)) 1 (-tz 2 wa sj 1)) := ch18
                                  have hT0 : h18.1 k = xa_o 6 [xa_r kb, xa_r (k + 5), xa_i sj, xa_r (k + 1), xa_r (k + 2), xa_i (27 * (tp 2 wa sr sj 0)), xa_i fs, xa_i lst, xa_r kbr, xa_r kam] := (oh18 _ (by omega)).trans hT0
                                  have hT1 : h18.1 (k + 1) = xa_a 2 (xa_upf (xa_upf pl 0 (tp 2 wa sr sj 0)) 1 (tp 2 wa sr sj 1)) := (oh18 _ (by omega)).trans hT1
                                  have hT3 : h18.1 kbr = xa_a nb br := (oh18 _ (by omega)).trans hT3
                                  have hT4 : h18.1 kam = xa_a na am := (oh18 _ (by omega)).trans hT4
                                  have hS0 : h18.1 (k + 5) = xa_o 4 [xa_r kb, xa_r (k + 5 + 1), xa_r (k + 5 + 2), xa_i tj, xa_i tb] := (oh18 _ (by omega)).trans hS0
                                  have hS1 : h18.1 (k + 5 + 1) = xa_a 3 po := (oh18 _ (by omega)).trans hS1
                                  have hS2 : h18.1 (k + 5 + 2) = xa_a 2 sp := (oh18 _ (by omega)).trans hS2
                                  have hB0 : h18.1 kb = xa_o 0 [xa_r (kb + 1), xa_r (kb + 2), xa_i 3, xa_i 2, xa_i wa, xa_i sr, xa_i pu, xa_i ri] := (oh18 _ (by omega)).trans hB0
                                  have hB1 : h18.1 (kb + 1) = xa_a 9 ld := (oh18 _ (by omega)).trans hB1
                                  have hB2 : h18.1 (kb + 2) = xa_a 2 dg := (oh18 _ (by omega)).trans hB2
                                  have hn : h18.2 = h.2 := nh18.trans hn
                                  have fr : ∀ i, ((i < k ∨ k + 8 ≤ i) ∧ i ≠ kbr ∧ i ≠ kam ∧ i < p) → h18.1 i = h.1 i := fun i hi => (oh18 i (by omega)).trans (fr i hi)
                                  refine xa_aload_n (pc := 123) dX6_numberShapes_123 rfl ?_
                                  refine xa_dup (pc := 124) dX6_numberShapes_124 rfl ?_
                                  refine xa_getfield (pc := 125) dX6_numberShapes_125 flRX6_46 (by omega) (by omega) hT0 rfl ?_
                                  refine xa_aload_n (pc := 128) dX6_numberShapes_128 rfl ?_
                                  refine xa_getfield (pc := 129) dX6_numberShapes_129 flRX6_9 (by omega) (by omega) hT0 rfl ?_
                                  refine xa_iload_n (pc := 132) dX6_numberShapes_132 rfl ?_
                                  refine xa_ialdw (pc := 133) 1 dX6_numberShapes_133 (by omega) hT1 (by omega) (by omega) rfl ?_
                                  refine xa_top (y := tp 2 wa sr sj 1) (xa_upf_at _ _ _) ?_
                                  refine xa_imul (pc := 134) dX6_numberShapes_134 ?_
                                  refine xa_top (y := (((kN 3 2 wa sr sj).toNat : Nat) : Int)) (by rw [Int.toNat_of_nonneg (by omega)]; unfold kN; rw [if_pos (by decide)]) ?_
                                  refine xa_putw (pc := 135) [xa_r kb, xa_r (k + 5), xa_i sj, xa_r (k + 1), xa_r (k + 2), xa_i (((kN 3 2 wa sr sj).toNat : Nat) : Int), xa_i fs, xa_i lst, xa_r kbr, xa_r kam] dX6_numberShapes_135 flRX6_46 plX6_5 (by omega) (by omega) hT0 trivial rfl (fun h19 nh19 ch19 oh19 => ?_)
                                  have hT0 : h19.1 k = xa_o 6 [xa_r kb, xa_r (k + 5), xa_i sj, xa_r (k + 1), xa_r (k + 2), xa_i (((kN 3 2 wa sr sj).toNat : Nat) : Int), xa_i fs, xa_i lst, xa_r kbr, xa_r kam] := ch19
                                  have hT1 : h19.1 (k + 1) = xa_a 2 (xa_upf (xa_upf pl 0 (tp 2 wa sr sj 0)) 1 (tp 2 wa sr sj 1)) := (oh19 _ (by omega)).trans hT1
                                  have hT2 : h19.1 (k + 2) = xa_a 2 (xa_upf (xa_upf lw 0 (-tz 2 wa sj 0)) 1 (-tz 2 wa sj 1)) := (oh19 _ (by omega)).trans hT2
                                  have hT3 : h19.1 kbr = xa_a nb br := (oh19 _ (by omega)).trans hT3
                                  have hT4 : h19.1 kam = xa_a na am := (oh19 _ (by omega)).trans hT4
                                  have hS0 : h19.1 (k + 5) = xa_o 4 [xa_r kb, xa_r (k + 5 + 1), xa_r (k + 5 + 2), xa_i tj, xa_i tb] := (oh19 _ (by omega)).trans hS0
                                  have hS1 : h19.1 (k + 5 + 1) = xa_a 3 po := (oh19 _ (by omega)).trans hS1
                                  have hS2 : h19.1 (k + 5 + 2) = xa_a 2 sp := (oh19 _ (by omega)).trans hS2
                                  have hB0 : h19.1 kb = xa_o 0 [xa_r (kb + 1), xa_r (kb + 2), xa_i 3, xa_i 2, xa_i wa, xa_i sr, xa_i pu, xa_i ri] := (oh19 _ (by omega)).trans hB0
                                  have hB1 : h19.1 (kb + 1) = xa_a 9 ld := (oh19 _ (by omega)).trans hB1
                                  have hB2 : h19.1 (kb + 2) = xa_a 2 dg := (oh19 _ (by omega)).trans hB2
                                  have hn : h19.2 = h.2 := nh19.trans hn
                                  have fr : ∀ i, ((i < k ∨ k + 8 ≤ i) ∧ i ≠ kbr ∧ i ≠ kam ∧ i < p) → h19.1 i = h.1 i := fun i hi => (oh19 i (by omega)).trans (fr i hi)
                                  refine xa_iincw (pc := 138) (y := 2) [some (xa_r k), some (xa_i 27), some (xa_i 2), some (xa_i 1)] dX6_numberShapes_138 (by decide) rfl rfl rfl rfl ?_
                                  refine xa_goto (pc := 141) (tgt := 32) dX6_numberShapes_141 (by decide) ?_
                                  refine xa_iload_n (pc := 32) dX6_numberShapes_32 rfl ?_
                                  refine xa_aload_n (pc := 33) dX6_numberShapes_33 rfl ?_
                                  refine xa_getfield (pc := 34) dX6_numberShapes_34 flRX6_9 (by omega) (by omega) hT0 rfl ?_
                                  refine xa_alen (pc := 37) dX6_numberShapes_37 (by omega) hT1 ?_
                                  refine xa_top (y := 2) rfl ?_
                                  refine xa_icmp_ge (pc := 38) (tgt := 144) dX6_numberShapes_38 (by decide) (by decide) (by decide) (fun c_38 => ?_) (fun c_38 => ?_)
                                  · skip
                                    exact c_nsTa3 _ _ _ _ _ _ _ _ _ _ _ _ _ _ _ _ _ _ _ _ _ _ _ hk (by omega) hkb hkk hkbr (by omega) hkam (by omega) hkq hB9 hlt p hp ⟨xa_upf_ne _ _ (by decide) |>.trans (xa_upf_at _ _ _), xa_upf_at _ _ _, xa_upf_ne _ _ (by decide) |>.trans (xa_upf_at _ _ _), xa_upf_at _ _ _, xa_upf_b (xa_upf_b hpl0 (by have := tp_b (sj := sj) hB9 0; omega)) (by have := tp_b (sj := sj) hB9 1; omega)⟩ hT0 hT1 hT2 hT3 hT4 hS0 hS1 hS2 hB0 hB1 hB2 hn fr
                                  · skip
                                    exfalso; omega
        · skip
          exfalso; omega
