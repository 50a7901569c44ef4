/-! Body: the rest -/
def sp_told (s : Int) : Nat → Bool
  | 0 => false
  | m + 1 => sp_told s m || decide (xa_wagf m = s)
theorem sp_told_8 (s : Int) : sp_told s 8 = true ↔ sp_wagL s := by
  rw [show sp_told s 8 = ((((((((false || decide (30 = s)) || decide (36 = s)) || decide (40 = s)) || decide (45 = s)) || decide (60 = s)) || decide (72 = s)) || decide (90 = s)) || decide (120 = s)) from rfl]
  simp only [Bool.or_eq_true, decide_eq_true_eq, Bool.false_eq_true, false_or]
  unfold sp_wagL
  omega
theorem xa_wagf_b (m : Nat) : 0 ≤ xa_wagf m ∧ xa_wagf m ≤ 120 := by
  unfold xa_wagf
  by_cases h : m < 8
  · have : m = 0 ∨ m = 1 ∨ m = 2 ∨ m = 3 ∨ m = 4 ∨ m = 5 ∨ m = 6 ∨ m = 7 := by omega
    rcases this with rfl | rfl | rfl | rfl | rfl | rfl | rfl | rfl <;> decide
  · have e : ([30, 36, 40, 45, 60, 72, 90, 120] : List Int)[m]? = none := by
      rw [List.getElem?_eq_none_iff]
      simp
      omega
    simp [List.getD, e]
/-- 1 as long as the rows are the same, from c on -/
def sp_sm (c : Int) (f g : Nat → Int) : Nat → Int
  | 0 => c
  | m + 1 => if sp_sm c f g m ≠ 0 ∧ f m = g m then 1 else 0
theorem sp_sm_b {c : Int} (hc : c = 0 ∨ c = 1) (f g : Nat → Int) : ∀ m, sp_sm c f g m = 0 ∨ sp_sm c f g m = 1
  | 0 => hc
  | m + 1 => by
    show (if _ then (1 : Int) else 0) = 0 ∨ (if _ then (1 : Int) else 0) = 1
    split <;> simp
theorem sp_sm_1 {c : Int} (f g : Nat → Int) : ∀ m, (m = 0 → c ≠ 0) → (sp_sm c f g m ≠ 0 ↔ c ≠ 0 ∧ ∀ i, i < m → f i = g i)
  | 0, h => ⟨fun q => ⟨q, fun i hi => absurd hi (Nat.not_lt_zero _)⟩, fun q => q.1⟩
  | m + 1, _ => by
    have key : sp_sm c f g m ≠ 0 ↔ c ≠ 0 ∧ ∀ i, i < m → f i = g i := by
      by_cases h : m = 0
      · subst h
        exact ⟨fun q => ⟨q, fun i hi => absurd hi (Nat.not_lt_zero _)⟩, fun q => q.1⟩
      · exact sp_sm_1 f g m (fun z => absurd z h)
    show (if sp_sm c f g m ≠ 0 ∧ f m = g m then (1 : Int) else 0) ≠ 0 ↔ _
    constructor
    · intro h
      split at h
      · rename_i hq
        refine ⟨(key.mp hq.1).1, fun i hi => ?_⟩
        by_cases e : i = m
        · rw [e]; exact hq.2
        · exact (key.mp hq.1).2 i (by omega)
      · exact absurd rfl h
    · intro h
      rw [if_pos ⟨key.mpr ⟨h.1, fun i hi => h.2 i (by omega)⟩, h.2 m (by omega)⟩]
      decide

theorem c_copyB2 {G : xa_G} {h0 : xa_H} {k k2 : Nat} {ld dg ld2 dg2 : Nat → Int} {pa jo pa2 jo2 : Nat} {wa sr pu ri wa2 sr2 pu2 ri2 : Int} (hk : 2 ≤ k) (hk2 : 2 ≤ k2) (hkk : k2 + 3 ≤ k ∨ k + 3 ≤ k2) : ∀ (d : Nat) (m : Nat) (h : xa_H), 2 - m < d → (m ≤ 2) → (h.2 = h0.2) → (k + 2 < h.2) → (k2 + 2 < h.2) → (h.1 k = xa_o 0 [xa_r (k + 1), xa_r (k + 2), xa_i ((pa : Nat) : Int), xa_i ((jo : Nat) : Int), xa_i wa, xa_i sr, xa_i pu, xa_i ri]) → (h.1 (k + 1) = xa_a 9 (sp_cp ld ld2 9)) → (h.1 (k + 2) = xa_a 2 (sp_cp dg dg2 m)) → (h.1 k2 = xa_o 0 [xa_r (k2 + 1), xa_r (k2 + 2), xa_i ((pa2 : Nat) : Int), xa_i ((jo2 : Nat) : Int), xa_i wa2, xa_i sr2, xa_i pu2, xa_i ri2]) → (h.1 (k2 + 1) = xa_a 9 ld2) → (h.1 (k2 + 2) = xa_a 2 dg2) → (∀ i, (i < k ∨ k + 3 ≤ i) → h.1 i = h0.1 i) → xa_W G mX0_copyBody (xa_Z G (fun r h' => r = none ∧ xB h' k (sp_cp ld ld2 9) (sp_cp dg dg2 2) pa2 jo2 wa2 sr2 pu2 ri2 ∧ h'.2 = h0.2 ∧ ∀ i, (i < k ∨ k + 3 ≤ i) → h'.1 i = h0.1 i)) 40 [some (xa_r k), some (xa_r k2), some (xa_i ((m : Nat) : Int))] [] h 0 0 := by
  intro d
  induction d with
  | zero => intros; exfalso; omega
  | succ d ih =>
    intro m h hd hm hn0 hkn hkn2 hB0 hB1 hB2 hO0 hO1 hO2 fr0
    have hn : h.2 = h.2 := rfl
    have fr : ∀ i, (i < k ∨ k + 3 ≤ i) → h.1 i = h.1 i := fun _ _ => rfl
    refine xa_iload_n (pc := 40) dX0_copyBody_40 rfl ?_
    refine xa_aload_n (pc := 41) dX0_copyBody_41 rfl ?_
    refine xa_getfield (pc := 42) dX0_copyBody_42 flRX0_15 (by omega) (by omega) hB0 rfl ?_
    refine xa_alen (pc := 45) dX0_copyBody_45 (by omega) hB2 ?_
    refine xa_top (y := 2) rfl ?_
    refine xa_icmp_ge (pc := 46) (tgt := 76) dX0_copyBody_46 (by decide) ⟨by omega, by omega⟩ (by decide) (fun c_46 => ?_) (fun c_46 => ?_)
    · skip
      refine xa_aload_n (pc := 76) dX0_copyBody_76 rfl ?_
      refine xa_aload_n (pc := 77) dX0_copyBody_77 rfl ?_
      refine xa_getfield (pc := 78) dX0_copyBody_78 flRX0_25 (by omega) (by omega) hO0 rfl ?_
      refine xa_putw (pc := 81) [xa_r (k + 1), xa_r (k + 2), xa_i ((pa2 : Nat) : Int), xa_i ((jo : Nat) : Int), xa_i wa, xa_i sr, xa_i pu, xa_i ri] dX0_copyBody_81 flRX0_25 plX0_2 (by omega) (by omega) hB0 trivial rfl (fun h1 nh1 ch1 oh1 => ?_)
      have hB0 : h1.1 k = xa_o 0 [xa_r (k + 1), xa_r (k + 2), xa_i ((pa2 : Nat) : Int), xa_i ((jo : Nat) : Int), xa_i wa, xa_i sr, xa_i pu, xa_i ri] := ch1
      have hB1 : h1.1 (k + 1) = xa_a 9 (sp_cp ld ld2 9) := (oh1 _ (by omega)).trans hB1
      have hB2 : h1.1 (k + 2) = xa_a 2 (sp_cp dg dg2 m) := (oh1 _ (by omega)).trans hB2
      have hO0 : h1.1 k2 = xa_o 0 [xa_r (k2 + 1), xa_r (k2 + 2), xa_i ((pa2 : Nat) : Int), xa_i ((jo2 : Nat) : Int), xa_i wa2, xa_i sr2, xa_i pu2, xa_i ri2] := (oh1 _ (by omega)).trans hO0
      have hO1 : h1.1 (k2 + 1) = xa_a 9 ld2 := (oh1 _ (by omega)).trans hO1
      have hO2 : h1.1 (k2 + 2) = xa_a 2 dg2 := (oh1 _ (by omega)).trans hO2
      have hn : h1.2 = h.2 := nh1.trans hn
      have fr : ∀ i, (i < k ∨ k + 3 ≤ i) → h1.1 i = h.1 i := fun i hi => (oh1 i (by omega)).trans (fr i hi)
      refine xa_aload_n (pc := 84) dX0_copyBody_84 rfl ?_
      refine xa_aload_n (pc := 85) dX0_copyBody_85 rfl ?_
      refine xa_getfield (pc := 86) dX0_copyBody_86 flRX0_28 (by omega) (by omega) hO0 rfl ?_
      refine xa_putw (pc := 89) [xa_r (k + 1), xa_r (k + 2), xa_i ((pa2 : Nat) : Int), xa_i ((jo2 : Nat) : Int), xa_i wa, xa_i sr, xa_i pu, xa_i ri] dX0_copyBody_89 flRX0_28 plX0_3 (by omega) (by omega) hB0 trivial rfl (fun h2 nh2 ch2 oh2 => ?_)
      have hB0 : h2.1 k = xa_o 0 [xa_r (k + 1), xa_r (k + 2), xa_i ((pa2 : Nat) : Int), xa_i ((jo2 : Nat) : Int), xa_i wa, xa_i sr, xa_i pu, xa_i ri] := ch2
      have hB1 : h2.1 (k + 1) = xa_a 9 (sp_cp ld ld2 9) := (oh2 _ (by omega)).trans hB1
      have hB2 : h2.1 (k + 2) = xa_a 2 (sp_cp dg dg2 m) := (oh2 _ (by omega)).trans hB2
      have hO0 : h2.1 k2 = xa_o 0 [xa_r (k2 + 1), xa_r (k2 + 2), xa_i ((pa2 : Nat) : Int), xa_i ((jo2 : Nat) : Int), xa_i wa2, xa_i sr2, xa_i pu2, xa_i ri2] := (oh2 _ (by omega)).trans hO0
      have hO1 : h2.1 (k2 + 1) = xa_a 9 ld2 := (oh2 _ (by omega)).trans hO1
      have hO2 : h2.1 (k2 + 2) = xa_a 2 dg2 := (oh2 _ (by omega)).trans hO2
      have hn : h2.2 = h.2 := nh2.trans hn
      have fr : ∀ i, (i < k ∨ k + 3 ≤ i) → h2.1 i = h.1 i := fun i hi => (oh2 i (by omega)).trans (fr i hi)
      refine xa_aload_n (pc := 92) dX0_copyBody_92 rfl ?_
      refine xa_aload_n (pc := 93) dX0_copyBody_93 rfl ?_
      refine xa_getfield (pc := 94) dX0_copyBody_94 flRX0_18 (by omega) (by omega) hO0 rfl ?_
      refine xa_putw (pc := 97) [xa_r (k + 1), xa_r (k + 2), xa_i ((pa2 : Nat) : Int), xa_i ((jo2 : Nat) : Int), xa_i wa2, xa_i sr, xa_i pu, xa_i ri] dX0_copyBody_97 flRX0_18 plX0_4 (by omega) (by omega) hB0 trivial rfl (fun h3 nh3 ch3 oh3 => ?_)
      have hB0 : h3.1 k = xa_o 0 [xa_r (k + 1), xa_r (k + 2), xa_i ((pa2 : Nat) : Int), xa_i ((jo2 : Nat) : Int), xa_i wa2, xa_i sr, xa_i pu, xa_i ri] := ch3
      have hB1 : h3.1 (k + 1) = xa_a 9 (sp_cp ld ld2 9) := (oh3 _ (by omega)).trans hB1
      have hB2 : h3.1 (k + 2) = xa_a 2 (sp_cp dg dg2 m) := (oh3 _ (by omega)).trans hB2
      have hO0 : h3.1 k2 = xa_o 0 [xa_r (k2 + 1), xa_r (k2 + 2), xa_i ((pa2 : Nat) : Int), xa_i ((jo2 : Nat) : Int), xa_i wa2, xa_i sr2, xa_i pu2, xa_i ri2] := (oh3 _ (by omega)).trans hO0
      have hO1 : h3.1 (k2 + 1) = xa_a 9 ld2 := (oh3 _ (by omega)).trans hO1
      have hO2 : h3.1 (k2 + 2) = xa_a 2 dg2 := (oh3 _ (by omega)).trans hO2
      have hn : h3.2 = h.2 := nh3.trans hn
      have fr : ∀ i, (i < k ∨ k + 3 ≤ i) → h3.1 i = h.1 i := fun i hi => (oh3 i (by omega)).trans (fr i hi)
      refine xa_aload_n (pc := 100) dX0_copyBody_100 rfl ?_
      refine xa_aload_n (pc := 101) dX0_copyBody_101 rfl ?_
      refine xa_getfield (pc := 102) dX0_copyBody_102 flRX0_31 (by omega) (by omega) hO0 rfl ?_
      refine xa_putw (pc := 105) [xa_r (k + 1), xa_r (k + 2), xa_i ((pa2 : Nat) : Int), xa_i ((jo2 : Nat) : Int), xa_i wa2, xa_i sr2, xa_i pu, xa_i ri] dX0_copyBody_105 flRX0_31 plX0_5 (by omega) (by omega) hB0 trivial rfl (fun h4 nh4 ch4 oh4 => ?_)
      have hB0 : h4.1 k = xa_o 0 [xa_r (k + 1), xa_r (k + 2), xa_i ((pa2 : Nat) : Int), xa_i ((jo2 : Nat) : Int), xa_i wa2, xa_i sr2, xa_i pu, xa_i ri] := ch4
      have hB1 : h4.1 (k + 1) = xa_a 9 (sp_cp ld ld2 9) := (oh4 _ (by omega)).trans hB1
      have hB2 : h4.1 (k + 2) = xa_a 2 (sp_cp dg dg2 m) := (oh4 _ (by omega)).trans hB2
      have hO0 : h4.1 k2 = xa_o 0 [xa_r (k2 + 1), xa_r (k2 + 2), xa_i ((pa2 : Nat) : Int), xa_i ((jo2 : Nat) : Int), xa_i wa2, xa_i sr2, xa_i pu2, xa_i ri2] := (oh4 _ (by omega)).trans hO0
      have hO1 : h4.1 (k2 + 1) = xa_a 9 ld2 := (oh4 _ (by omega)).trans hO1
      have hO2 : h4.1 (k2 + 2) = xa_a 2 dg2 := (oh4 _ (by omega)).trans hO2
      have hn : h4.2 = h.2 := nh4.trans hn
      have fr : ∀ i, (i < k ∨ k + 3 ≤ i) → h4.1 i = h.1 i := fun i hi => (oh4 i (by omega)).trans (fr i hi)
      refine xa_aload_n (pc := 108) dX0_copyBody_108 rfl ?_
      refine xa_aload_n (pc := 109) dX0_copyBody_109 rfl ?_
      refine xa_getfield (pc := 110) dX0_copyBody_110 flRX0_34 (by omega) (by omega) hO0 rfl ?_
      refine xa_putw (pc := 113) [xa_r (k + 1), xa_r (k + 2), xa_i ((pa2 : Nat) : Int), xa_i ((jo2 : Nat) : Int), xa_i wa2, xa_i sr2, xa_i pu2, xa_i ri] dX0_copyBody_113 flRX0_34 plX0_6 (by omega) (by omega) hB0 trivial rfl (fun h5 nh5 ch5 oh5 => ?_)
      have hB0 : h5.1 k = xa_o 0 [xa_r (k + 1), xa_r (k + 2), xa_i ((pa2 : Nat) : Int), xa_i ((jo2 : Nat) : Int), xa_i wa2, xa_i sr2, xa_i pu2, xa_i ri] := ch5
      have hB1 : h5.1 (k + 1) = xa_a 9 (sp_cp ld ld2 9) := (oh5 _ (by omega)).trans hB1
      have hB2 : h5.1 (k + 2) = xa_a 2 (sp_cp dg dg2 m) := (oh5 _ (by omega)).trans hB2
      have hO0 : h5.1 k2 = xa_o 0 [xa_r (k2 + 1), xa_r (k2 + 2), xa_i ((pa2 : Nat) : Int), xa_i ((jo2 : Nat) : Int), xa_i wa2, xa_i sr2, xa_i pu2, xa_i ri2] := (oh5 _ (by omega)).trans hO0
      have hO1 : h5.1 (k2 + 1) = xa_a 9 ld2 := (oh5 _ (by omega)).trans hO1
      have hO2 : h5.1 (k2 + 2) = xa_a 2 dg2 := (oh5 _ (by omega)).trans hO2
      have hn : h5.2 = h.2 := nh5.trans hn
      have fr : ∀ i, (i < k ∨ k + 3 ≤ i) → h5.1 i = h.1 i := fun i hi => (oh5 i (by omega)).trans (fr i hi)
      refine xa_aload_n (pc := 116) dX0_copyBody_116 rfl ?_
      refine xa_aload_n (pc := 117) dX0_copyBody_117 rfl ?_
      refine xa_getfield (pc := 118) dX0_copyBody_118 flRX0_22 (by omega) (by omega) hO0 rfl ?_
      refine xa_putw (pc := 121) [xa_r (k + 1), xa_r (k + 2), xa_i ((pa2 : Nat) : Int), xa_i ((jo2 : Nat) : Int), xa_i wa2, xa_i sr2, xa_i pu2, xa_i ri2] dX0_copyBody_121 flRX0_22 plX0_7 (by omega) (by omega) hB0 trivial rfl (fun h6 nh6 ch6 oh6 => ?_)
      have hB0 : h6.1 k = xa_o 0 [xa_r (k + 1), xa_r (k + 2), xa_i ((pa2 : Nat) : Int), xa_i ((jo2 : Nat) : Int), xa_i wa2, xa_i sr2, xa_i pu2, xa_i ri2] := ch6
      have hB1 : h6.1 (k + 1) = xa_a 9 (sp_cp ld ld2 9) := (oh6 _ (by omega)).trans hB1
      have hB2 : h6.1 (k + 2) = xa_a 2 (sp_cp dg dg2 m) := (oh6 _ (by omega)).trans hB2
      have hO0 : h6.1 k2 = xa_o 0 [xa_r (k2 + 1), xa_r (k2 + 2), xa_i ((pa2 : Nat) : Int), xa_i ((jo2 : Nat) : Int), xa_i wa2, xa_i sr2, xa_i pu2, xa_i ri2] := (oh6 _ (by omega)).trans hO0
      have hO1 : h6.1 (k2 + 1) = xa_a 9 ld2 := (oh6 _ (by omega)).trans hO1
      have hO2 : h6.1 (k2 + 2) = xa_a 2 dg2 := (oh6 _ (by omega)).trans hO2
      have hn : h6.2 = h.2 := nh6.trans hn
      have fr : ∀ i, (i < k ∨ k + 3 ≤ i) → h6.1 i = h.1 i := fun i hi => (oh6 i (by omega)).trans (fr i hi)
      refine xa_return (pc := 124) dX0_copyBody_124 rfl ?_
      have hme : m = 2 := by omega
      subst hme
      exact ⟨rfl, ⟨hB0, hB1, hB2, by omega, by omega⟩, by omega, fun i hi => (fr i hi).trans (fr0 i hi)⟩
    · skip
      refine xa_iload_n (pc := 49) dX0_copyBody_49 rfl ?_
      refine xa_aload_n (pc := 50) dX0_copyBody_50 rfl ?_
      refine xa_getfield (pc := 51) dX0_copyBody_51 flRX0_15 (by omega) (by omega) hO0 rfl ?_
      refine xa_alen (pc := 54) dX0_copyBody_54 (by omega) hO2 ?_
      refine xa_top (y := 2) rfl ?_
      refine xa_icmp_ge (pc := 55) (tgt := 76) dX0_copyBody_55 (by decide) ⟨by omega, by omega⟩ (by decide) (fun c_55 => ?_) (fun c_55 => ?_)
      · skip
        exfalso; omega
      · skip
        refine xa_aload_n (pc := 58) dX0_copyBody_58 rfl ?_
        refine xa_getfield (pc := 59) dX0_copyBody_59 flRX0_15 (by omega) (by omega) hB0 rfl ?_
        refine xa_iload_n (pc := 62) dX0_copyBody_62 rfl ?_
        refine xa_aload_n (pc := 63) dX0_copyBody_63 rfl ?_
        refine xa_getfield (pc := 64) dX0_copyBody_64 flRX0_15 (by omega) (by omega) hO0 rfl ?_
        refine xa_iload_n (pc := 67) dX0_copyBody_67 rfl ?_
        refine xa_ialdw (pc := 68) m dX0_copyBody_68 (by omega) hO2 (by omega) (by omega) (Int.toNat_natCast _) ?_
        refine xa_iastw (pc := 69) m dX0_copyBody_69 (by omega) (by omega) hB2 (by omega) (by omega) (Int.toNat_natCast _) (fun h7 nh7 ch7 oh7 => ?_)
        have hB2 : h7.1 (k + 2) = xa_a 2 (xa_upf (sp_cp dg dg2 m) m (dg2 m)) := ch7
        have hB0 : h7.1 k = xa_o 0 [xa_r (k + 1), xa_r (k + 2), xa_i ((pa : Nat) : Int), xa_i ((jo : Nat) : Int), xa_i wa, xa_i sr, xa_i pu, xa_i ri] := (oh7 _ (by omega)).trans hB0
        have hB1 : h7.1 (k + 1) = xa_a 9 (sp_cp ld ld2 9) := (oh7 _ (by omega)).trans hB1
        have hO0 : h7.1 k2 = xa_o 0 [xa_r (k2 + 1), xa_r (k2 + 2), xa_i ((pa2 : Nat) : Int), xa_i ((jo2 : Nat) : Int), xa_i wa2, xa_i sr2, xa_i pu2, xa_i ri2] := (oh7 _ (by omega)).trans hO0
        have hO1 : h7.1 (k2 + 1) = xa_a 9 ld2 := (oh7 _ (by omega)).trans hO1
        have hO2 : h7.1 (k2 + 2) = xa_a 2 dg2 := (oh7 _ (by omega)).trans hO2
        have hn : h7.2 = h.2 := nh7.trans hn
        have fr : ∀ i, (i < k ∨ k + 3 ≤ i) → h7.1 i = h.1 i := fun i hi => (oh7 i (by omega)).trans (fr i hi)
        refine xa_iincw (pc := 70) (y := ((m + 1 : Nat) : Int)) [some (xa_r k), some (xa_r k2), some (xa_i ((m + 1 : Nat) : Int))] dX0_copyBody_70 (by decide) rfl rfl (by omega) rfl ?_
        refine xa_goto (pc := 73) (tgt := 40) dX0_copyBody_73 (by decide) ?_
        exact ih (m + 1) _ (by omega) (by omega) (by omega) (by omega) (by omega) hB0 hB1 (by rw [hB2, sp_cp_s]) hO0 hO1 hO2 (fun i hi => (fr i hi).trans (fr0 i hi))
theorem c_copyB1 {G : xa_G} {h0 : xa_H} {k k2 : Nat} {ld dg ld2 dg2 : Nat → Int} {pa jo pa2 jo2 : Nat} {wa sr pu ri wa2 sr2 pu2 ri2 : Int} (hk : 2 ≤ k) (hk2 : 2 ≤ k2) (hkk : k2 + 3 ≤ k ∨ k + 3 ≤ k2) : ∀ (d : Nat) (m : Nat) (h : xa_H), 9 - m < d → (m ≤ 9) → (h.2 = h0.2) → (k + 2 < h.2) → (k2 + 2 < h.2) → (h.1 k = xa_o 0 [xa_r (k + 1), xa_r (k + 2), xa_i ((pa : Nat) : Int), xa_i ((jo : Nat) : Int), xa_i wa, xa_i sr, xa_i pu, xa_i ri]) → (h.1 (k + 1) = xa_a 9 (sp_cp ld ld2 m)) → (h.1 (k + 2) = xa_a 2 dg) → (h.1 k2 = xa_o 0 [xa_r (k2 + 1), xa_r (k2 + 2), xa_i ((pa2 : Nat) : Int), xa_i ((jo2 : Nat) : Int), xa_i wa2, xa_i sr2, xa_i pu2, xa_i ri2]) → (h.1 (k2 + 1) = xa_a 9 ld2) → (h.1 (k2 + 2) = xa_a 2 dg2) → (∀ i, (i < k ∨ k + 3 ≤ i) → h.1 i = h0.1 i) → xa_W G mX0_copyBody (xa_Z G (fun r h' => r = none ∧ xB h' k (sp_cp ld ld2 9) (sp_cp dg dg2 2) pa2 jo2 wa2 sr2 pu2 ri2 ∧ h'.2 = h0.2 ∧ ∀ i, (i < k ∨ k + 3 ≤ i) → h'.1 i = h0.1 i)) 2 [some (xa_r k), some (xa_r k2), some (xa_i ((m : Nat) : Int))] [] h 0 0 := by
  intro d
  induction d with
  | zero => intros; exfalso; omega
  | succ d ih =>
    intro m h hd hm hn0 hkn hkn2 hB0 hB1 hB2 hO0 hO1 hO2 fr0
    have hn : h.2 = h.2 := rfl
    have fr : ∀ i, (i < k ∨ k + 3 ≤ i) → h.1 i = h.1 i := fun _ _ => rfl
    refine xa_iload_n (pc := 2) dX0_copyBody_2 rfl ?_
    refine xa_aload_n (pc := 3) dX0_copyBody_3 rfl ?_
    refine xa_getfield (pc := 4) dX0_copyBody_4 flRX0_9 (by omega) (by omega) hB0 rfl ?_
    refine xa_alen (pc := 7) dX0_copyBody_7 (by omega) hB1 ?_
    refine xa_top (y := 9) rfl ?_
    refine xa_icmp_ge (pc := 8) (tgt := 38) dX0_copyBody_8 (by decide) ⟨by omega, by omega⟩ (by decide) (fun c_8 => ?_) (fun c_8 => ?_)
    · skip
      refine xa_iconst (pc := 38) dX0_copyBody_38 ?_
      refine xa_istoren (pc := 39) [some (xa_r k), some (xa_r k2), some (xa_i 0)] dX0_copyBody_39 (by decide) (Nat.le_of_ble_eq_true rfl) rfl rfl ?_
      have hme : m = 9 := by omega
      subst hme
      exact c_copyB2 hk hk2 hkk 3 0 h (by omega) (by omega) hn0 hkn hkn2 hB0 hB1 (by rw [sp_cp_0]; exact hB2) hO0 hO1 hO2 fr0
    · skip
      refine xa_iload_n (pc := 11) dX0_copyBody_11 rfl ?_
      refine xa_aload_n (pc := 12) dX0_copyBody_12 rfl ?_
      refine xa_getfield (pc := 13) dX0_copyBody_13 flRX0_9 (by omega) (by omega) hO0 rfl ?_
      refine xa_alen (pc := 16) dX0_copyBody_16 (by omega) hO1 ?_
      refine xa_top (y := 9) rfl ?_
      refine xa_icmp_ge (pc := 17) (tgt := 38) dX0_copyBody_17 (by decide) ⟨by omega, by omega⟩ (by decide) (fun c_17 => ?_) (fun c_17 => ?_)
      · skip
        exfalso; omega
      · skip
        refine xa_aload_n (pc := 20) dX0_copyBody_20 rfl ?_
        refine xa_getfield (pc := 21) dX0_copyBody_21 flRX0_9 (by omega) (by omega) hB0 rfl ?_
        refine xa_iload_n (pc := 24) dX0_copyBody_24 rfl ?_
        refine xa_aload_n (pc := 25) dX0_copyBody_25 rfl ?_
        refine xa_getfield (pc := 26) dX0_copyBody_26 flRX0_9 (by omega) (by omega) hO0 rfl ?_
        refine xa_iload_n (pc := 29) dX0_copyBody_29 rfl ?_
        refine xa_ialdw (pc := 30) m dX0_copyBody_30 (by omega) hO1 (by omega) (by omega) (Int.toNat_natCast _) ?_
        refine xa_iastw (pc := 31) m dX0_copyBody_31 (by omega) (by omega) hB1 (by omega) (by omega) (Int.toNat_natCast _) (fun h1 nh1 ch1 oh1 => ?_)
        have hB1 : h1.1 (k + 1) = xa_a 9 (xa_upf (sp_cp ld ld2 m) m (ld2 m)) := ch1
        have hB0 : h1.1 k = xa_o 0 [xa_r (k + 1), xa_r (k + 2), xa_i ((pa : Nat) : Int), xa_i ((jo : Nat) : Int), xa_i wa, xa_i sr, xa_i pu, xa_i ri] := (oh1 _ (by omega)).trans hB0
        have hB2 : h1.1 (k + 2) = xa_a 2 dg := (oh1 _ (by omega)).trans hB2
        have hO0 : h1.1 k2 = xa_o 0 [xa_r (k2 + 1), xa_r (k2 + 2), xa_i ((pa2 : Nat) : Int), xa_i ((jo2 : Nat) : Int), xa_i wa2, xa_i sr2, xa_i pu2, xa_i ri2] := (oh1 _ (by omega)).trans hO0
        have hO1 : h1.1 (k2 + 1) = xa_a 9 ld2 := (oh1 _ (by omega)).trans hO1
        have hO2 : h1.1 (k2 + 2) = xa_a 2 dg2 := (oh1 _ (by omega)).trans hO2
        have hn : h1.2 = h.2 := nh1.trans hn
        have fr : ∀ i, (i < k ∨ k + 3 ≤ i) → h1.1 i = h.1 i := fun i hi => (oh1 i (by omega)).trans (fr i hi)
        refine xa_iincw (pc := 32) (y := ((m + 1 : Nat) : Int)) [some (xa_r k), some (xa_r k2), some (xa_i ((m + 1 : Nat) : Int))] dX0_copyBody_32 (by decide) rfl rfl (by omega) rfl ?_
        refine xa_goto (pc := 35) (tgt := 2) dX0_copyBody_35 (by decide) ?_
        exact ih (m + 1) _ (by omega) (by omega) (by omega) (by omega) (by omega) hB0 (by rw [hB1, sp_cp_s]) hB2 hO0 hO1 hO2 (fun i hi => (fr i hi).trans (fr0 i hi))
theorem c_copyBody {G : xa_G} {h : xa_H} (k k2 : Nat) (ld dg ld2 dg2 : Nat → Int) (pa jo pa2 jo2 : Nat) (wa sr pu ri wa2 sr2 pu2 ri2 : Int) (hkk : k2 + 3 ≤ k ∨ k + 3 ≤ k2) (hB : xB h k ld dg pa jo wa sr pu ri) (hO : xB h k2 ld2 dg2 pa2 jo2 wa2 sr2 pu2 ri2)  : xa_M G mX0_copyBody [xa_r k, xa_r k2] h 0 0 (fun r h' => r = none ∧ xB h' k (sp_cp ld ld2 9) (sp_cp dg dg2 2) pa2 jo2 wa2 sr2 pu2 ri2 ∧ h'.2 = h.2 ∧ ∀ i, (i < k ∨ k + 3 ≤ i) → h'.1 i = h.1 i) := by
  refine xa_enter (by decide +kernel) (Nat.le_of_ble_eq_true rfl) ?_
  refine xa_locals (ls' := [some (xa_r k), some (xa_r k2), none]) rfl ?_
  obtain ⟨hB0, hB1, hB2, hBk, hBn⟩ := hB
  obtain ⟨hO0, hO1, hO2, hOk, hOn⟩ := hO
  refine xa_iconst (pc := 0) dX0_copyBody_0 ?_
  refine xa_istoren (pc := 1) [some (xa_r k), some (xa_r k2), some (xa_i 0)] dX0_copyBody_1 (by decide) (Nat.le_of_ble_eq_true rfl) rfl rfl ?_
  exact c_copyB1 hBk hOk hkk 10 0 h (by omega) (by omega) rfl hBn hOn hB0 (by rw [sp_cp_0]; exact hB1) hB2 hO0 hO1 hO2 (fun _ _ => rfl)
theorem c_isAs2 {G : xa_G} {h : xa_H} {k k2 : Nat} {ld dg ld2 dg2 : Nat → Int} {pa jo pa2 jo2 : Nat} {wa sr pu ri wa2 sr2 pu2 ri2 c : Int} (hc : c = 0 ∨ c = 1) (hpa : pa ≤ 3) (hjo : jo ≤ 2) (hld : ∀ i, 0 ≤ ld i ∧ ld i ≤ 99) (hdg : ∀ i, 0 ≤ dg i ∧ dg i ≤ 120) (hld2 : ∀ i, 0 ≤ ld2 i ∧ ld2 i ≤ 99) (hdg2 : ∀ i, 0 ≤ dg2 i ∧ dg2 i ≤ 120) (hB : xB h k ld dg pa jo wa sr pu ri) (hO : xB h k2 ld2 dg2 pa2 jo2 wa2 sr2 pu2 ri2) : ∀ (d : Nat) (m : Nat), jo - m < d → (m ≤ jo) → xa_W G mX0_isAs (xa_Z G (fun r h' => r = some (xa_i (sp_sm (sp_sm c ld ld2 (pa * 3)) dg dg2 (jo))) ∧ h' = h)) 124 [some (xa_r k), some (xa_r k2), some (xa_i (sp_sm (sp_sm c ld ld2 (pa * 3)) dg dg2 (m))), some (xa_i ((m : Nat) : Int))] [] h 0 0 := by
  intro d
  induction d with
  | zero => intros; exfalso; omega
  | succ d ih =>
    intro m hd hm
    obtain ⟨hB0, hB1, hB2, hBk, hBn⟩ := hB
    obtain ⟨hO0, hO1, hO2, hOk, hOn⟩ := hO
    have bs := sp_sm_b (sp_sm_b hc ld ld2 (pa * 3)) dg dg2 m
    refine xa_iload_n (pc := 124) dX0_isAs_124 rfl ?_
    refine xa_aload_n (pc := 125) dX0_isAs_125 rfl ?_
    refine xa_getfield (pc := 126) dX0_isAs_126 flRX0_28 (by omega) (by omega) hB0 rfl ?_
    refine xa_icmp_ge (pc := 129) (tgt := 161) dX0_isAs_129 (by decide) ⟨by omega, by omega⟩ ⟨by omega, by omega⟩ (fun c_129 => ?_) (fun c_129 => ?_)
    · skip
      refine xa_iload_n (pc := 161) dX0_isAs_161 rfl ?_
      refine xa_ireturn (pc := 162) dX0_isAs_162 rfl bs ?_
      have hme : m = jo := by omega
      subst hme
      exact ⟨rfl, rfl⟩
    · skip
      refine xa_iload_n (pc := 132) dX0_isAs_132 rfl ?_
      refine xa_if_eq (pc := 133) (tgt := 153) dX0_isAs_133 (by decide) ⟨by omega, by omega⟩ (fun c_133 => ?_) (fun c_133 => ?_)
      · skip
        refine xa_iconst (pc := 153) dX0_isAs_153 ?_
        refine xa_istoren (pc := 154) [some (xa_r k), some (xa_r k2), some (xa_i 0), some (xa_i ((m : Nat) : Int))] dX0_isAs_154 (by decide) (Nat.le_of_ble_eq_true rfl) rfl rfl ?_
        refine xa_iincw (pc := 155) (y := ((m + 1 : Nat) : Int)) [some (xa_r k), some (xa_r k2), some (xa_i 0), some (xa_i ((m + 1 : Nat) : Int))] dX0_isAs_155 (by decide) rfl rfl (by omega) rfl ?_
        refine xa_goto (pc := 158) (tgt := 124) dX0_isAs_158 (by decide) ?_
        refine xa_locals (ls' := [some (xa_r k), some (xa_r k2), some (xa_i (sp_sm (sp_sm c ld ld2 (pa * 3)) dg dg2 (m + 1))), some (xa_i ((m + 1 : Nat) : Int))]) (by rw [show sp_sm (sp_sm c ld ld2 (pa * 3)) dg dg2 (m + 1) = 0 from by first | exact if_pos (by omega) | exact if_neg (by omega)]) ?_
        exact ih (m + 1) (by omega) (by omega)
      · skip
        refine xa_aload_n (pc := 136) dX0_isAs_136 rfl ?_
        refine xa_iload_n (pc := 137) dX0_isAs_137 rfl ?_
        refine xa_callV (pc := 138) (as := [xa_i ((m : Nat) : Int)]) (rest := []) dX0_isAs_138 ⟨qX0_stepOf.1, qX0_stepOf.2.1, qX0_stepOf.2.2, by decide, by decide⟩ lkRX0_58 imX0_stepOf seX0_stepOf rfl rfl (by omega) (by omega) hB0 rfl (Nat.le_of_ble_eq_true rfl) (Nat.zero_le _) (Nat.zero_le _) (c_stepOf _ _ _ _ _ _ _ _ _ _ ⟨by omega, by omega⟩ ⟨hB0, hB1, hB2, by omega, by omega⟩) (fun r h' hq => ?_)
        obtain ⟨rfl, hq⟩ := hq
        have hq := hq.symm
        subst hq
        have d1 := sp_dg_b hdg ((m : Nat) : Int)
        have e1 : sp_dg dg ((m : Nat) : Int) = dg m := if_pos (by omega)
        refine xa_aload_n (pc := 141) dX0_isAs_141 rfl ?_
        refine xa_iload_n (pc := 142) dX0_isAs_142 rfl ?_
        refine xa_callV (pc := 143) (as := [xa_i ((m : Nat) : Int)]) (rest := [xa_i (sp_dg dg ((m : Nat) : Int))]) dX0_isAs_143 ⟨qX0_stepOf.1, qX0_stepOf.2.1, qX0_stepOf.2.2, by decide, by decide⟩ lkRX0_58 imX0_stepOf seX0_stepOf rfl rfl (by omega) (by omega) hO0 rfl (Nat.le_of_ble_eq_true rfl) (Nat.zero_le _) (Nat.zero_le _) (c_stepOf _ _ _ _ _ _ _ _ _ _ ⟨by omega, by omega⟩ ⟨hO0, hO1, hO2, by omega, by omega⟩) (fun r h' hq => ?_)
        obtain ⟨rfl, hq⟩ := hq
        have hq := hq.symm
        subst hq
        have d2 := sp_dg_b hdg2 ((m : Nat) : Int)
        have e2 : sp_dg dg2 ((m : Nat) : Int) = dg2 m := if_pos (by omega)
        refine xa_icmp_ne (pc := 146) (tgt := 153) dX0_isAs_146 (by decide) ⟨by omega, by omega⟩ ⟨by omega, by omega⟩ (fun c_146 => ?_) (fun c_146 => ?_)
        · skip
          refine xa_iconst (pc := 153) dX0_isAs_153 ?_
          refine xa_istoren (pc := 154) [some (xa_r k), some (xa_r k2), some (xa_i 0), some (xa_i ((m : Nat) : Int))] dX0_isAs_154 (by decide) (Nat.le_of_ble_eq_true rfl) rfl rfl ?_
          refine xa_iincw (pc := 155) (y := ((m + 1 : Nat) : Int)) [some (xa_r k), some (xa_r k2), some (xa_i 0), some (xa_i ((m + 1 : Nat) : Int))] dX0_isAs_155 (by decide) rfl rfl (by omega) rfl ?_
          refine xa_goto (pc := 158) (tgt := 124) dX0_isAs_158 (by decide) ?_
          refine xa_locals (ls' := [some (xa_r k), some (xa_r k2), some (xa_i (sp_sm (sp_sm c ld ld2 (pa * 3)) dg dg2 (m + 1))), some (xa_i ((m + 1 : Nat) : Int))]) (by rw [show sp_sm (sp_sm c ld ld2 (pa * 3)) dg dg2 (m + 1) = 0 from by first | exact if_pos (by omega) | exact if_neg (by omega)]) ?_
          exact ih (m + 1) (by omega) (by omega)
        · skip
          refine xa_iconst (pc := 149) dX0_isAs_149 ?_
          refine xa_goto (pc := 150) (tgt := 154) dX0_isAs_150 (by decide) ?_
          refine xa_istoren (pc := 154) [some (xa_r k), some (xa_r k2), some (xa_i 1), some (xa_i ((m : Nat) : Int))] dX0_isAs_154 (by decide) (Nat.le_of_ble_eq_true rfl) rfl rfl ?_
          refine xa_iincw (pc := 155) (y := ((m + 1 : Nat) : Int)) [some (xa_r k), some (xa_r k2), some (xa_i 1), some (xa_i ((m + 1 : Nat) : Int))] dX0_isAs_155 (by decide) rfl rfl (by omega) rfl ?_
          refine xa_goto (pc := 158) (tgt := 124) dX0_isAs_158 (by decide) ?_
          refine xa_locals (ls' := [some (xa_r k), some (xa_r k2), some (xa_i (sp_sm (sp_sm c ld ld2 (pa * 3)) dg dg2 (m + 1))), some (xa_i ((m + 1 : Nat) : Int))]) (by rw [show sp_sm (sp_sm c ld ld2 (pa * 3)) dg dg2 (m + 1) = 1 from by first | exact if_pos (by omega) | exact if_neg (by omega)]) ?_
          exact ih (m + 1) (by omega) (by omega)
theorem c_isAs1 {G : xa_G} {h : xa_H} {k k2 : Nat} {ld dg ld2 dg2 : Nat → Int} {pa jo pa2 jo2 : Nat} {wa sr pu ri wa2 sr2 pu2 ri2 c : Int} (hc : c = 0 ∨ c = 1) (hpa : pa ≤ 3) (hjo : jo ≤ 2) (hld : ∀ i, 0 ≤ ld i ∧ ld i ≤ 99) (hdg : ∀ i, 0 ≤ dg i ∧ dg i ≤ 120) (hld2 : ∀ i, 0 ≤ ld2 i ∧ ld2 i ≤ 99) (hdg2 : ∀ i, 0 ≤ dg2 i ∧ dg2 i ≤ 120) (hB : xB h k ld dg pa jo wa sr pu ri) (hO : xB h k2 ld2 dg2 pa2 jo2 wa2 sr2 pu2 ri2) : ∀ (d : Nat) (m : Nat), pa * 3 - m < d → (m ≤ pa * 3) → xa_W G mX0_isAs (xa_Z G (fun r h' => r = some (xa_i (sp_sm (sp_sm c ld ld2 (pa * 3)) dg dg2 (jo))) ∧ h' = h)) 63 [some (xa_r k), some (xa_r k2), some (xa_i (sp_sm c ld ld2 (m))), some (xa_i ((m : Nat) : Int))] [] h 0 0 := by
  intro d
  induction d with
  | zero => intros; exfalso; omega
  | succ d ih =>
    intro m hd hm
    obtain ⟨hB0, hB1, hB2, hBk, hBn⟩ := hB
    obtain ⟨hO0, hO1, hO2, hOk, hOn⟩ := hO
    have bs := sp_sm_b hc ld ld2 m
    refine xa_iload_n (pc := 63) dX0_isAs_63 rfl ?_
    refine xa_aload_n (pc := 64) dX0_isAs_64 rfl ?_
    refine xa_getfield (pc := 65) dX0_isAs_65 flRX0_9 (by omega) (by omega) hB0 rfl ?_
    refine xa_alen (pc := 68) dX0_isAs_68 (by omega) hB1 ?_
    refine xa_top (y := 9) rfl ?_
    refine xa_icmp_ge (pc := 69) (tgt := 122) dX0_isAs_69 (by decide) ⟨by omega, by omega⟩ (by decide) (fun c_69 => ?_) (fun c_69 => ?_)
    · skip
      refine xa_iconst (pc := 122) dX0_isAs_122 ?_
      refine xa_istoren (pc := 123) [some (xa_r k), some (xa_r k2), some (xa_i (sp_sm c ld ld2 (m))), some (xa_i 0)] dX0_isAs_123 (by decide) (Nat.le_of_ble_eq_true rfl) rfl rfl ?_
      have hme : m = pa * 3 := by omega
      subst hme
      exact c_isAs2 hc hpa hjo hld hdg hld2 hdg2 ⟨hB0, hB1, hB2, by omega, by omega⟩ ⟨hO0, hO1, hO2, by omega, by omega⟩ (jo + 1) 0 (by omega) (Nat.zero_le _)
    · skip
      refine xa_iload_n (pc := 72) dX0_isAs_72 rfl ?_
      refine xa_aload_n (pc := 73) dX0_isAs_73 rfl ?_
      refine xa_getfield (pc := 74) dX0_isAs_74 flRX0_25 (by omega) (by omega) hB0 rfl ?_
      refine xa_iconst (pc := 77) dX0_isAs_77 ?_
      refine xa_imul (pc := 78) dX0_isAs_78 ?_
      refine xa_icmp_ge (pc := 79) (tgt := 122) dX0_isAs_79 (by decide) ⟨by omega, by omega⟩ ⟨by omega, by omega⟩ (fun c_79 => ?_) (fun c_79 => ?_)
      · skip
        refine xa_iconst (pc := 122) dX0_isAs_122 ?_
        refine xa_istoren (pc := 123) [some (xa_r k), some (xa_r k2), some (xa_i (sp_sm c ld ld2 (m))), some (xa_i 0)] dX0_isAs_123 (by decide) (Nat.le_of_ble_eq_true rfl) rfl rfl ?_
        have hme : m = pa * 3 := by omega
        subst hme
        exact c_isAs2 hc hpa hjo hld hdg hld2 hdg2 ⟨hB0, hB1, hB2, by omega, by omega⟩ ⟨hO0, hO1, hO2, by omega, by omega⟩ (jo + 1) 0 (by omega) (Nat.zero_le _)
      · skip
        refine xa_iload_n (pc := 82) dX0_isAs_82 rfl ?_
        refine xa_if_eq (pc := 83) (tgt := 114) dX0_isAs_83 (by decide) ⟨by omega, by omega⟩ (fun c_83 => ?_) (fun c_83 => ?_)
        · skip
          refine xa_iconst (pc := 114) dX0_isAs_114 ?_
          refine xa_istoren (pc := 115) [some (xa_r k), some (xa_r k2), some (xa_i 0), some (xa_i ((m : Nat) : Int))] dX0_isAs_115 (by decide) (Nat.le_of_ble_eq_true rfl) rfl rfl ?_
          refine xa_iincw (pc := 116) (y := ((m + 1 : Nat) : Int)) [some (xa_r k), some (xa_r k2), some (xa_i 0), some (xa_i ((m + 1 : Nat) : Int))] dX0_isAs_116 (by decide) rfl rfl (by omega) rfl ?_
          refine xa_goto (pc := 119) (tgt := 63) dX0_isAs_119 (by decide) ?_
          refine xa_locals (ls' := [some (xa_r k), some (xa_r k2), some (xa_i (sp_sm c ld ld2 (m + 1))), some (xa_i ((m + 1 : Nat) : Int))]) (by rw [show sp_sm c ld ld2 (m + 1) = 0 from by first | exact if_pos (by omega) | exact if_neg (by omega)]) ?_
          exact ih (m + 1) (by omega) (by omega)
        · skip
          refine xa_iload_n (pc := 86) dX0_isAs_86 rfl ?_
          refine xa_aload_n (pc := 87) dX0_isAs_87 rfl ?_
          refine xa_getfield (pc := 88) dX0_isAs_88 flRX0_9 (by omega) (by omega) hO0 rfl ?_
          refine xa_alen (pc := 91) dX0_isAs_91 (by omega) hO1 ?_
          refine xa_top (y := 9) rfl ?_
          refine xa_icmp_ge (pc := 92) (tgt := 114) dX0_isAs_92 (by decide) ⟨by omega, by omega⟩ (by decide) (fun c_92 => ?_) (fun c_92 => ?_)
          · skip
            exfalso; omega
          · skip
            refine xa_aload_n (pc := 95) dX0_isAs_95 rfl ?_
            refine xa_getfield (pc := 96) dX0_isAs_96 flRX0_9 (by omega) (by omega) hB0 rfl ?_
            refine xa_iload_n (pc := 99) dX0_isAs_99 rfl ?_
            refine xa_ialdw (pc := 100) m dX0_isAs_100 (by omega) hB1 (by omega) (by omega) (Int.toNat_natCast _) ?_
            have b_100 := hld (m)
            refine xa_aload_n (pc := 101) dX0_isAs_101 rfl ?_
            refine xa_getfield (pc := 102) dX0_isAs_102 flRX0_9 (by omega) (by omega) hO0 rfl ?_
            refine xa_iload_n (pc := 105) dX0_isAs_105 rfl ?_
            refine xa_ialdw (pc := 106) m dX0_isAs_106 (by omega) hO1 (by omega) (by omega) (Int.toNat_natCast _) ?_
            have b_106 := hld2 (m)
            refine xa_icmp_ne (pc := 107) (tgt := 114) dX0_isAs_107 (by decide) ⟨by omega, by omega⟩ ⟨by omega, by omega⟩ (fun c_107 => ?_) (fun c_107 => ?_)
            · skip
              refine xa_iconst (pc := 114) dX0_isAs_114 ?_
              refine xa_istoren (pc := 115) [some (xa_r k), some (xa_r k2), some (xa_i 0), some (xa_i ((m : Nat) : Int))] dX0_isAs_115 (by decide) (Nat.le_of_ble_eq_true rfl) rfl rfl ?_
              refine xa_iincw (pc := 116) (y := ((m + 1 : Nat) : Int)) [some (xa_r k), some (xa_r k2), some (xa_i 0), some (xa_i ((m + 1 : Nat) : Int))] dX0_isAs_116 (by decide) rfl rfl (by omega) rfl ?_
              refine xa_goto (pc := 119) (tgt := 63) dX0_isAs_119 (by decide) ?_
              refine xa_locals (ls' := [some (xa_r k), some (xa_r k2), some (xa_i (sp_sm c ld ld2 (m + 1))), some (xa_i ((m + 1 : Nat) : Int))]) (by rw [show sp_sm c ld ld2 (m + 1) = 0 from by first | exact if_pos (by omega) | exact if_neg (by omega)]) ?_
              exact ih (m + 1) (by omega) (by omega)
            · skip
              refine xa_iconst (pc := 110) dX0_isAs_110 ?_
              refine xa_goto (pc := 111) (tgt := 115) dX0_isAs_111 (by decide) ?_
              refine xa_istoren (pc := 115) [some (xa_r k), some (xa_r k2), some (xa_i 1), some (xa_i ((m : Nat) : Int))] dX0_isAs_115 (by decide) (Nat.le_of_ble_eq_true rfl) rfl rfl ?_
              refine xa_iincw (pc := 116) (y := ((m + 1 : Nat) : Int)) [some (xa_r k), some (xa_r k2), some (xa_i 1), some (xa_i ((m + 1 : Nat) : Int))] dX0_isAs_116 (by decide) rfl rfl (by omega) rfl ?_
              refine xa_goto (pc := 119) (tgt := 63) dX0_isAs_119 (by decide) ?_
              refine xa_locals (ls' := [some (xa_r k), some (xa_r k2), some (xa_i (sp_sm c ld ld2 (m + 1))), some (xa_i ((m + 1 : Nat) : Int))]) (by rw [show sp_sm c ld ld2 (m + 1) = 1 from by first | exact if_pos (by omega) | exact if_neg (by omega)]) ?_
              exact ih (m + 1) (by omega) (by omega)
theorem c_isAs {G : xa_G} {h : xa_H} (k k2 : Nat) (ld dg ld2 dg2 : Nat → Int) (pa jo pa2 jo2 : Nat) (wa sr pu ri wa2 sr2 pu2 ri2 : Int) (hpa2 : pa2 ≤ 3) (hjo2 : jo2 ≤ 2) (hwa : xa_ok wa) (hwa2 : xa_ok wa2) (hpu : xa_ok pu) (hpu2 : xa_ok pu2) (hri : xa_ok ri) (hri2 : xa_ok ri2) (hpa : pa ≤ 3) (hjo : jo ≤ 2) (hld : ∀ i, 0 ≤ ld i ∧ ld i ≤ 99) (hdg : ∀ i, 0 ≤ dg i ∧ dg i ≤ 120) (hld2 : ∀ i, 0 ≤ ld2 i ∧ ld2 i ≤ 99) (hdg2 : ∀ i, 0 ≤ dg2 i ∧ dg2 i ≤ 120) (hB : xB h k ld dg pa jo wa sr pu ri) (hO : xB h k2 ld2 dg2 pa2 jo2 wa2 sr2 pu2 ri2)  : xa_M G mX0_isAs [xa_r k, xa_r k2] h 0 0 (fun r h' => r = some (xa_i (sp_sm (sp_sm (xa_b (pa = pa2 ∧ jo = jo2 ∧ wa = wa2 ∧ pu = pu2 ∧ ri = ri2)) ld ld2 (pa * 3)) dg dg2 jo)) ∧ h' = h) := by
  refine xa_enter (by decide +kernel) (Nat.le_of_ble_eq_true rfl) ?_
  refine xa_locals (ls' := [some (xa_r k), some (xa_r k2), none, none]) rfl ?_
  obtain ⟨hB0, hB1, hB2, hBk, hBn⟩ := hB
  obtain ⟨hO0, hO1, hO2, hOk, hOn⟩ := hO
  refine xa_aload_n (pc := 0) dX0_isAs_0 rfl ?_
  refine xa_getfield (pc := 1) dX0_isAs_1 flRX0_25 (by omega) (by omega) hB0 rfl ?_
  refine xa_aload_n (pc := 4) dX0_isAs_4 rfl ?_
  refine xa_getfield (pc := 5) dX0_isAs_5 flRX0_25 (by omega) (by omega) hO0 rfl ?_
  refine xa_icmp_ne (pc := 8) (tgt := 59) dX0_isAs_8 (by decide) ⟨by omega, by omega⟩ ⟨by omega, by omega⟩ (fun c_8 => ?_) (fun c_8 => ?_)
  · skip
    refine xa_iconst (pc := 59) dX0_isAs_59 ?_
    refine xa_istoren (pc := 60) [some (xa_r k), some (xa_r k2), some (xa_i 0), none] dX0_isAs_60 (by decide) (Nat.le_of_ble_eq_true rfl) rfl rfl ?_
    refine xa_iconst (pc := 61) dX0_isAs_61 ?_
    refine xa_istoren (pc := 62) [some (xa_r k), some (xa_r k2), some (xa_i 0), some (xa_i 0)] dX0_isAs_62 (by decide) (Nat.le_of_ble_eq_true rfl) rfl rfl ?_
    refine xa_locals (ls' := [some (xa_r k), some (xa_r k2), some (xa_i (xa_b (pa = pa2 ∧ jo = jo2 ∧ wa = wa2 ∧ pu = pu2 ∧ ri = ri2))), some (xa_i 0)]) (by rw [show xa_b (pa = pa2 ∧ jo = jo2 ∧ wa = wa2 ∧ pu = pu2 ∧ ri = ri2) = 0 from by first | exact (xa_bt (by omega)).symm | exact (xa_bf (by omega)).symm]) ?_
    exact c_isAs1 xa_bq hpa hjo hld hdg hld2 hdg2 ⟨hB0, hB1, hB2, by omega, by omega⟩ ⟨hO0, hO1, hO2, by omega, by omega⟩ (pa * 3 + 1) 0 (by omega) (Nat.zero_le _)
  · skip
    refine xa_aload_n (pc := 11) dX0_isAs_11 rfl ?_
    refine xa_getfield (pc := 12) dX0_isAs_12 flRX0_28 (by omega) (by omega) hB0 rfl ?_
    refine xa_aload_n (pc := 15) dX0_isAs_15 rfl ?_
    refine xa_getfield (pc := 16) dX0_isAs_16 flRX0_28 (by omega) (by omega) hO0 rfl ?_
    refine xa_icmp_ne (pc := 19) (tgt := 59) dX0_isAs_19 (by decide) ⟨by omega, by omega⟩ ⟨by omega, by omega⟩ (fun c_19 => ?_) (fun c_19 => ?_)
    · skip
      refine xa_iconst (pc := 59) dX0_isAs_59 ?_
      refine xa_istoren (pc := 60) [some (xa_r k), some (xa_r k2), some (xa_i 0), none] dX0_isAs_60 (by decide) (Nat.le_of_ble_eq_true rfl) rfl rfl ?_
      refine xa_iconst (pc := 61) dX0_isAs_61 ?_
      refine xa_istoren (pc := 62) [some (xa_r k), some (xa_r k2), some (xa_i 0), some (xa_i 0)] dX0_isAs_62 (by decide) (Nat.le_of_ble_eq_true rfl) rfl rfl ?_
      refine xa_locals (ls' := [some (xa_r k), some (xa_r k2), some (xa_i (xa_b (pa = pa2 ∧ jo = jo2 ∧ wa = wa2 ∧ pu = pu2 ∧ ri = ri2))), some (xa_i 0)]) (by rw [show xa_b (pa = pa2 ∧ jo = jo2 ∧ wa = wa2 ∧ pu = pu2 ∧ ri = ri2) = 0 from by first | exact (xa_bt (by omega)).symm | exact (xa_bf (by omega)).symm]) ?_
      exact c_isAs1 xa_bq hpa hjo hld hdg hld2 hdg2 ⟨hB0, hB1, hB2, by omega, by omega⟩ ⟨hO0, hO1, hO2, by omega, by omega⟩ (pa * 3 + 1) 0 (by omega) (Nat.zero_le _)
    · skip
      refine xa_aload_n (pc := 22) dX0_isAs_22 rfl ?_
      refine xa_getfield (pc := 23) dX0_isAs_23 flRX0_18 (by omega) (by omega) hB0 rfl ?_
      refine xa_aload_n (pc := 26) dX0_isAs_26 rfl ?_
      refine xa_getfield (pc := 27) dX0_isAs_27 flRX0_18 (by omega) (by omega) hO0 rfl ?_
      refine xa_icmp_ne (pc := 30) (tgt := 59) dX0_isAs_30 (by decide) ⟨by omega, by omega⟩ ⟨by omega, by omega⟩ (fun c_30 => ?_) (fun c_30 => ?_)
      · skip
        refine xa_iconst (pc := 59) dX0_isAs_59 ?_
        refine xa_istoren (pc := 60) [some (xa_r k), some (xa_r k2), some (xa_i 0), none] dX0_isAs_60 (by decide) (Nat.le_of_ble_eq_true rfl) rfl rfl ?_
        refine xa_iconst (pc := 61) dX0_isAs_61 ?_
        refine xa_istoren (pc := 62) [some (xa_r k), some (xa_r k2), some (xa_i 0), some (xa_i 0)] dX0_isAs_62 (by decide) (Nat.le_of_ble_eq_true rfl) rfl rfl ?_
        refine xa_locals (ls' := [some (xa_r k), some (xa_r k2), some (xa_i (xa_b (pa = pa2 ∧ jo = jo2 ∧ wa = wa2 ∧ pu = pu2 ∧ ri = ri2))), some (xa_i 0)]) (by rw [show xa_b (pa = pa2 ∧ jo = jo2 ∧ wa = wa2 ∧ pu = pu2 ∧ ri = ri2) = 0 from by first | exact (xa_bt (by omega)).symm | exact (xa_bf (by omega)).symm]) ?_
        exact c_isAs1 xa_bq hpa hjo hld hdg hld2 hdg2 ⟨hB0, hB1, hB2, by omega, by omega⟩ ⟨hO0, hO1, hO2, by omega, by omega⟩ (pa * 3 + 1) 0 (by omega) (Nat.zero_le _)
      · skip
        refine xa_aload_n (pc := 33) dX0_isAs_33 rfl ?_
        refine xa_getfield (pc := 34) dX0_isAs_34 flRX0_34 (by omega) (by omega) hB0 rfl ?_
        refine xa_aload_n (pc := 37) dX0_isAs_37 rfl ?_
        refine xa_getfield (pc := 38) dX0_isAs_38 flRX0_34 (by omega) (by omega) hO0 rfl ?_
        refine xa_icmp_ne (pc := 41) (tgt := 59) dX0_isAs_41 (by decide) ⟨by omega, by omega⟩ ⟨by omega, by omega⟩ (fun c_41 => ?_) (fun c_41 => ?_)
        · skip
          refine xa_iconst (pc := 59) dX0_isAs_59 ?_
          refine xa_istoren (pc := 60) [some (xa_r k), some (xa_r k2), some (xa_i 0), none] dX0_isAs_60 (by decide) (Nat.le_of_ble_eq_true rfl) rfl rfl ?_
          refine xa_iconst (pc := 61) dX0_isAs_61 ?_
          refine xa_istoren (pc := 62) [some (xa_r k), some (xa_r k2), some (xa_i 0), some (xa_i 0)] dX0_isAs_62 (by decide) (Nat.le_of_ble_eq_true rfl) rfl rfl ?_
          refine xa_locals (ls' := [some (xa_r k), some (xa_r k2), some (xa_i (xa_b (pa = pa2 ∧ jo = jo2 ∧ wa = wa2 ∧ pu = pu2 ∧ ri = ri2))), some (xa_i 0)]) (by rw [show xa_b (pa = pa2 ∧ jo = jo2 ∧ wa = wa2 ∧ pu = pu2 ∧ ri = ri2) = 0 from by first | exact (xa_bt (by omega)).symm | exact (xa_bf (by omega)).symm]) ?_
          exact c_isAs1 xa_bq hpa hjo hld hdg hld2 hdg2 ⟨hB0, hB1, hB2, by omega, by omega⟩ ⟨hO0, hO1, hO2, by omega, by omega⟩ (pa * 3 + 1) 0 (by omega) (Nat.zero_le _)
        · skip
          refine xa_aload_n (pc := 44) dX0_isAs_44 rfl ?_
          refine xa_getfield (pc := 45) dX0_isAs_45 flRX0_22 (by omega) (by omega) hB0 rfl ?_
          refine xa_aload_n (pc := 48) dX0_isAs_48 rfl ?_
          refine xa_getfield (pc := 49) dX0_isAs_49 flRX0_22 (by omega) (by omega) hO0 rfl ?_
          refine xa_icmp_ne (pc := 52) (tgt := 59) dX0_isAs_52 (by decide) ⟨by omega, by omega⟩ ⟨by omega, by omega⟩ (fun c_52 => ?_) (fun c_52 => ?_)
          · skip
            refine xa_iconst (pc := 59) dX0_isAs_59 ?_
            refine xa_istoren (pc := 60) [some (xa_r k), some (xa_r k2), some (xa_i 0), none] dX0_isAs_60 (by decide) (Nat.le_of_ble_eq_true rfl) rfl rfl ?_
            refine xa_iconst (pc := 61) dX0_isAs_61 ?_
            refine xa_istoren (pc := 62) [some (xa_r k), some (xa_r k2), some (xa_i 0), some (xa_i 0)] dX0_isAs_62 (by decide) (Nat.le_of_ble_eq_true rfl) rfl rfl ?_
            refine xa_locals (ls' := [some (xa_r k), some (xa_r k2), some (xa_i (xa_b (pa = pa2 ∧ jo = jo2 ∧ wa = wa2 ∧ pu = pu2 ∧ ri = ri2))), some (xa_i 0)]) (by rw [show xa_b (pa = pa2 ∧ jo = jo2 ∧ wa = wa2 ∧ pu = pu2 ∧ ri = ri2) = 0 from by first | exact (xa_bt (by omega)).symm | exact (xa_bf (by omega)).symm]) ?_
            exact c_isAs1 xa_bq hpa hjo hld hdg hld2 hdg2 ⟨hB0, hB1, hB2, by omega, by omega⟩ ⟨hO0, hO1, hO2, by omega, by omega⟩ (pa * 3 + 1) 0 (by omega) (Nat.zero_le _)
          · skip
            refine xa_iconst (pc := 55) dX0_isAs_55 ?_
            refine xa_goto (pc := 56) (tgt := 60) dX0_isAs_56 (by decide) ?_
            refine xa_istoren (pc := 60) [some (xa_r k), some (xa_r k2), some (xa_i 1), none] dX0_isAs_60 (by decide) (Nat.le_of_ble_eq_true rfl) rfl rfl ?_
            refine xa_iconst (pc := 61) dX0_isAs_61 ?_
            refine xa_istoren (pc := 62) [some (xa_r k), some (xa_r k2), some (xa_i 1), some (xa_i 0)] dX0_isAs_62 (by decide) (Nat.le_of_ble_eq_true rfl) rfl rfl ?_
            refine xa_locals (ls' := [some (xa_r k), some (xa_r k2), some (xa_i (xa_b (pa = pa2 ∧ jo = jo2 ∧ wa = wa2 ∧ pu = pu2 ∧ ri = ri2))), some (xa_i 0)]) (by rw [show xa_b (pa = pa2 ∧ jo = jo2 ∧ wa = wa2 ∧ pu = pu2 ∧ ri = ri2) = 1 from by first | exact (xa_bt (by omega)).symm | exact (xa_bf (by omega)).symm]) ?_
            exact c_isAs1 xa_bq hpa hjo hld hdg hld2 hdg2 ⟨hB0, hB1, hB2, by omega, by omega⟩ ⟨hO0, hO1, hO2, by omega, by omega⟩ (pa * 3 + 1) 0 (by omega) (Nat.zero_le _)
theorem c_takesWag_loop {G : xa_G} {h : xa_H} {k : Nat} {ld dg : Nat → Int} {pa jo : Nat} {wa sr pu ri a : Int} (ha : -9999 ≤ a ∧ a ≤ 9999) (hjo : jo ≤ 2) (hwa : xa_ok wa) (hW : h.1 1 = xa_a 8 xa_wagf) (hB : xB h k ld dg pa jo wa sr pu ri) : ∀ (d : Nat) (m : Nat), 8 - m < d → (m ≤ 8) → xa_W G mX0_takesWag (xa_Z G (fun r h' => (((sp_wagL a ∧ wa = -4 ∧ jo < 2) ∧ r = some (xa_i 1) ∧ xB h' k ld (xa_upf dg jo a) pa (jo + 1) ((jo : Nat) : Int) ((360 : Int).tdiv a) pu ri) ∨ (¬ (sp_wagL a ∧ wa = -4 ∧ jo < 2) ∧ r = some (xa_i 0) ∧ xB h' k ld dg pa jo wa sr pu ri)) ∧ h'.2 = h.2 ∧ ∀ i, (i < k ∨ k + 3 ≤ i) → h'.1 i = h.1 i)) 4 [some (xa_r k), some (xa_i a), some (xa_i (xa_b (sp_told a m = true))), some (xa_i ((m : Nat) : Int))] [] h 0 0 := by
  intro d
  induction d with
  | zero => intros; exfalso; omega
  | succ d ih =>
    intro m hd hm
    obtain ⟨hB0, hB1, hB2, hBk, hBn⟩ := hB
    have hn : h.2 = h.2 := rfl
    have fr : ∀ i, (i < k ∨ k + 3 ≤ i) → h.1 i = h.1 i := fun _ _ => rfl
    refine xa_iload_n (pc := 4) dX0_takesWag_4 rfl ?_
    refine xa_getstatic (pc := 5) dX0_takesWag_5 flRX0_45 ?_
    refine xa_alen (pc := 8) dX0_takesWag_8 (by omega) hW ?_
    refine xa_top (y := 8) rfl ?_
    refine xa_icmp_ge (pc := 9) (tgt := 37) dX0_takesWag_9 (by decide) ⟨by omega, by omega⟩ (by decide) (fun c_9 => ?_) (fun c_9 => ?_)
    · skip
      refine xa_iload_n (pc := 37) dX0_takesWag_37 rfl ?_
      refine xa_if_eq (pc := 38) (tgt := 58) dX0_takesWag_38 (by decide) xa_okb (fun c_38 => ?_) (fun c_38 => ?_)
      · have c_38 := xa_b0.mp c_38
        refine xa_iconst (pc := 58) dX0_takesWag_58 ?_
        refine xa_ireturn (pc := 59) dX0_takesWag_59 rfl (Or.inl rfl) ?_
        have hme : m = 8 := by omega
        subst hme
        rw [sp_told_8] at *
        exact ⟨Or.inr ⟨by intro z; first | exact absurd z.1 (by assumption) | exact absurd z.2.1 (by omega) | exact absurd z.2.2 (by omega), rfl, hB0, hB1, hB2, by omega, by omega⟩, hn, fr⟩
      · have c_38 := xa_b1.mp c_38
        refine xa_aload_n (pc := 41) dX0_takesWag_41 rfl ?_
        refine xa_getfield (pc := 42) dX0_takesWag_42 flRX0_18 (by omega) (by omega) hB0 rfl ?_
        refine xa_bipush (pc := 45) dX0_takesWag_45 rfl ?_
        refine xa_icmp_ne (pc := 47) (tgt := 58) dX0_takesWag_47 (by decide) ⟨by omega, by omega⟩ (by decide) (fun c_47 => ?_) (fun c_47 => ?_)
        · skip
          refine xa_iconst (pc := 58) dX0_takesWag_58 ?_
          refine xa_ireturn (pc := 59) dX0_takesWag_59 rfl (Or.inl rfl) ?_
          have hme : m = 8 := by omega
          subst hme
          rw [sp_told_8] at *
          exact ⟨Or.inr ⟨by intro z; first | exact absurd z.1 (by assumption) | exact absurd z.2.1 (by omega) | exact absurd z.2.2 (by omega), rfl, hB0, hB1, hB2, by omega, by omega⟩, hn, fr⟩
        · skip
          refine xa_aload_n (pc := 50) dX0_takesWag_50 rfl ?_
          refine xa_iload_n (pc := 51) dX0_takesWag_51 rfl ?_
          refine xa_callV (pc := 52) (as := [xa_i a]) (rest := []) dX0_takesWag_52 ⟨qX0_takesJoint.1, qX0_takesJoint.2.1, qX0_takesJoint.2.2, by decide, by decide⟩ lkRX0_41 imX0_takesJoint seX0_takesJoint rfl rfl (by omega) (by omega) hB0 rfl (Nat.le_of_ble_eq_true rfl) (Nat.zero_le _) (Nat.zero_le _) (c_takesJoint _ _ _ _ _ _ _ _ _ a (by omega) ⟨hB0, hB1, hB2, by omega, by omega⟩) (fun r h' hq => ?_)
          obtain ⟨hq, hqn, hqf⟩ := hq
          rcases hq with ⟨hj, rfl, hB0, hB1, hB2, -, -⟩ | ⟨hj, rfl, hB0, hB1, hB2, -, -⟩
          · skip
            have hW : h'.1 1 = xa_a 8 xa_wagf := (hqf _ (by omega)).trans hW
            have hn : h'.2 = h.2 := hqn.trans hn
            have fr : ∀ i, (i < k ∨ k + 3 ≤ i) → h'.1 i = h.1 i := fun i hi => (hqf i (by omega)).trans (fr i hi)
            refine xa_if_ne (pc := 55) (tgt := 60) dX0_takesWag_55 (by decide) (by decide) (fun c_55 => ?_) (fun c_55 => ?_)
            · skip
              refine xa_aload_n (pc := 60) dX0_takesWag_60 rfl ?_
              refine xa_aload_n (pc := 61) dX0_takesWag_61 rfl ?_
              refine xa_getfield (pc := 62) dX0_takesWag_62 flRX0_28 (by omega) (by omega) hB0 rfl ?_
              refine xa_iconst (pc := 65) dX0_takesWag_65 ?_
              refine xa_isub (pc := 66) dX0_takesWag_66 ?_
              refine xa_top (y := ((jo : Nat) : Int)) (by omega) ?_
              refine xa_putw (pc := 67) [xa_r (k + 1), xa_r (k + 2), xa_i ((pa : Nat) : Int), xa_i ((jo + 1 : Nat) : Int), xa_i ((jo : Nat) : Int), xa_i sr, xa_i pu, xa_i ri] dX0_takesWag_67 flRX0_18 plX0_4 (by omega) (by omega) hB0 trivial rfl (fun h1 nh1 ch1 oh1 => ?_)
              have hB0 : h1.1 k = xa_o 0 [xa_r (k + 1), xa_r (k + 2), xa_i ((pa : Nat) : Int), xa_i ((jo + 1 : Nat) : Int), xa_i ((jo : Nat) : Int), xa_i sr, xa_i pu, xa_i ri] := ch1
              have hB1 : h1.1 (k + 1) = xa_a 9 ld := (oh1 _ (by omega)).trans hB1
              have hB2 : h1.1 (k + 2) = xa_a 2 (xa_upf dg jo a) := (oh1 _ (by omega)).trans hB2
              have hW : h1.1 1 = xa_a 8 xa_wagf := (oh1 _ (by omega)).trans hW
              have hn : h1.2 = h.2 := nh1.trans hn
              have fr : ∀ i, (i < k ∨ k + 3 ≤ i) → h1.1 i = h.1 i := fun i hi => (oh1 i (by omega)).trans (fr i hi)
              refine xa_aload_n (pc := 70) dX0_takesWag_70 rfl ?_
              refine xa_sipush (pc := 71) dX0_takesWag_71 rfl ?_
              refine xa_iload_n (pc := 74) dX0_takesWag_74 rfl ?_
              refine xa_callS (pc := 75) (as := [xa_i 360, xa_i a]) (rest := [xa_r k]) dX0_takesWag_75 ⟨qX9_cut.1, qX9_cut.2.1, qX9_cut.2.2, by decide, by decide⟩ lkRX0_48 smX9_cut rfl rfl (Nat.le_of_ble_eq_true rfl) (Nat.zero_le _) (Nat.zero_le _) (c_cut _ _ (by decide) ⟨by omega, by omega⟩) (fun r h' hq => ?_)
              obtain ⟨rfl, hq⟩ := hq
              have hq := hq.symm
              subst hq
              refine xa_putw (pc := 78) [xa_r (k + 1), xa_r (k + 2), xa_i ((pa : Nat) : Int), xa_i ((jo + 1 : Nat) : Int), xa_i ((jo : Nat) : Int), xa_i ((360 : Int).tdiv a), xa_i pu, xa_i ri] dX0_takesWag_78 flRX0_31 plX0_5 (by omega) (by omega) hB0 trivial rfl (fun h2 nh2 ch2 oh2 => ?_)
              have hB0 : h2.1 k = xa_o 0 [xa_r (k + 1), xa_r (k + 2), xa_i ((pa : Nat) : Int), xa_i ((jo + 1 : Nat) : Int), xa_i ((jo : Nat) : Int), xa_i ((360 : Int).tdiv a), xa_i pu, xa_i ri] := ch2
              have hB1 : h2.1 (k + 1) = xa_a 9 ld := (oh2 _ (by omega)).trans hB1
              have hB2 : h2.1 (k + 2) = xa_a 2 (xa_upf dg jo a) := (oh2 _ (by omega)).trans hB2
              have hW : h2.1 1 = xa_a 8 xa_wagf := (oh2 _ (by omega)).trans hW
              have hn : h2.2 = h.2 := nh2.trans hn
              have fr : ∀ i, (i < k ∨ k + 3 ≤ i) → h2.1 i = h.1 i := fun i hi => (oh2 i (by omega)).trans (fr i hi)
              refine xa_iconst (pc := 81) dX0_takesWag_81 ?_
              refine xa_ireturn (pc := 82) dX0_takesWag_82 rfl (Or.inr rfl) ?_
              have hme : m = 8 := by omega
              subst hme
              rw [sp_told_8] at *
              exact ⟨Or.inl ⟨⟨by assumption, by omega, by omega⟩, rfl, hB0, hB1, hB2, by omega, by omega⟩, hn, fr⟩
            · skip
              exfalso; omega
          · skip
            have hW : h'.1 1 = xa_a 8 xa_wagf := (hqf _ (by omega)).trans hW
            have hn : h'.2 = h.2 := hqn.trans hn
            have fr : ∀ i, (i < k ∨ k + 3 ≤ i) → h'.1 i = h.1 i := fun i hi => (hqf i (by omega)).trans (fr i hi)
            refine xa_if_ne (pc := 55) (tgt := 60) dX0_takesWag_55 (by decide) (by decide) (fun c_55 => ?_) (fun c_55 => ?_)
            · skip
              exfalso; omega
            · skip
              refine xa_iconst (pc := 58) dX0_takesWag_58 ?_
              refine xa_ireturn (pc := 59) dX0_takesWag_59 rfl (Or.inl rfl) ?_
              have hme : m = 8 := by omega
              subst hme
              rw [sp_told_8] at *
              exact ⟨Or.inr ⟨by intro z; first | exact absurd z.1 (by assumption) | exact absurd z.2.1 (by omega) | exact absurd z.2.2 (by omega), rfl, hB0, hB1, hB2, by omega, by omega⟩, hn, fr⟩
    · skip
      refine xa_iload_n (pc := 12) dX0_takesWag_12 rfl ?_
      refine xa_if_ne (pc := 13) (tgt := 25) dX0_takesWag_13 (by decide) xa_okb (fun c_13 => ?_) (fun c_13 => ?_)
      · have c_13 := xa_b1.mp c_13
        refine xa_iconst (pc := 25) dX0_takesWag_25 ?_
        refine xa_goto (pc := 26) (tgt := 30) dX0_takesWag_26 (by decide) ?_
        refine xa_istoren (pc := 30) [some (xa_r k), some (xa_i a), some (xa_i 1), some (xa_i ((m : Nat) : Int))] dX0_takesWag_30 (by decide) (Nat.le_of_ble_eq_true rfl) rfl rfl ?_
        refine xa_iincw (pc := 31) (y := ((m + 1 : Nat) : Int)) [some (xa_r k), some (xa_i a), some (xa_i 1), some (xa_i ((m + 1 : Nat) : Int))] dX0_takesWag_31 (by decide) rfl rfl (by omega) rfl ?_
        refine xa_goto (pc := 34) (tgt := 4) dX0_takesWag_34 (by decide) ?_
        refine xa_locals (ls' := [some (xa_r k), some (xa_i a), some (xa_i (xa_b (sp_told a (m + 1) = true))), some (xa_i ((m + 1 : Nat) : Int))]) (by rw [show xa_b (sp_told a (m + 1) = true) = 1 from (xa_bt (by show (sp_told a m || decide (xa_wagf m = a)) = true; rw [Bool.or_eq_true, decide_eq_true_eq]; first | exact Or.inl (by assumption) | exact Or.inr (by omega))).symm]) ?_
        exact ih (m + 1) (by omega) (by omega)
      · have c_13 := xa_b0.mp c_13
        refine xa_getstatic (pc := 16) dX0_takesWag_16 flRX0_45 ?_
        refine xa_iload_n (pc := 19) dX0_takesWag_19 rfl ?_
        refine xa_ialdw (pc := 20) m dX0_takesWag_20 (by omega) hW (by omega) (by omega) (Int.toNat_natCast _) ?_
        have b_20 := xa_wagf_b (m)
        refine xa_iload_n (pc := 21) dX0_takesWag_21 rfl ?_
        refine xa_icmp_ne (pc := 22) (tgt := 29) dX0_takesWag_22 (by decide) ⟨by omega, by omega⟩ ⟨by omega, by omega⟩ (fun c_22 => ?_) (fun c_22 => ?_)
        · skip
          refine xa_iconst (pc := 29) dX0_takesWag_29 ?_
          refine xa_istoren (pc := 30) [some (xa_r k), some (xa_i a), some (xa_i 0), some (xa_i ((m : Nat) : Int))] dX0_takesWag_30 (by decide) (Nat.le_of_ble_eq_true rfl) rfl rfl ?_
          refine xa_iincw (pc := 31) (y := ((m + 1 : Nat) : Int)) [some (xa_r k), some (xa_i a), some (xa_i 0), some (xa_i ((m + 1 : Nat) : Int))] dX0_takesWag_31 (by decide) rfl rfl (by omega) rfl ?_
          refine xa_goto (pc := 34) (tgt := 4) dX0_takesWag_34 (by decide) ?_
          refine xa_locals (ls' := [some (xa_r k), some (xa_i a), some (xa_i (xa_b (sp_told a (m + 1) = true))), some (xa_i ((m + 1 : Nat) : Int))]) (by rw [show xa_b (sp_told a (m + 1) = true) = 0 from (xa_bf (by show ¬ (sp_told a m || decide (xa_wagf m = a)) = true; rw [Bool.or_eq_true, decide_eq_true_eq]; intro z; rcases z with z | z; exact absurd z (by assumption); omega)).symm]) ?_
          exact ih (m + 1) (by omega) (by omega)
        · skip
          refine xa_iconst (pc := 25) dX0_takesWag_25 ?_
          refine xa_goto (pc := 26) (tgt := 30) dX0_takesWag_26 (by decide) ?_
          refine xa_istoren (pc := 30) [some (xa_r k), some (xa_i a), some (xa_i 1), some (xa_i ((m : Nat) : Int))] dX0_takesWag_30 (by decide) (Nat.le_of_ble_eq_true rfl) rfl rfl ?_
          refine xa_iincw (pc := 31) (y := ((m + 1 : Nat) : Int)) [some (xa_r k), some (xa_i a), some (xa_i 1), some (xa_i ((m + 1 : Nat) : Int))] dX0_takesWag_31 (by decide) rfl rfl (by omega) rfl ?_
          refine xa_goto (pc := 34) (tgt := 4) dX0_takesWag_34 (by decide) ?_
          refine xa_locals (ls' := [some (xa_r k), some (xa_i a), some (xa_i (xa_b (sp_told a (m + 1) = true))), some (xa_i ((m + 1 : Nat) : Int))]) (by rw [show xa_b (sp_told a (m + 1) = true) = 1 from (xa_bt (by show (sp_told a m || decide (xa_wagf m = a)) = true; rw [Bool.or_eq_true, decide_eq_true_eq]; first | exact Or.inl (by assumption) | exact Or.inr (by omega))).symm]) ?_
          exact ih (m + 1) (by omega) (by omega)
theorem c_takesWag {G : xa_G} {h : xa_H} (k : Nat) (ld dg : Nat → Int) (pa jo : Nat) (wa sr pu ri a : Int) (ha : -9999 ≤ a ∧ a ≤ 9999) (hjo : jo ≤ 2) (hwa : xa_ok wa) (hW : h.1 1 = xa_a 8 xa_wagf) (hB : xB h k ld dg pa jo wa sr pu ri)  : xa_M G mX0_takesWag [xa_r k, xa_i a] h 0 0 (fun r h' => (((sp_wagL a ∧ wa = -4 ∧ jo < 2) ∧ r = some (xa_i 1) ∧ xB h' k ld (xa_upf dg jo a) pa (jo + 1) ((jo : Nat) : Int) ((360 : Int).tdiv a) pu ri) ∨ (¬ (sp_wagL a ∧ wa = -4 ∧ jo < 2) ∧ r = some (xa_i 0) ∧ xB h' k ld dg pa jo wa sr pu ri)) ∧ h'.2 = h.2 ∧ ∀ i, (i < k ∨ k + 3 ≤ i) → h'.1 i = h.1 i) := by
  refine xa_enter (by decide +kernel) (Nat.le_of_ble_eq_true rfl) ?_
  refine xa_locals (ls' := [some (xa_r k), some (xa_i a), none, none]) rfl ?_
  refine xa_iconst (pc := 0) dX0_takesWag_0 ?_
  refine xa_istoren (pc := 1) [some (xa_r k), some (xa_i a), some (xa_i 0), none] dX0_takesWag_1 (by decide) (Nat.le_of_ble_eq_true rfl) rfl rfl ?_
  refine xa_iconst (pc := 2) dX0_takesWag_2 ?_
  refine xa_istoren (pc := 3) [some (xa_r k), some (xa_i a), some (xa_i 0), some (xa_i 0)] dX0_takesWag_3 (by decide) (Nat.le_of_ble_eq_true rfl) rfl rfl ?_
  refine xa_locals (ls' := [some (xa_r k), some (xa_i a), some (xa_i (xa_b (sp_told a 0 = true))), some (xa_i ((0 : Nat) : Int))]) rfl ?_
  exact c_takesWag_loop ha hjo hwa hW hB 9 0 (by omega) (Nat.zero_le _)
