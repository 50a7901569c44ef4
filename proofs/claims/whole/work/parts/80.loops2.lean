/-! Loops -/
theorem lm_last {ld dg : Nat → Int} {pa jo : Nat} {wa sr pu ri : Int} (hB : vB ld dg pa jo wa sr pu ri) {j : Nat} (hj : j < jo) {po : Nat → Int} {p0 p1 p2 : Nat} (h0 : p0 < 3) (h1 : p1 < 3) (h2 : p2 < 3) (e0 : po 0 = ((p0 : Nat) : Int)) (e1 : po 1 = ((p1 : Nat) : Int)) (e2 : po 2 = ((p2 : Nat) : Int)) : sp_last ld po pa ((j : Nat) : Int) (1 * sp_dg dg ((j : Nat) : Int)) = lp_g ld dg pa j (lp_ps (9 * p0 + 3 * p1 + p2)) := by
  have hj0 := hB.1
  have hps : lp_ps (9 * p0 + 3 * p1 + p2) = (((p0 : Nat) : Int), ((p1 : Nat) : Int), ((p2 : Nat) : Int), 0, 0) := by
    unfold lp_ps
    rw [show (9 * p0 + 3 * p1 + p2) / 9 = p0 by omega, show (9 * p0 + 3 * p1 + p2) / 3 % 3 = p1 by omega, show (9 * p0 + 3 * p1 + p2) % 3 = p2 by omega]
  have hr := cf_rest_ok hB
  have hok : cf_ok pa jo wa sr (((p0 : Nat) : Int), ((p1 : Nat) : Int), (if 2 < pa then ((p2 : Nat) : Int) else 0), 0, 0) := ⟨by dsimp only; omega, by dsimp only; omega, ⟨by dsimp only; split <;> omega, by dsimp only; split <;> omega, fun z => by dsimp only; rw [if_neg (by omega)]⟩, hr.2.2.2.1, hr.2.2.2.2⟩
  have has : cf_as pa (((p0 : Nat) : Int), ((p1 : Nat) : Int), (if 2 < pa then ((p2 : Nat) : Int) else 0), 0, 0) po (fun _ => 0) := ⟨e0, e1, fun z => by rw [e2]; dsimp only; rw [if_pos z], rfl, rfl⟩
  obtain ⟨f0, f1, f2⟩ := cf_from hB hok has
  have hbeh : sp_from ld po pa ((j : Nat) + 1 : Int) = cf_beh ld pa (((p0 : Nat) : Int), ((p1 : Nat) : Int), (if 2 < pa then ((p2 : Nat) : Int) else 0), 0, 0) j := by
    rcases (show j = 0 ∨ j = 1 by omega) with rfl | rfl
    · exact f1
    · exact f2
  rw [cf_last 1 (Or.inl rfl) j (hB.2.2.2.2.1 j hj) (by omega) rfl rfl, hbeh, f0, hps, Int.one_mul]
  unfold lp_g cf_beh cf_all
  by_cases hp : 2 < pa
  · simp only [if_pos hp]
  · simp only [if_neg hp]
theorem lm_rest {ld dg : Nat → Int} {pa jo : Nat} {wa sr pu ri : Int} (hB : vB ld dg pa jo wa sr pu ri) (j : Nat) : lp_g ld dg pa j (lp_ps (9 * 1 + 3 * 1 + 1)) = lp_a ld dg pa j := by
  have hj0 := hB.1
  unfold lp_a lp_g cf_beh cf_all cf_rest lp_ps
  by_cases hp : 2 < pa
  · simp only [if_pos hp]
    rfl
  · simp only [if_neg hp]
    rfl
theorem lm_b {ld dg : Nat → Int} {pa jo : Nat} {wa sr pu ri : Int} (hB : vB ld dg pa jo wa sr pu ri) {j : Nat} (hj : j < jo) (i : Nat) (hi : i < 27) : -120 ≤ lp_g ld dg pa j (lp_ps i) ∧ lp_g ld dg pa j (lp_ps i) ≤ 120 := by
  have hj0 := hB.1
  have hr := cf_rest_ok hB
  have hok : cf_ok pa jo wa sr (((i / 9 : Nat) : Int), ((i / 3 % 3 : Nat) : Int), (if 2 < pa then ((i % 3 : Nat) : Int) else 0), 0, 0) := ⟨by dsimp only; omega, by dsimp only; omega, ⟨by dsimp only; split <;> omega, by dsimp only; split <;> omega, fun z => by dsimp only; rw [if_neg (by omega)]⟩, hr.2.2.2.1, hr.2.2.2.2⟩
  have e : lp_g ld dg pa j (lp_ps i) = lp_g ld dg pa j (((i / 9 : Nat) : Int), ((i / 3 % 3 : Nat) : Int), (if 2 < pa then ((i % 3 : Nat) : Int) else 0), 0, 0) := by
    unfold lp_g cf_beh cf_all lp_ps
    by_cases hp : 2 < pa
    · simp only [if_pos hp]
    · simp only [if_neg hp]
  rw [e]
  have ha := cf_all_b hB hok
  have hb := cf_beh_b hB hok j
  have hle : cf_beh ld pa (((i / 9 : Nat) : Int), ((i / 3 % 3 : Nat) : Int), (if 2 < pa then ((i % 3 : Nat) : Int) else 0), 0, 0) j ≤ cf_all ld pa (((i / 9 : Nat) : Int), ((i / 3 % 3 : Nat) : Int), (if 2 < pa then ((i % 3 : Nat) : Int) else 0), 0, 0) := by
    have l0 := cf_l_b hB (k := 0) (p := ((i / 9 : Nat) : Int)) (by omega) (by omega)
    have l1 := cf_l_b hB (k := 1) (p := ((i / 3 % 3 : Nat) : Int)) (by omega) (by omega)
    unfold cf_beh cf_all
    dsimp only
    split <;> omega
  have hd := hB.2.2.2.1 j
  unfold lp_g
  generalize cf_beh ld pa (((i / 9 : Nat) : Int), ((i / 3 % 3 : Nat) : Int), (if 2 < pa then ((i % 3 : Nat) : Int) else 0), 0, 0) j = X at hb hle
  generalize cf_all ld pa (((i / 9 : Nat) : Int), ((i / 3 % 3 : Nat) : Int), (if 2 < pa then ((i % 3 : Nat) : Int) else 0), 0, 0) = Y at ha hle
  have hm : dg j * X ≤ 120 * X := Int.mul_le_mul_of_nonneg_right hd.2 hb.1
  have hm0 : 0 ≤ dg j * X := Int.mul_nonneg hd.1 hb.1
  rw [Int.tdiv_eq_ediv_of_nonneg hm0]
  have h1 : 0 ≤ dg j * X / Y := Int.ediv_nonneg hm0 (by omega)
  have h2 : dg j * X / Y ≤ 120 := by
    have hlt : dg j * X / Y < 121 := by
      rw [Int.ediv_lt_iff_lt_mul (by omega)]
      omega
    omega
  omega
theorem lm_make {ld dg : Nat → Int} {pa jo : Nat} {wa sr pu ri : Int} (hB : vB ld dg pa jo wa sr pu ri) {j : Nat} (hj : j < jo) {po sp : Nat → Int} {tj : Int} : ∃ t : xSt, sp_make dg pa jo wa sr (xa_fl po 3 1, xa_fl sp 2 0, tj, 0) (1 + 2 * ((j : Nat) : Int)) = some t ∧ t.1 = xa_fl po 3 1 ∧ t.2.2.1 = ((j : Nat) : Int) ∧ t.2.2.2 = 1 * sp_dg dg ((j : Nat) : Int) := by
  have hj0 := hB.1
  obtain ⟨s1, -⟩ := lp_s1 hB hj
  have e : sp_make dg pa jo wa sr (xa_fl po 3 1, xa_fl sp 2 0, tj, 0) (1 + 2 * ((j : Nat) : Int)) = sp_step dg jo wa sr (xa_fl po 3 1, xa_fl sp 2 0, tj, 0) ((j : Nat) : Int) 1 := by
    unfold sp_make
    rw [if_neg (by omega), if_neg (by omega), if_pos (by omega), if_pos (by omega), show (1 + 2 * ((j : Nat) : Int) - 1) / 2 = ((j : Nat) : Int) by omega]
  rw [e, cf_stepc hB j (by omega), if_pos hj, show xa_fl sp 2 0 j = 0 from xa_fl_lt _ _ (by omega), s1]
  exact ⟨_, rfl, rfl, rfl, rfl⟩
theorem lp_w_d {ld dg : Nat → Int} {pa : Nat} {wa sr : Int} {j M : Nat} : lp_w ld dg pa wa sr j M ∣ M := by
  unfold lp_w
  by_cases e : (j : Int) = wa
  · rw [if_pos e]; exact Nat.gcd_dvd_left _ _
  · rw [if_neg e]; exact Nat.dvd_refl _
theorem bitJ {J : Int} (hJ : J = 0 ∨ J = 1 ∨ J = 2 ∨ J = 3) : (xa_and (xa_shr J 0) 1 = 1 ↔ J = 1 ∨ J = 3) ∧ (xa_and (xa_shr J 1) 1 = 1 ↔ J = 2 ∨ J = 3) := by
  rcases hJ with rfl | rfl | rfl | rfl <;> decide

theorem c_meas_loop {G : xa_G} {h0 : xa_H} {M : Int} {k kb j Mw : Nat} {ld dg : Nat → Int} {pa jo : Nat} {wa sr pu ri : Int} {sp : Nat → Int} (hB9 : vB ld dg pa jo wa sr pu ri) (hk : 2 ≤ k) (hkb : 2 ≤ kb) (hkk : kb + 3 ≤ k) (hj : j < jo) (hMw : 0 < Mw ∧ Mw ≤ 360) (hsp : ∀ i, -2 ≤ sp i ∧ sp i ≤ 12) : ∀ (d : Nat) (p0 p1 p2 : Nat) (po : Nat → Int) (h : xa_H), 64 - (16 * p0 + 4 * p1 + p2) < d → (p0 < 3) → (p1 < 3) → (p2 ≤ 3) → (∀ i, 0 ≤ po i ∧ po i ≤ 2) → (h.2 = h0.2) → (k + 3 < h.2) → (h.1 k = xa_o 1 [xa_r kb, xa_r (k + 1)]) → (h.1 (k + 1) = xa_o 4 [xa_r kb, xa_r (k + 1 + 1), xa_r (k + 1 + 2), xa_i ((j : Nat) : Int), xa_i (1 * sp_dg dg ((j : Nat) : Int))]) → (h.1 (k + 1 + 1) = xa_a 3 po) → (h.1 (k + 1 + 2) = xa_a 2 sp) → (h.1 kb = xa_o 0 [xa_r (kb + 1), xa_r (kb + 2), xa_i ((pa : Nat) : Int), xa_i ((jo : Nat) : Int), xa_i wa, xa_i sr, xa_i pu, xa_i ri]) → (h.1 (kb + 1) = xa_a 9 ld) → (h.1 (kb + 2) = xa_a 2 dg) → (∀ i, (i < k + 1 ∨ k + 4 ≤ i) → h.1 i = h0.1 i) → xa_W G mX1_measureWith (xa_Z G (fun r h' => r = some (xa_i ((lp_m ld dg pa j Mw 27 : Nat) : Int)) ∧ (∃ (po' sp' : Nat → Int) (tj' tb' : Int), xS h' (k + 1) kb po' sp' tj' tb' ∧ (∀ i, 0 ≤ po' i ∧ po' i ≤ 2) ∧ (∀ i, -2 ≤ sp' i ∧ sp' i ≤ 12) ∧ (tj' = 0 ∨ tj' = 1)) ∧ h'.2 = h0.2 ∧ ∀ i, (i < k + 1 ∨ k + 4 ≤ i) → h'.1 i = h0.1 i)) 80 [some (xa_r k), some (xa_i M), some (xa_i ((j : Nat) : Int)), some (xa_i (lp_a ld dg pa j)), some (xa_i ((lp_m ld dg pa j Mw (9 * p0 + 3 * p1 + p2) : Nat) : Int)), some (xa_i ((p0 : Nat) : Int)), some (xa_i ((p1 : Nat) : Int)), some (xa_i ((p2 : Nat) : Int))] [] h 0 0 := by
  intro d
  induction d with
  | zero => intros; exfalso; omega
  | succ d ih =>
    intro p0 p1 p2 po h hd g0 g1 g2 hpo hn0 hkn hL0 hS0 hS1 hS2 hB0 hB1 hB2 fr0
    have hn : h.2 = h.2 := rfl
    have fr : ∀ i, (i < k + 1 ∨ k + 4 ≤ i) → h.1 i = h.1 i := fun _ _ => rfl
    have h0' := hB9.1
    have hld := hB9.2.1
    have hdj := sp_dg_b hB9.2.2.2.1 ((j : Nat) : Int)
    have hla := lm_b hB9 hj 13 (by omega)
    have hla2 : lp_g ld dg pa j (lp_ps 13) = lp_a ld dg pa j := lm_rest hB9 j
    rw [hla2] at hla
    have hml := Nat.le_of_dvd hMw.1 (lp_m_d (ld := ld) (dg := dg) (pa := pa) j Mw (9 * p0 + 3 * p1 + p2)).1
    refine xa_iload (pc := 80) dX1_measureWith_80 rfl ?_
    refine xa_iconst (pc := 82) dX1_measureWith_82 ?_
    refine xa_icmp_ge (pc := 83) (tgt := 138) dX1_measureWith_83 (by decide) ⟨by omega, by omega⟩ (by decide) (fun c_83 => ?_) (fun c_83 => ?_)
    · skip
      refine xa_iincw (pc := 138) (y := ((p1 + 1 : Nat) : Int)) [some (xa_r k), some (xa_i M), some (xa_i ((j : Nat) : Int)), some (xa_i (lp_a ld dg pa j)), some (xa_i ((lp_m ld dg pa j Mw (9 * p0 + 3 * p1 + p2) : Nat) : Int)), some (xa_i ((p0 : Nat) : Int)), some (xa_i ((p1 + 1 : Nat) : Int)), some (xa_i ((p2 : Nat) : Int))] dX1_measureWith_138 (by decide) rfl rfl (by omega) rfl ?_
      refine xa_goto (pc := 141) (tgt := 71) dX1_measureWith_141 (by decide) ?_
      refine xa_iload (pc := 71) dX1_measureWith_71 rfl ?_
      refine xa_iconst (pc := 73) dX1_measureWith_73 ?_
      refine xa_icmp_ge (pc := 74) (tgt := 144) dX1_measureWith_74 (by decide) ⟨by omega, by omega⟩ (by decide) (fun c_74 => ?_) (fun c_74 => ?_)
      · skip
        refine xa_iincw (pc := 144) (y := ((p0 + 1 : Nat) : Int)) [some (xa_r k), some (xa_i M), some (xa_i ((j : Nat) : Int)), some (xa_i (lp_a ld dg pa j)), some (xa_i ((lp_m ld dg pa j Mw (9 * p0 + 3 * p1 + p2) : Nat) : Int)), some (xa_i ((p0 + 1 : Nat) : Int)), some (xa_i ((p1 + 1 : Nat) : Int)), some (xa_i ((p2 : Nat) : Int))] dX1_measureWith_144 (by decide) rfl rfl (by omega) rfl ?_
        refine xa_goto (pc := 147) (tgt := 62) dX1_measureWith_147 (by decide) ?_
        refine xa_iload (pc := 62) dX1_measureWith_62 rfl ?_
        refine xa_iconst (pc := 64) dX1_measureWith_64 ?_
        refine xa_icmp_ge (pc := 65) (tgt := 150) dX1_measureWith_65 (by decide) ⟨by omega, by omega⟩ (by decide) (fun c_65 => ?_) (fun c_65 => ?_)
        · skip
          refine xa_iload (pc := 150) dX1_measureWith_150 rfl ?_
          refine xa_ireturn (pc := 152) dX1_measureWith_152 rfl trivial ?_
          have ep : p2 = 3 := by omega
          subst ep
          have ep : p1 = 2 := by omega
          subst ep
          have ep : p0 = 2 := by omega
          subst ep
          exact ⟨rfl, ⟨po, sp, _, _, ⟨hS0, hS1, hS2, by omega, by omega⟩, hpo, hsp, by omega⟩, by omega, fun i hi => (fr i hi).trans (fr0 i hi)⟩
        · skip
          refine xa_iconst (pc := 68) dX1_measureWith_68 ?_
          refine xa_istorew (pc := 69) [some (xa_r k), some (xa_i M), some (xa_i ((j : Nat) : Int)), some (xa_i (lp_a ld dg pa j)), some (xa_i ((lp_m ld dg pa j Mw (9 * p0 + 3 * p1 + p2) : Nat) : Int)), some (xa_i ((p0 + 1 : Nat) : Int)), some (xa_i 0), some (xa_i ((p2 : Nat) : Int))] dX1_measureWith_69 (by decide) (Nat.le_of_ble_eq_true rfl) rfl rfl ?_
          refine xa_iload (pc := 71) dX1_measureWith_71 rfl ?_
          refine xa_iconst (pc := 73) dX1_measureWith_73 ?_
          refine xa_icmp_ge (pc := 74) (tgt := 144) dX1_measureWith_74 (by decide) (by decide) (by decide) (fun c_74 => ?_) (fun c_74 => ?_)
          · skip
            exfalso; omega
          · skip
            refine xa_iconst (pc := 77) dX1_measureWith_77 ?_
            refine xa_istorew (pc := 78) [some (xa_r k), some (xa_i M), some (xa_i ((j : Nat) : Int)), some (xa_i (lp_a ld dg pa j)), some (xa_i ((lp_m ld dg pa j Mw (9 * p0 + 3 * p1 + p2) : Nat) : Int)), some (xa_i ((p0 + 1 : Nat) : Int)), some (xa_i 0), some (xa_i 0)] dX1_measureWith_78 (by decide) (Nat.le_of_ble_eq_true rfl) rfl rfl ?_
            have ep : p2 = 3 := by omega
            subst ep
            have ep : p1 = 2 := by omega
            subst ep
            have e9 : 9 * p0 + 3 * 2 + 3 = 9 * (p0 + 1) + 3 * 0 + 0 := by omega
            rw [e9]
            exact ih (p0 + 1) 0 0 _ _ (by omega) (by omega) (by omega) (by omega) hpo (by omega) (by omega) hL0 hS0 hS1 hS2 hB0 hB1 hB2 (fun i hi => (fr i hi).trans (fr0 i hi))
      · skip
        refine xa_iconst (pc := 77) dX1_measureWith_77 ?_
        refine xa_istorew (pc := 78) [some (xa_r k), some (xa_i M), some (xa_i ((j : Nat) : Int)), some (xa_i (lp_a ld dg pa j)), some (xa_i ((lp_m ld dg pa j Mw (9 * p0 + 3 * p1 + p2) : Nat) : Int)), some (xa_i ((p0 : Nat) : Int)), some (xa_i ((p1 + 1 : Nat) : Int)), some (xa_i 0)] dX1_measureWith_78 (by decide) (Nat.le_of_ble_eq_true rfl) rfl rfl ?_
        have ep : p2 = 3 := by omega
        subst ep
        have e9 : 9 * p0 + 3 * p1 + 3 = 9 * p0 + 3 * (p1 + 1) + 0 := by omega
        rw [e9]
        exact ih p0 (p1 + 1) 0 _ _ (by omega) g0 (by omega) (by omega) hpo (by omega) (by omega) hL0 hS0 hS1 hS2 hB0 hB1 hB2 (fun i hi => (fr i hi).trans (fr0 i hi))
    · skip
      refine xa_aload_n (pc := 86) dX1_measureWith_86 rfl ?_
      refine xa_getfield (pc := 87) dX1_measureWith_87 flRX1_20 (by omega) (by omega) hL0 rfl ?_
      refine xa_iconst (pc := 90) dX1_measureWith_90 ?_
      refine xa_iload (pc := 91) dX1_measureWith_91 rfl ?_
      refine xa_callV (pc := 93) (as := [xa_i 0, xa_i ((p0 : Nat) : Int)]) (rest := []) dX1_measureWith_93 ⟨qX4_takePose.1, qX4_takePose.2.1, qX4_takePose.2.2, by decide, by decide⟩ lkRX1_58 imX4_takePose seX4_takePose rfl rfl (by omega) (by omega) hS0 rfl (Nat.le_of_ble_eq_true rfl) (Nat.zero_le _) (Nat.zero_le _) (c_takePose _ _ _ _ _ _ 0 ((p0 : Nat) : Int) 0 rfl ⟨by decide, by decide⟩ (by omega) (by omega) hS0 hS1 hS2) (fun r h' hq => ?_)
      obtain ⟨rfl, hqA, hqn, hqf⟩ := hq
      have hS1 : h'.1 (k + 1 + 1) = xa_a 3 (xa_upf po 0 ((p0 : Nat) : Int)) := hqA
      have hL0 : h'.1 k = xa_o 1 [xa_r kb, xa_r (k + 1)] := (hqf _ (by omega)).trans hL0
      have hS0 : h'.1 (k + 1) = xa_o 4 [xa_r kb, xa_r (k + 1 + 1), xa_r (k + 1 + 2), xa_i ((j : Nat) : Int), xa_i (1 * sp_dg dg ((j : Nat) : Int))] := (hqf _ (by omega)).trans hS0
      have hS2 : h'.1 (k + 1 + 2) = xa_a 2 sp := (hqf _ (by omega)).trans hS2
      have hB0 : h'.1 kb = xa_o 0 [xa_r (kb + 1), xa_r (kb + 2), xa_i ((pa : Nat) : Int), xa_i ((jo : Nat) : Int), xa_i wa, xa_i sr, xa_i pu, xa_i ri] := (hqf _ (by omega)).trans hB0
      have hB1 : h'.1 (kb + 1) = xa_a 9 ld := (hqf _ (by omega)).trans hB1
      have hB2 : h'.1 (kb + 2) = xa_a 2 dg := (hqf _ (by omega)).trans hB2
      have hn : h'.2 = h.2 := hqn.trans hn
      have fr : ∀ i, (i < k + 1 ∨ k + 4 ≤ i) → h'.1 i = h.1 i := fun i hi => (hqf i (by omega)).trans (fr i hi)
      refine xa_aload_n (pc := 96) dX1_measureWith_96 rfl ?_
      refine xa_getfield (pc := 97) dX1_measureWith_97 flRX1_20 (by omega) (by omega) hL0 rfl ?_
      refine xa_iconst (pc := 100) dX1_measureWith_100 ?_
      refine xa_iload (pc := 101) dX1_measureWith_101 rfl ?_
      refine xa_callV (pc := 103) (as := [xa_i 1, xa_i ((p1 : Nat) : Int)]) (rest := []) dX1_measureWith_103 ⟨qX4_takePose.1, qX4_takePose.2.1, qX4_takePose.2.2, by decide, by decide⟩ lkRX1_58 imX4_takePose seX4_takePose rfl rfl (by omega) (by omega) hS0 rfl (Nat.le_of_ble_eq_true rfl) (Nat.zero_le _) (Nat.zero_le _) (c_takePose _ _ _ _ _ _ 1 ((p1 : Nat) : Int) 1 rfl ⟨by decide, by decide⟩ (by omega) (by omega) hS0 hS1 hS2) (fun r h' hq => ?_)
      obtain ⟨rfl, hqA, hqn, hqf⟩ := hq
      have hS1 : h'.1 (k + 1 + 1) = xa_a 3 (xa_upf (xa_upf po 0 ((p0 : Nat) : Int)) 1 ((p1 : Nat) : Int)) := hqA
      have hL0 : h'.1 k = xa_o 1 [xa_r kb, xa_r (k + 1)] := (hqf _ (by omega)).trans hL0
      have hS0 : h'.1 (k + 1) = xa_o 4 [xa_r kb, xa_r (k + 1 + 1), xa_r (k + 1 + 2), xa_i ((j : Nat) : Int), xa_i (1 * sp_dg dg ((j : Nat) : Int))] := (hqf _ (by omega)).trans hS0
      have hS2 : h'.1 (k + 1 + 2) = xa_a 2 sp := (hqf _ (by omega)).trans hS2
      have hB0 : h'.1 kb = xa_o 0 [xa_r (kb + 1), xa_r (kb + 2), xa_i ((pa : Nat) : Int), xa_i ((jo : Nat) : Int), xa_i wa, xa_i sr, xa_i pu, xa_i ri] := (hqf _ (by omega)).trans hB0
      have hB1 : h'.1 (kb + 1) = xa_a 9 ld := (hqf _ (by omega)).trans hB1
      have hB2 : h'.1 (kb + 2) = xa_a 2 dg := (hqf _ (by omega)).trans hB2
      have hn : h'.2 = h.2 := hqn.trans hn
      have fr : ∀ i, (i < k + 1 ∨ k + 4 ≤ i) → h'.1 i = h.1 i := fun i hi => (hqf i (by omega)).trans (fr i hi)
      refine xa_aload_n (pc := 106) dX1_measureWith_106 rfl ?_
      refine xa_getfield (pc := 107) dX1_measureWith_107 flRX1_20 (by omega) (by omega) hL0 rfl ?_
      refine xa_iconst (pc := 110) dX1_measureWith_110 ?_
      refine xa_iload (pc := 111) dX1_measureWith_111 rfl ?_
      refine xa_callV (pc := 113) (as := [xa_i 2, xa_i ((p2 : Nat) : Int)]) (rest := []) dX1_measureWith_113 ⟨qX4_takePose.1, qX4_takePose.2.1, qX4_takePose.2.2, by decide, by decide⟩ lkRX1_58 imX4_takePose seX4_takePose rfl rfl (by omega) (by omega) hS0 rfl (Nat.le_of_ble_eq_true rfl) (Nat.zero_le _) (Nat.zero_le _) (c_takePose _ _ _ _ _ _ 2 ((p2 : Nat) : Int) 2 rfl ⟨by decide, by decide⟩ (by omega) (by omega) hS0 hS1 hS2) (fun r h' hq => ?_)
      obtain ⟨rfl, hqA, hqn, hqf⟩ := hq
      have hS1 : h'.1 (k + 1 + 1) = xa_a 3 (xa_upf (xa_upf (xa_upf po 0 ((p0 : Nat) : Int)) 1 ((p1 : Nat) : Int)) 2 ((p2 : Nat) : Int)) := hqA
      have hL0 : h'.1 k = xa_o 1 [xa_r kb, xa_r (k + 1)] := (hqf _ (by omega)).trans hL0
      have hS0 : h'.1 (k + 1) = xa_o 4 [xa_r kb, xa_r (k + 1 + 1), xa_r (k + 1 + 2), xa_i ((j : Nat) : Int), xa_i (1 * sp_dg dg ((j : Nat) : Int))] := (hqf _ (by omega)).trans hS0
      have hS2 : h'.1 (k + 1 + 2) = xa_a 2 sp := (hqf _ (by omega)).trans hS2
      have hB0 : h'.1 kb = xa_o 0 [xa_r (kb + 1), xa_r (kb + 2), xa_i ((pa : Nat) : Int), xa_i ((jo : Nat) : Int), xa_i wa, xa_i sr, xa_i pu, xa_i ri] := (hqf _ (by omega)).trans hB0
      have hB1 : h'.1 (kb + 1) = xa_a 9 ld := (hqf _ (by omega)).trans hB1
      have hB2 : h'.1 (kb + 2) = xa_a 2 dg := (hqf _ (by omega)).trans hB2
      have hn : h'.2 = h.2 := hqn.trans hn
      have fr : ∀ i, (i < k + 1 ∨ k + 4 ≤ i) → h'.1 i = h.1 i := fun i hi => (hqf i (by omega)).trans (fr i hi)
      refine xa_iload (pc := 116) dX1_measureWith_116 rfl ?_
      refine xa_aload_n (pc := 118) dX1_measureWith_118 rfl ?_
      refine xa_getfield (pc := 119) dX1_measureWith_119 flRX1_20 (by omega) (by omega) hL0 rfl ?_
      refine xa_callV (pc := 122) (as := []) (rest := [xa_i ((lp_m ld dg pa j Mw (9 * p0 + 3 * p1 + p2) : Nat) : Int)]) dX1_measureWith_122 ⟨qX4_lastTurn.1, qX4_lastTurn.2.1, qX4_lastTurn.2.2, by decide, by decide⟩ lkRX1_44 imX4_lastTurn seX4_lastTurn rfl rfl (by omega) (by omega) hS0 rfl (Nat.le_of_ble_eq_true rfl) (Nat.zero_le _) (Nat.zero_le _) (c_lastTurn _ _ _ _ _ _ _ _ _ _ _ _ _ _ ⟨hS0, hS1, hS2, by omega, by omega⟩ ⟨hB0, hB1, hB2, by omega, by omega⟩ (by omega) (by omega) (by omega) (xa_upf_b (xa_upf_b (xa_upf_b hpo (by omega)) (by omega)) (by omega)) hld (by omega) (by omega)) (fun r h' hq => ?_)
      obtain ⟨rfl, hq⟩ := hq
      have hq := hq.symm
      subst hq
      refine xa_top (y := lp_g ld dg pa j (lp_ps (9 * p0 + 3 * p1 + p2))) (lm_last hB9 hj g0 g1 (by omega) (by rw [xa_upf_ne _ _ (by decide), xa_upf_ne _ _ (by decide), xa_upf_at]) (by rw [xa_upf_ne _ _ (by decide), xa_upf_at]) (xa_upf_at _ _ _)) ?_
      have hlb := lm_b hB9 hj (9 * p0 + 3 * p1 + p2) (by omega)
      refine xa_iload_n (pc := 125) dX1_measureWith_125 rfl ?_
      refine xa_isub (pc := 126) dX1_measureWith_126 ?_
      refine xa_callS (pc := 127) (as := [xa_i ((lp_m ld dg pa j Mw (9 * p0 + 3 * p1 + p2) : Nat) : Int), xa_i ((lp_g ld dg pa j (lp_ps (9 * p0 + 3 * p1 + p2))) - (lp_a ld dg pa j))]) (rest := []) dX1_measureWith_127 ⟨qX1_common.1, qX1_common.2.1, qX1_common.2.2, by decide, by decide⟩ lkRX1_55 smX1_common rfl rfl (Nat.le_of_ble_eq_true rfl) (Nat.zero_le _) (Nat.zero_le _) (c_common _ _ (by omega) (by omega)) (fun r h' hq => ?_)
      obtain ⟨rfl, hq⟩ := hq
      have hq := hq.symm
      subst hq
      refine xa_top (y := ((lp_m ld dg pa j Mw (9 * p0 + 3 * p1 + p2 + 1) : Nat) : Int)) (by rw [Int.natAbs_natCast]; rfl) ?_
      refine xa_istorew (pc := 130) [some (xa_r k), some (xa_i M), some (xa_i ((j : Nat) : Int)), some (xa_i (lp_a ld dg pa j)), some (xa_i ((lp_m ld dg pa j Mw (9 * p0 + 3 * p1 + p2 + 1) : Nat) : Int)), some (xa_i ((p0 : Nat) : Int)), some (xa_i ((p1 : Nat) : Int)), some (xa_i ((p2 : Nat) : Int))] dX1_measureWith_130 (by decide) (Nat.le_of_ble_eq_true rfl) rfl rfl ?_
      refine xa_iincw (pc := 132) (y := ((p2 + 1 : Nat) : Int)) [some (xa_r k), some (xa_i M), some (xa_i ((j : Nat) : Int)), some (xa_i (lp_a ld dg pa j)), some (xa_i ((lp_m ld dg pa j Mw (9 * p0 + 3 * p1 + p2 + 1) : Nat) : Int)), some (xa_i ((p0 : Nat) : Int)), some (xa_i ((p1 : Nat) : Int)), some (xa_i ((p2 + 1 : Nat) : Int))] dX1_measureWith_132 (by decide) rfl rfl (by omega) rfl ?_
      refine xa_goto (pc := 135) (tgt := 80) dX1_measureWith_135 (by decide) ?_
      exact ih p0 p1 (p2 + 1) _ _ (by omega) g0 g1 (by omega) (xa_upf_b (xa_upf_b (xa_upf_b hpo (by omega)) (by omega)) (by omega)) (by omega) (by omega) hL0 hS0 hS1 hS2 hB0 hB1 hB2 (fun i hi => (fr i hi).trans (fr0 i hi))
theorem c_measureWith {G : xa_G} {h : xa_H} (k kb j M : Nat) (ld dg : Nat → Int) (pa jo : Nat) (wa sr pu ri : Int) (po sp : Nat → Int) (tj tb : Int) (hB9 : vB ld dg pa jo wa sr pu ri) (hk : 2 ≤ k) (hkn : k + 3 < h.2) (hkb : 2 ≤ kb) (hkk : kb + 3 ≤ k) (hj : j < jo) (hM : 0 < M ∧ M ≤ 360) (hst : (∀ i, 0 ≤ po i ∧ po i ≤ 2) ∧ (∀ i, -2 ≤ sp i ∧ sp i ≤ 12) ∧ (tj = 0 ∨ tj = 1)) (hL0 : h.1 k = xa_o 1 [xa_r kb, xa_r (k + 1)]) (hS0 : h.1 (k + 1) = xa_o 4 [xa_r kb, xa_r (k + 1 + 1), xa_r (k + 1 + 2), xa_i tj, xa_i tb]) (hS1 : h.1 (k + 1 + 1) = xa_a 3 po) (hS2 : h.1 (k + 1 + 2) = xa_a 2 sp) (hB0 : h.1 kb = xa_o 0 [xa_r (kb + 1), xa_r (kb + 2), xa_i ((pa : Nat) : Int), xa_i ((jo : Nat) : Int), xa_i wa, xa_i sr, xa_i pu, xa_i ri]) (hB1 : h.1 (kb + 1) = xa_a 9 ld) (hB2 : h.1 (kb + 2) = xa_a 2 dg) : xa_M G mX1_measureWith [xa_r k, xa_i ((M : Nat) : Int), xa_i ((j : Nat) : Int)] h 0 0 (fun r h' => r = some (xa_i ((lp_j ld dg pa wa sr j M : Nat) : Int)) ∧ (∃ (po' sp' : Nat → Int) (tj' tb' : Int), xS h' (k + 1) kb po' sp' tj' tb' ∧ (∀ i, 0 ≤ po' i ∧ po' i ≤ 2) ∧ (∀ i, -2 ≤ sp' i ∧ sp' i ≤ 12) ∧ (tj' = 0 ∨ tj' = 1)) ∧ h'.2 = h.2 ∧ ∀ i, (i < k + 1 ∨ k + 4 ≤ i) → h'.1 i = h.1 i) := by
  refine xa_enter (by decide +kernel) (Nat.le_of_ble_eq_true rfl) ?_
  refine xa_locals (ls' := [some (xa_r k), some (xa_i ((M : Nat) : Int)), some (xa_i ((j : Nat) : Int)), none, none, none, none, none]) rfl ?_
  have hn : h.2 = h.2 := rfl
  have fr : ∀ i, (i < k + 1 ∨ k + 4 ≤ i) → h.1 i = h.1 i := fun _ _ => rfl
  have h0' := hB9.1
  have hld := hB9.2.1
  have hw := hB9.wag
  have hwa : xa_ok wa := by omega
  have hdj := sp_dg_b hB9.2.2.2.1 ((j : Nat) : Int)
  have hla := lm_b hB9 hj 13 (by omega)
  rw [show lp_g ld dg pa j (lp_ps 13) = lp_a ld dg pa j from lm_rest hB9 j] at hla
  refine xa_aload_n (pc := 0) dX1_measureWith_0 rfl ?_
  refine xa_getfield (pc := 1) dX1_measureWith_1 flRX1_20 (by omega) (by omega) hL0 rfl ?_
  refine xa_callV (pc := 4) (as := []) (rest := []) dX1_measureWith_4 ⟨qX4_rest.1, qX4_rest.2.1, qX4_rest.2.2, by decide, by decide⟩ lkRX1_37 imX4_rest seX4_rest rfl rfl (by omega) (by omega) hS0 rfl (Nat.le_of_ble_eq_true rfl) (Nat.zero_le _) (Nat.zero_le _) (c_rest _ _ _ _ _ _ _ _ _ _ _ _ _ _ ⟨hS0, hS1, hS2, by omega, by omega⟩ ⟨hB0, hB1, hB2, by omega, by omega⟩ (by omega) (by omega) (by omega)) (fun r h' hq => ?_)
  obtain ⟨rfl, ⟨hS0, hS1, hS2, -, -⟩, hqn, hqf⟩ := hq
  have hS0 : h'.1 (k + 1) = xa_o 4 [xa_r kb, xa_r (k + 1 + 1), xa_r (k + 1 + 2), xa_i tj, xa_i 0] := hS0
  have hS1 : h'.1 (k + 1 + 1) = xa_a 3 (xa_fl po 3 1) := hS1
  have hS2 : h'.1 (k + 1 + 2) = xa_a 2 (xa_fl sp 2 0) := hS2
  have hL0 : h'.1 k = xa_o 1 [xa_r kb, xa_r (k + 1)] := (hqf _ (by omega)).trans hL0
  have hB0 : h'.1 kb = xa_o 0 [xa_r (kb + 1), xa_r (kb + 2), xa_i ((pa : Nat) : Int), xa_i ((jo : Nat) : Int), xa_i wa, xa_i sr, xa_i pu, xa_i ri] := (hqf _ (by omega)).trans hB0
  have hB1 : h'.1 (kb + 1) = xa_a 9 ld := (hqf _ (by omega)).trans hB1
  have hB2 : h'.1 (kb + 2) = xa_a 2 dg := (hqf _ (by omega)).trans hB2
  have hn : h'.2 = h.2 := hqn.trans hn
  have fr : ∀ i, (i < k + 1 ∨ k + 4 ≤ i) → h'.1 i = h.1 i := fun i hi => (hqf i (by omega)).trans (fr i hi)
  refine xa_aload_n (pc := 7) dX1_measureWith_7 rfl ?_
  refine xa_getfield (pc := 8) dX1_measureWith_8 flRX1_20 (by omega) (by omega) hL0 rfl ?_
  refine xa_iconst (pc := 11) dX1_measureWith_11 ?_
  refine xa_iconst (pc := 12) dX1_measureWith_12 ?_
  refine xa_iload_n (pc := 13) dX1_measureWith_13 rfl ?_
  refine xa_imul (pc := 14) dX1_measureWith_14 ?_
  refine xa_iadd (pc := 15) dX1_measureWith_15 ?_
  refine xa_callV (pc := 16) (as := [xa_i (1 + (2 * ((j : Nat) : Int)))]) (rest := []) dX1_measureWith_16 ⟨qX4_makes.1, qX4_makes.2.1, qX4_makes.2.2, by decide, by decide⟩ lkRX1_40 imX4_makes seX4_makes rfl rfl (by omega) (by omega) hS0 rfl (Nat.le_of_ble_eq_true rfl) (Nat.zero_le _) (Nat.zero_le _) (c_makes _ _ _ _ _ _ _ _ _ _ _ _ _ _ _ ⟨by omega, by omega⟩ ⟨hS0, hS1, hS2, by omega, by omega⟩ ⟨hB0, hB1, hB2, by omega, by omega⟩ (by omega) (by omega) (by omega) (xa_fl_b hst.2.1 (by decide)) (xa_fl_b hst.1 (by decide)) (by omega) (by omega)) (fun r h' hq => ?_)
  obtain ⟨hq, hqn, hqf⟩ := hq
  rcases hq with ⟨t1, ht, rfl, hS0, hS1, hS2, -, -⟩ | ⟨ht, rfl, hS0, hS1, hS2, -, -⟩
  · skip
    obtain ⟨t1, hm1, hm2, hm3, hm4⟩ := lm_make (po := po) (sp := sp) (tj := tj) hB9 hj
    have ht2 := Option.some.inj (hm1.symm.trans ht)
    subst ht2
    rw [hm2] at hS1
    rw [hm3, hm4] at hS0
    have hok1 := (sp_make_ok hB9.2.2.2.1 (by omega) (show sp_ok (xa_fl po 3 1, xa_fl sp 2 0, tj, 0) from ⟨xa_fl_b hst.1 (by decide), xa_fl_b hst.2.1 (by decide), hst.2.2, sp_z120⟩) ht).2.1
    have hS0 : h'.1 (k + 1) = xa_o 4 [xa_r kb, xa_r (k + 1 + 1), xa_r (k + 1 + 2), xa_i ((j : Nat) : Int), xa_i (1 * sp_dg dg ((j : Nat) : Int))] := hS0
    have hS1 : h'.1 (k + 1 + 1) = xa_a 3 (xa_fl po 3 1) := hS1
    have hS2 : h'.1 (k + 1 + 2) = xa_a 2 t1.2.1 := hS2
    have hL0 : h'.1 k = xa_o 1 [xa_r kb, xa_r (k + 1)] := (hqf _ (by omega)).trans hL0
    have hB0 : h'.1 kb = xa_o 0 [xa_r (kb + 1), xa_r (kb + 2), xa_i ((pa : Nat) : Int), xa_i ((jo : Nat) : Int), xa_i wa, xa_i sr, xa_i pu, xa_i ri] := (hqf _ (by omega)).trans hB0
    have hB1 : h'.1 (kb + 1) = xa_a 9 ld := (hqf _ (by omega)).trans hB1
    have hB2 : h'.1 (kb + 2) = xa_a 2 dg := (hqf _ (by omega)).trans hB2
    have hn : h'.2 = h.2 := hqn.trans hn
    have fr : ∀ i, (i < k + 1 ∨ k + 4 ≤ i) → h'.1 i = h.1 i := fun i hi => (hqf i (by omega)).trans (fr i hi)
    refine xa_pop (pc := 19) dX1_measureWith_19 rfl ?_
    refine xa_aload_n (pc := 20) dX1_measureWith_20 rfl ?_
    refine xa_getfield (pc := 21) dX1_measureWith_21 flRX1_20 (by omega) (by omega) hL0 rfl ?_
    refine xa_callV (pc := 24) (as := []) (rest := []) dX1_measureWith_24 ⟨qX4_lastTurn.1, qX4_lastTurn.2.1, qX4_lastTurn.2.2, by decide, by decide⟩ lkRX1_44 imX4_lastTurn seX4_lastTurn rfl rfl (by omega) (by omega) hS0 rfl (Nat.le_of_ble_eq_true rfl) (Nat.zero_le _) (Nat.zero_le _) (c_lastTurn _ _ _ _ _ _ _ _ _ _ _ _ _ _ ⟨hS0, hS1, hS2, by omega, by omega⟩ ⟨hB0, hB1, hB2, by omega, by omega⟩ (by omega) (by omega) (by omega) (xa_fl_b hst.1 (by decide)) hld (by omega) (by omega)) (fun r h' hq => ?_)
    obtain ⟨rfl, hq⟩ := hq
    have hq := hq.symm
    subst hq
    refine xa_top (y := lp_a ld dg pa j) (by rw [← lm_rest hB9 j]; exact lm_last hB9 hj (p0 := 1) (p1 := 1) (p2 := 1) (by decide) (by decide) (by decide) (xa_fl_lt _ _ (by decide)) (xa_fl_lt _ _ (by decide)) (xa_fl_lt _ _ (by decide))) ?_
    refine xa_istoren (pc := 27) [some (xa_r k), some (xa_i ((M : Nat) : Int)), some (xa_i ((j : Nat) : Int)), some (xa_i (lp_a ld dg pa j)), none, none, none, none] dX1_measureWith_27 (by decide) (Nat.le_of_ble_eq_true rfl) rfl rfl ?_
    refine xa_aload_n (pc := 28) dX1_measureWith_28 rfl ?_
    refine xa_getfield (pc := 29) dX1_measureWith_29 flRX1_9 (by omega) (by omega) hL0 rfl ?_
    refine xa_iload_n (pc := 32) dX1_measureWith_32 rfl ?_
    refine xa_callV (pc := 33) (as := [xa_i ((j : Nat) : Int)]) (rest := []) dX1_measureWith_33 ⟨qX0_isWagging.1, qX0_isWagging.2.1, qX0_isWagging.2.2, by decide, by decide⟩ lkRX1_48 imX0_isWagging seX0_isWagging rfl rfl (by omega) (by omega) hB0 rfl (Nat.le_of_ble_eq_true rfl) (Nat.zero_le _) (Nat.zero_le _) (c_isWagging _ _ _ _ _ _ _ _ _ _ ⟨by omega, by omega⟩ (by assumption) ⟨hB0, hB1, hB2, by omega, by omega⟩) (fun r h' hq => ?_)
    obtain ⟨rfl, hq⟩ := hq
    have hq := hq.symm
    subst hq
    refine xa_if_eq (pc := 36) (tgt := 56) dX1_measureWith_36 (by decide) xa_okb (fun c_36 => ?_) (fun c_36 => ?_)
    · have c_36 := xa_b0.mp c_36
      refine xa_iload_n (pc := 56) dX1_measureWith_56 rfl ?_
      refine xa_top (y := (((lp_w ld dg pa wa sr j M) : Nat) : Int)) (by unfold lp_w; rw [if_neg c_36]) ?_
      refine xa_istorew (pc := 57) [some (xa_r k), some (xa_i ((M : Nat) : Int)), some (xa_i ((j : Nat) : Int)), some (xa_i (lp_a ld dg pa j)), some (xa_i (((lp_w ld dg pa wa sr j M) : Nat) : Int)), none, none, none] dX1_measureWith_57 (by decide) (Nat.le_of_ble_eq_true rfl) rfl rfl ?_
      refine xa_iconst (pc := 59) dX1_measureWith_59 ?_
      refine xa_istorew (pc := 60) [some (xa_r k), some (xa_i ((M : Nat) : Int)), some (xa_i ((j : Nat) : Int)), some (xa_i (lp_a ld dg pa j)), some (xa_i (((lp_w ld dg pa wa sr j M) : Nat) : Int)), some (xa_i 0), none, none] dX1_measureWith_60 (by decide) (Nat.le_of_ble_eq_true rfl) rfl rfl ?_
      refine xa_iload (pc := 62) dX1_measureWith_62 rfl ?_
      refine xa_iconst (pc := 64) dX1_measureWith_64 ?_
      refine xa_icmp_ge (pc := 65) (tgt := 150) dX1_measureWith_65 (by decide) (by decide) (by decide) (fun c_65 => ?_) (fun c_65 => ?_)
      · skip
        exfalso; omega
      · skip
        refine xa_iconst (pc := 68) dX1_measureWith_68 ?_
        refine xa_istorew (pc := 69) [some (xa_r k), some (xa_i ((M : Nat) : Int)), some (xa_i ((j : Nat) : Int)), some (xa_i (lp_a ld dg pa j)), some (xa_i (((lp_w ld dg pa wa sr j M) : Nat) : Int)), some (xa_i 0), some (xa_i 0), none] dX1_measureWith_69 (by decide) (Nat.le_of_ble_eq_true rfl) rfl rfl ?_
        refine xa_iload (pc := 71) dX1_measureWith_71 rfl ?_
        refine xa_iconst (pc := 73) dX1_measureWith_73 ?_
        refine xa_icmp_ge (pc := 74) (tgt := 144) dX1_measureWith_74 (by decide) (by decide) (by decide) (fun c_74 => ?_) (fun c_74 => ?_)
        · skip
          exfalso; omega
        · skip
          refine xa_iconst (pc := 77) dX1_measureWith_77 ?_
          refine xa_istorew (pc := 78) [some (xa_r k), some (xa_i ((M : Nat) : Int)), some (xa_i ((j : Nat) : Int)), some (xa_i (lp_a ld dg pa j)), some (xa_i (((lp_w ld dg pa wa sr j M) : Nat) : Int)), some (xa_i 0), some (xa_i 0), some (xa_i 0)] dX1_measureWith_78 (by decide) (Nat.le_of_ble_eq_true rfl) rfl rfl ?_
          have hwd := (Nat.le_of_dvd hM.1 lp_w_d : (lp_w ld dg pa wa sr j M) ≤ M)
          have hwp : 0 < (lp_w ld dg pa wa sr j M) := Nat.pos_of_dvd_of_pos lp_w_d hM.1
          refine xa_wmono ?_ (c_meas_loop (Mw := (lp_w ld dg pa wa sr j M)) hB9 hk hkb hkk hj ⟨hwp, by omega⟩ hok1 65 0 0 0 _ _ (by omega) (by omega) (by omega) (by omega) (xa_fl_b hst.1 (by decide)) rfl (by omega) hL0 hS0 hS1 hS2 hB0 hB1 hB2 (fun _ _ => rfl))
          rintro r h2 ⟨e1, e2, e3, e4⟩
          exact ⟨e1, e2, by omega, fun i hi => (e4 i hi).trans (fr i hi)⟩
    · have c_36 := xa_b1.mp c_36
      refine xa_iload_n (pc := 39) dX1_measureWith_39 rfl ?_
      refine xa_aload_n (pc := 40) dX1_measureWith_40 rfl ?_
      refine xa_getfield (pc := 41) dX1_measureWith_41 flRX1_9 (by omega) (by omega) hL0 rfl ?_
      refine xa_iload_n (pc := 44) dX1_measureWith_44 rfl ?_
      refine xa_callV (pc := 45) (as := [xa_i ((j : Nat) : Int)]) (rest := [xa_i ((M : Nat) : Int)]) dX1_measureWith_45 ⟨qX0_stepsOf.1, qX0_stepsOf.2.1, qX0_stepsOf.2.2, by decide, by decide⟩ lkRX1_51 imX0_stepsOf seX0_stepsOf rfl rfl (by omega) (by omega) hB0 rfl (Nat.le_of_ble_eq_true rfl) (Nat.zero_le _) (Nat.zero_le _) (c_stepsOf _ _ _ _ _ _ _ _ _ _ ⟨by omega, by omega⟩ (by omega) ⟨hB0, hB1, hB2, by omega, by omega⟩) (fun r h' hq => ?_)
      obtain ⟨rfl, hq⟩ := hq
      have hq := hq.symm
      subst hq
      refine xa_top (y := sr) (if_pos c_36) ?_
      have hsa : -1440 ≤ sr * lp_a ld dg pa j ∧ sr * lp_a ld dg pa j ≤ 1440 := by
        have hw1 : 3 ≤ sr ∧ sr ≤ 12 := by omega
        have m1 := Int.mul_le_mul_of_nonneg_left hla.2 (show 0 ≤ sr by omega)
        have m2 := Int.mul_le_mul_of_nonneg_left hla.1 (show 0 ≤ sr by omega)
        omega
      refine xa_iload_n (pc := 48) dX1_measureWith_48 rfl ?_
      refine xa_imul (pc := 49) dX1_measureWith_49 ?_
      refine xa_callS (pc := 50) (as := [xa_i ((M : Nat) : Int), xa_i (sr * (lp_a ld dg pa j))]) (rest := []) dX1_measureWith_50 ⟨qX1_common.1, qX1_common.2.1, qX1_common.2.2, by decide, by decide⟩ lkRX1_55 smX1_common rfl rfl (Nat.le_of_ble_eq_true rfl) (Nat.zero_le _) (Nat.zero_le _) (c_common _ _ (by omega) (by omega)) (fun r h' hq => ?_)
      obtain ⟨rfl, hq⟩ := hq
      have hq := hq.symm
      subst hq
      refine xa_goto (pc := 53) (tgt := 57) dX1_measureWith_53 (by decide) ?_
      refine xa_top (y := (((lp_w ld dg pa wa sr j M) : Nat) : Int)) (by unfold lp_w; rw [if_pos c_36, Int.natAbs_natCast]) ?_
      refine xa_istorew (pc := 57) [some (xa_r k), some (xa_i ((M : Nat) : Int)), some (xa_i ((j : Nat) : Int)), some (xa_i (lp_a ld dg pa j)), some (xa_i (((lp_w ld dg pa wa sr j M) : Nat) : Int)), none, none, none] dX1_measureWith_57 (by decide) (Nat.le_of_ble_eq_true rfl) rfl rfl ?_
      refine xa_iconst (pc := 59) dX1_measureWith_59 ?_
      refine xa_istorew (pc := 60) [some (xa_r k), some (xa_i ((M : Nat) : Int)), some (xa_i ((j : Nat) : Int)), some (xa_i (lp_a ld dg pa j)), some (xa_i (((lp_w ld dg pa wa sr j M) : Nat) : Int)), some (xa_i 0), none, none] dX1_measureWith_60 (by decide) (Nat.le_of_ble_eq_true rfl) rfl rfl ?_
      refine xa_iload (pc := 62) dX1_measureWith_62 rfl ?_
      refine xa_iconst (pc := 64) dX1_measureWith_64 ?_
      refine xa_icmp_ge (pc := 65) (tgt := 150) dX1_measureWith_65 (by decide) (by decide) (by decide) (fun c_65 => ?_) (fun c_65 => ?_)
      · skip
        exfalso; omega
      · skip
        refine xa_iconst (pc := 68) dX1_measureWith_68 ?_
        refine xa_istorew (pc := 69) [some (xa_r k), some (xa_i ((M : Nat) : Int)), some (xa_i ((j : Nat) : Int)), some (xa_i (lp_a ld dg pa j)), some (xa_i (((lp_w ld dg pa wa sr j M) : Nat) : Int)), some (xa_i 0), some (xa_i 0), none] dX1_measureWith_69 (by decide) (Nat.le_of_ble_eq_true rfl) rfl rfl ?_
        refine xa_iload (pc := 71) dX1_measureWith_71 rfl ?_
        refine xa_iconst (pc := 73) dX1_measureWith_73 ?_
        refine xa_icmp_ge (pc := 74) (tgt := 144) dX1_measureWith_74 (by decide) (by decide) (by decide) (fun c_74 => ?_) (fun c_74 => ?_)
        · skip
          exfalso; omega
        · skip
          refine xa_iconst (pc := 77) dX1_measureWith_77 ?_
          refine xa_istorew (pc := 78) [some (xa_r k), some (xa_i ((M : Nat) : Int)), some (xa_i ((j : Nat) : Int)), some (xa_i (lp_a ld dg pa j)), some (xa_i (((lp_w ld dg pa wa sr j M) : Nat) : Int)), some (xa_i 0), some (xa_i 0), some (xa_i 0)] dX1_measureWith_78 (by decide) (Nat.le_of_ble_eq_true rfl) rfl rfl ?_
          have hwd := (Nat.le_of_dvd hM.1 lp_w_d : (lp_w ld dg pa wa sr j M) ≤ M)
          have hwp : 0 < (lp_w ld dg pa wa sr j M) := Nat.pos_of_dvd_of_pos lp_w_d hM.1
          refine xa_wmono ?_ (c_meas_loop (Mw := (lp_w ld dg pa wa sr j M)) hB9 hk hkb hkk hj ⟨hwp, by omega⟩ hok1 65 0 0 0 _ _ (by omega) (by omega) (by omega) (by omega) (xa_fl_b hst.1 (by decide)) rfl (by omega) hL0 hS0 hS1 hS2 hB0 hB1 hB2 (fun _ _ => rfl))
          rintro r h2 ⟨e1, e2, e3, e4⟩
          exact ⟨e1, e2, by omega, fun i hi => (e4 i hi).trans (fr i hi)⟩
  · skip
    exfalso
    obtain ⟨t1, hm1, -⟩ := lm_make (po := po) (sp := sp) (tj := tj) hB9 hj
    rw [hm1] at ht
    cases ht
theorem lp_jle {ld dg : Nat → Int} {pa jo : Nat} {wa sr pu ri : Int} (hB : vB ld dg pa jo wa sr pu ri) (j M : Nat) : 0 < M → M ≤ 360 → lp_j ld dg pa wa sr j M ≤ 360 := fun h1 h2 => Nat.le_trans (Nat.le_of_dvd h1 (lp_j_d hB j M).1) h2
theorem c_turnsBy {G : xa_G} {h : xa_H} (k kb : Nat) (J : Int) (ld dg : Nat → Int) (pa jo : Nat) (wa sr pu ri : Int) (po sp : Nat → Int) (tj tb : Int) (hB9 : vB ld dg pa jo wa sr pu ri) (hk : 2 ≤ k) (hkn : k + 3 < h.2) (hkb : 2 ≤ kb) (hkk : kb + 3 ≤ k) (hJ : J = 0 ∨ J = 1 ∨ J = 2 ∨ J = 3) (hst : (∀ i, 0 ≤ po i ∧ po i ≤ 2) ∧ (∀ i, -2 ≤ sp i ∧ sp i ≤ 12) ∧ (tj = 0 ∨ tj = 1)) (hL0 : h.1 k = xa_o 1 [xa_r kb, xa_r (k + 1)]) (hS0 : h.1 (k + 1) = xa_o 4 [xa_r kb, xa_r (k + 1 + 1), xa_r (k + 1 + 2), xa_i tj, xa_i tb]) (hS1 : h.1 (k + 1 + 1) = xa_a 3 po) (hS2 : h.1 (k + 1 + 2) = xa_a 2 sp) (hB0 : h.1 kb = xa_o 0 [xa_r (kb + 1), xa_r (kb + 2), xa_i ((pa : Nat) : Int), xa_i ((jo : Nat) : Int), xa_i wa, xa_i sr, xa_i pu, xa_i ri]) (hB1 : h.1 (kb + 1) = xa_a 9 ld) (hB2 : h.1 (kb + 2) = xa_a 2 dg) : xa_M G mX1_turnsBy [xa_r k, xa_i J] h 0 0 (fun r h' => r = some (xa_i ((360 / lp_M ld dg pa jo wa sr J : Nat) : Int)) ∧ (∃ (po' sp' : Nat → Int) (tj' tb' : Int), xS h' (k + 1) kb po' sp' tj' tb' ∧ (∀ i, 0 ≤ po' i ∧ po' i ≤ 2) ∧ (∀ i, -2 ≤ sp' i ∧ sp' i ≤ 12) ∧ (tj' = 0 ∨ tj' = 1)) ∧ h'.2 = h.2 ∧ ∀ i, (i < k + 1 ∨ k + 4 ≤ i) → h'.1 i = h.1 i) := by
  refine xa_enter (by decide +kernel) (Nat.le_of_ble_eq_true rfl) ?_
  refine xa_locals (ls' := [some (xa_r k), some (xa_i J), none, none]) rfl ?_
  have hn : h.2 = h.2 := rfl
  have fr : ∀ i, (i < k + 1 ∨ k + 4 ≤ i) → h.1 i = h.1 i := fun _ _ => rfl
  have h0' := hB9.1
  refine xa_sipush (pc := 0) dX1_turnsBy_0 rfl ?_
  refine xa_istoren (pc := 3) [some (xa_r k), some (xa_i J), some (xa_i 360), none] dX1_turnsBy_3 (by decide) (Nat.le_of_ble_eq_true rfl) rfl rfl ?_
  refine xa_iconst (pc := 4) dX1_turnsBy_4 ?_
  refine xa_istoren (pc := 5) [some (xa_r k), some (xa_i J), some (xa_i 360), some (xa_i 0)] dX1_turnsBy_5 (by decide) (Nat.le_of_ble_eq_true rfl) rfl rfl ?_
  refine xa_iload_n (pc := 6) dX1_turnsBy_6 rfl ?_
  refine xa_aload_n (pc := 7) dX1_turnsBy_7 rfl ?_
  refine xa_getfield (pc := 8) dX1_turnsBy_8 flRX1_9 (by omega) (by omega) hL0 rfl ?_
  refine xa_getfield (pc := 11) dX1_turnsBy_11 flRX1_24 (by omega) (by omega) hB0 rfl ?_
  refine xa_icmp_ge (pc := 14) (tgt := 39) dX1_turnsBy_14 (by decide) (by decide) ⟨by omega, by omega⟩ (fun c_14 => ?_) (fun c_14 => ?_)
  · skip
    exfalso; omega
  · skip
    refine xa_iload_n (pc := 17) dX1_turnsBy_17 rfl ?_
    refine xa_iload_n (pc := 18) dX1_turnsBy_18 rfl ?_
    refine xa_ishr (pc := 19) dX1_turnsBy_19 ?_
    refine xa_iconst (pc := 20) dX1_turnsBy_20 ?_
    refine xa_iand (pc := 21) dX1_turnsBy_21 ?_
    refine xa_iconst (pc := 22) dX1_turnsBy_22 ?_
    refine xa_icmp_ne (pc := 23) (tgt := 33) dX1_turnsBy_23 (by decide) (xa_ok_and _ _) (by decide) (fun c_23 => ?_) (fun c_23 => ?_)
    · skip
      have b0 : ¬ (J = 1 ∨ J = 3) := fun q => c_23 ((bitJ hJ).1.mpr q)
      refine xa_iincw (pc := 33) (y := 1) [some (xa_r k), some (xa_i J), some (xa_i 360), some (xa_i 1)] dX1_turnsBy_33 (by decide) rfl rfl rfl rfl ?_
      refine xa_goto (pc := 36) (tgt := 6) dX1_turnsBy_36 (by decide) ?_
      refine xa_iload_n (pc := 6) dX1_turnsBy_6 rfl ?_
      refine xa_aload_n (pc := 7) dX1_turnsBy_7 rfl ?_
      refine xa_getfield (pc := 8) dX1_turnsBy_8 flRX1_9 (by omega) (by omega) hL0 rfl ?_
      refine xa_getfield (pc := 11) dX1_turnsBy_11 flRX1_24 (by omega) (by omega) hB0 rfl ?_
      refine xa_icmp_ge (pc := 14) (tgt := 39) dX1_turnsBy_14 (by decide) (by decide) ⟨by omega, by omega⟩ (fun c_14 => ?_) (fun c_14 => ?_)
      · skip
        refine xa_sipush (pc := 39) dX1_turnsBy_39 rfl ?_
        refine xa_iload_n (pc := 42) dX1_turnsBy_42 rfl ?_
        refine xa_callS (pc := 43) (as := [xa_i 360, xa_i 360]) (rest := []) dX1_turnsBy_43 ⟨qX9_cut.1, qX9_cut.2.1, qX9_cut.2.2, by decide, by decide⟩ lkRX1_34 smX9_cut rfl rfl (Nat.le_of_ble_eq_true rfl) (Nat.zero_le _) (Nat.zero_le _) (c_cut _ _ (by decide) (by decide)) (fun r h' hq => ?_)
        obtain ⟨rfl, hq⟩ := hq
        have hq := hq.symm
        subst hq
        have eM : lp_M ld dg pa jo wa sr J = 360 := by unfold lp_M lp_1; rw [if_neg (show ¬ ((J = 2 ∨ J = 3) ∧ 1 < jo) by omega), if_neg b0]
        refine xa_ireturn (pc := 46) dX1_turnsBy_46 rfl trivial ?_
        rw [eM]
        exact ⟨rfl, ⟨_, _, _, _, ⟨hS0, hS1, hS2, by omega, by omega⟩, hst⟩, hn, fr⟩
      · skip
        refine xa_iload_n (pc := 17) dX1_turnsBy_17 rfl ?_
        refine xa_iload_n (pc := 18) dX1_turnsBy_18 rfl ?_
        refine xa_ishr (pc := 19) dX1_turnsBy_19 ?_
        refine xa_iconst (pc := 20) dX1_turnsBy_20 ?_
        refine xa_iand (pc := 21) dX1_turnsBy_21 ?_
        refine xa_iconst (pc := 22) dX1_turnsBy_22 ?_
        refine xa_icmp_ne (pc := 23) (tgt := 33) dX1_turnsBy_23 (by decide) (xa_ok_and _ _) (by decide) (fun c_23 => ?_) (fun c_23 => ?_)
        · skip
          have b1 : ¬ (J = 2 ∨ J = 3) := fun q => c_23 ((bitJ hJ).2.mpr q)
          refine xa_iincw (pc := 33) (y := 2) [some (xa_r k), some (xa_i J), some (xa_i 360), some (xa_i 2)] dX1_turnsBy_33 (by decide) rfl rfl rfl rfl ?_
          refine xa_goto (pc := 36) (tgt := 6) dX1_turnsBy_36 (by decide) ?_
          refine xa_iload_n (pc := 6) dX1_turnsBy_6 rfl ?_
          refine xa_aload_n (pc := 7) dX1_turnsBy_7 rfl ?_
          refine xa_getfield (pc := 8) dX1_turnsBy_8 flRX1_9 (by omega) (by omega) hL0 rfl ?_
          refine xa_getfield (pc := 11) dX1_turnsBy_11 flRX1_24 (by omega) (by omega) hB0 rfl ?_
          refine xa_icmp_ge (pc := 14) (tgt := 39) dX1_turnsBy_14 (by decide) (by decide) ⟨by omega, by omega⟩ (fun c_14 => ?_) (fun c_14 => ?_)
          · skip
            refine xa_sipush (pc := 39) dX1_turnsBy_39 rfl ?_
            refine xa_iload_n (pc := 42) dX1_turnsBy_42 rfl ?_
            refine xa_callS (pc := 43) (as := [xa_i 360, xa_i 360]) (rest := []) dX1_turnsBy_43 ⟨qX9_cut.1, qX9_cut.2.1, qX9_cut.2.2, by decide, by decide⟩ lkRX1_34 smX9_cut rfl rfl (Nat.le_of_ble_eq_true rfl) (Nat.zero_le _) (Nat.zero_le _) (c_cut _ _ (by decide) (by decide)) (fun r h' hq => ?_)
            obtain ⟨rfl, hq⟩ := hq
            have hq := hq.symm
            subst hq
            have eM : lp_M ld dg pa jo wa sr J = 360 := by unfold lp_M lp_1; rw [if_neg (show ¬ ((J = 2 ∨ J = 3) ∧ 1 < jo) from fun q => b1 q.1), if_neg b0]
            refine xa_ireturn (pc := 46) dX1_turnsBy_46 rfl trivial ?_
            rw [eM]
            exact ⟨rfl, ⟨_, _, _, _, ⟨hS0, hS1, hS2, by omega, by omega⟩, hst⟩, hn, fr⟩
          · skip
            exfalso; omega
        · skip
          have b1 : J = 2 ∨ J = 3 := (bitJ hJ).2.mp c_23
          refine xa_aload_n (pc := 26) dX1_turnsBy_26 rfl ?_
          refine xa_iload_n (pc := 27) dX1_turnsBy_27 rfl ?_
          refine xa_iload_n (pc := 28) dX1_turnsBy_28 rfl ?_
          refine xa_callV (pc := 29) (as := [xa_i 360, xa_i 1]) (rest := []) dX1_turnsBy_29 ⟨qX1_measureWith.1, qX1_measureWith.2.1, qX1_measureWith.2.2, by decide, by decide⟩ lkRX1_30 imX1_measureWith seX1_measureWith rfl rfl (by omega) (by omega) hL0 rfl (Nat.le_of_ble_eq_true rfl) (Nat.zero_le _) (Nat.zero_le _) (c_measureWith k kb 1 360 ld dg pa jo wa sr pu ri _ _ _ _ hB9 hk (by omega) hkb hkk (by omega) (by decide) hst hL0 hS0 hS1 hS2 hB0 hB1 hB2) (fun r h' hq => ?_)
          obtain ⟨rfl, ⟨po1, sp1, tj1, tb1, ⟨hS0, hS1, hS2, -, -⟩, hst1⟩, hqn, hqf⟩ := hq
          have hS0 : h'.1 (k + 1) = xa_o 4 [xa_r kb, xa_r (k + 1 + 1), xa_r (k + 1 + 2), xa_i tj1, xa_i tb1] := hS0
          have hS1 : h'.1 (k + 1 + 1) = xa_a 3 po1 := hS1
          have hS2 : h'.1 (k + 1 + 2) = xa_a 2 sp1 := hS2
          have hL0 : h'.1 k = xa_o 1 [xa_r kb, xa_r (k + 1)] := (hqf _ (by omega)).trans hL0
          have hB0 : h'.1 kb = xa_o 0 [xa_r (kb + 1), xa_r (kb + 2), xa_i ((pa : Nat) : Int), xa_i ((jo : Nat) : Int), xa_i wa, xa_i sr, xa_i pu, xa_i ri] := (hqf _ (by omega)).trans hB0
          have hB1 : h'.1 (kb + 1) = xa_a 9 ld := (hqf _ (by omega)).trans hB1
          have hB2 : h'.1 (kb + 2) = xa_a 2 dg := (hqf _ (by omega)).trans hB2
          have hn : h'.2 = h.2 := hqn.trans hn
          have fr : ∀ i, (i < k + 1 ∨ k + 4 ≤ i) → h'.1 i = h.1 i := fun i hi => (hqf i (by omega)).trans (fr i hi)
          refine xa_istoren (pc := 32) [some (xa_r k), some (xa_i J), some (xa_i ((lp_j ld dg pa wa sr 1 360 : Nat) : Int)), some (xa_i 1)] dX1_turnsBy_32 (by decide) (Nat.le_of_ble_eq_true rfl) rfl rfl ?_
          refine xa_iincw (pc := 33) (y := 2) [some (xa_r k), some (xa_i J), some (xa_i ((lp_j ld dg pa wa sr 1 360 : Nat) : Int)), some (xa_i 2)] dX1_turnsBy_33 (by decide) rfl rfl rfl rfl ?_
          refine xa_goto (pc := 36) (tgt := 6) dX1_turnsBy_36 (by decide) ?_
          refine xa_iload_n (pc := 6) dX1_turnsBy_6 rfl ?_
          refine xa_aload_n (pc := 7) dX1_turnsBy_7 rfl ?_
          refine xa_getfield (pc := 8) dX1_turnsBy_8 flRX1_9 (by omega) (by omega) hL0 rfl ?_
          refine xa_getfield (pc := 11) dX1_turnsBy_11 flRX1_24 (by omega) (by omega) hB0 rfl ?_
          refine xa_icmp_ge (pc := 14) (tgt := 39) dX1_turnsBy_14 (by decide) (by decide) ⟨by omega, by omega⟩ (fun c_14 => ?_) (fun c_14 => ?_)
          · skip
            refine xa_sipush (pc := 39) dX1_turnsBy_39 rfl ?_
            refine xa_iload_n (pc := 42) dX1_turnsBy_42 rfl ?_
            refine xa_callS (pc := 43) (as := [xa_i 360, xa_i ((lp_j ld dg pa wa sr 1 360 : Nat) : Int)]) (rest := []) dX1_turnsBy_43 ⟨qX9_cut.1, qX9_cut.2.1, qX9_cut.2.2, by decide, by decide⟩ lkRX1_34 smX9_cut rfl rfl (Nat.le_of_ble_eq_true rfl) (Nat.zero_le _) (Nat.zero_le _) (c_cut _ _ (by decide) (by have hd1 := lp_jle hB9 0 360 (by decide) (by decide); have hd2 := lp_jle hB9 1 360 (by decide) (by decide); have hd3 := lp_jle hB9 1 (lp_j ld dg pa wa sr 0 360) (Nat.pos_of_dvd_of_pos (lp_j_d hB9 0 360).1 (by decide)) hd1; omega)) (fun r h' hq => ?_)
            obtain ⟨rfl, hq⟩ := hq
            have hq := hq.symm
            subst hq
            have eM : lp_M ld dg pa jo wa sr J = lp_j ld dg pa wa sr 1 360 := by unfold lp_M lp_1; rw [if_pos (show (J = 2 ∨ J = 3) ∧ 1 < jo from ⟨b1, by omega⟩), if_neg b0]
            refine xa_ireturn (pc := 46) dX1_turnsBy_46 rfl trivial ?_
            rw [eM]
            exact ⟨rfl, ⟨_, _, _, _, ⟨hS0, hS1, hS2, by omega, by omega⟩, hst1⟩, hn, fr⟩
          · skip
            exfalso; omega
    · skip
      have b0 : J = 1 ∨ J = 3 := (bitJ hJ).1.mp c_23
      refine xa_aload_n (pc := 26) dX1_turnsBy_26 rfl ?_
      refine xa_iload_n (pc := 27) dX1_turnsBy_27 rfl ?_
      refine xa_iload_n (pc := 28) dX1_turnsBy_28 rfl ?_
      refine xa_callV (pc := 29) (as := [xa_i 360, xa_i 0]) (rest := []) dX1_turnsBy_29 ⟨qX1_measureWith.1, qX1_measureWith.2.1, qX1_measureWith.2.2, by decide, by decide⟩ lkRX1_30 imX1_measureWith seX1_measureWith rfl rfl (by omega) (by omega) hL0 rfl (Nat.le_of_ble_eq_true rfl) (Nat.zero_le _) (Nat.zero_le _) (c_measureWith k kb 0 360 ld dg pa jo wa sr pu ri _ _ _ _ hB9 hk (by omega) hkb hkk (by omega) (by decide) hst hL0 hS0 hS1 hS2 hB0 hB1 hB2) (fun r h' hq => ?_)
      obtain ⟨rfl, ⟨po2, sp2, tj2, tb2, ⟨hS0, hS1, hS2, -, -⟩, hst2⟩, hqn, hqf⟩ := hq
      have hS0 : h'.1 (k + 1) = xa_o 4 [xa_r kb, xa_r (k + 1 + 1), xa_r (k + 1 + 2), xa_i tj2, xa_i tb2] := hS0
      have hS1 : h'.1 (k + 1 + 1) = xa_a 3 po2 := hS1
      have hS2 : h'.1 (k + 1 + 2) = xa_a 2 sp2 := hS2
      have hL0 : h'.1 k = xa_o 1 [xa_r kb, xa_r (k + 1)] := (hqf _ (by omega)).trans hL0
      have hB0 : h'.1 kb = xa_o 0 [xa_r (kb + 1), xa_r (kb + 2), xa_i ((pa : Nat) : Int), xa_i ((jo : Nat) : Int), xa_i wa, xa_i sr, xa_i pu, xa_i ri] := (hqf _ (by omega)).trans hB0
      have hB1 : h'.1 (kb + 1) = xa_a 9 ld := (hqf _ (by omega)).trans hB1
      have hB2 : h'.1 (kb + 2) = xa_a 2 dg := (hqf _ (by omega)).trans hB2
      have hn : h'.2 = h.2 := hqn.trans hn
      have fr : ∀ i, (i < k + 1 ∨ k + 4 ≤ i) → h'.1 i = h.1 i := fun i hi => (hqf i (by omega)).trans (fr i hi)
      refine xa_istoren (pc := 32) [some (xa_r k), some (xa_i J), some (xa_i ((lp_j ld dg pa wa sr 0 360 : Nat) : Int)), some (xa_i 0)] dX1_turnsBy_32 (by decide) (Nat.le_of_ble_eq_true rfl) rfl rfl ?_
      refine xa_iincw (pc := 33) (y := 1) [some (xa_r k), some (xa_i J), some (xa_i ((lp_j ld dg pa wa sr 0 360 : Nat) : Int)), some (xa_i 1)] dX1_turnsBy_33 (by decide) rfl rfl rfl rfl ?_
      refine xa_goto (pc := 36) (tgt := 6) dX1_turnsBy_36 (by decide) ?_
      refine xa_iload_n (pc := 6) dX1_turnsBy_6 rfl ?_
      refine xa_aload_n (pc := 7) dX1_turnsBy_7 rfl ?_
      refine xa_getfield (pc := 8) dX1_turnsBy_8 flRX1_9 (by omega) (by omega) hL0 rfl ?_
      refine xa_getfield (pc := 11) dX1_turnsBy_11 flRX1_24 (by omega) (by omega) hB0 rfl ?_
      refine xa_icmp_ge (pc := 14) (tgt := 39) dX1_turnsBy_14 (by decide) (by decide) ⟨by omega, by omega⟩ (fun c_14 => ?_) (fun c_14 => ?_)
      · skip
        refine xa_sipush (pc := 39) dX1_turnsBy_39 rfl ?_
        refine xa_iload_n (pc := 42) dX1_turnsBy_42 rfl ?_
        refine xa_callS (pc := 43) (as := [xa_i 360, xa_i ((lp_j ld dg pa wa sr 0 360 : Nat) : Int)]) (rest := []) dX1_turnsBy_43 ⟨qX9_cut.1, qX9_cut.2.1, qX9_cut.2.2, by decide, by decide⟩ lkRX1_34 smX9_cut rfl rfl (Nat.le_of_ble_eq_true rfl) (Nat.zero_le _) (Nat.zero_le _) (c_cut _ _ (by decide) (by have hd1 := lp_jle hB9 0 360 (by decide) (by decide); have hd2 := lp_jle hB9 1 360 (by decide) (by decide); have hd3 := lp_jle hB9 1 (lp_j ld dg pa wa sr 0 360) (Nat.pos_of_dvd_of_pos (lp_j_d hB9 0 360).1 (by decide)) hd1; omega)) (fun r h' hq => ?_)
        obtain ⟨rfl, hq⟩ := hq
        have hq := hq.symm
        subst hq
        have eM : lp_M ld dg pa jo wa sr J = lp_j ld dg pa wa sr 0 360 := by unfold lp_M lp_1; rw [if_neg (show ¬ ((J = 2 ∨ J = 3) ∧ 1 < jo) by omega), if_pos b0]
        refine xa_ireturn (pc := 46) dX1_turnsBy_46 rfl trivial ?_
        rw [eM]
        exact ⟨rfl, ⟨_, _, _, _, ⟨hS0, hS1, hS2, by omega, by omega⟩, hst2⟩, hn, fr⟩
      · skip
        refine xa_iload_n (pc := 17) dX1_turnsBy_17 rfl ?_
        refine xa_iload_n (pc := 18) dX1_turnsBy_18 rfl ?_
        refine xa_ishr (pc := 19) dX1_turnsBy_19 ?_
        refine xa_iconst (pc := 20) dX1_turnsBy_20 ?_
        refine xa_iand (pc := 21) dX1_turnsBy_21 ?_
        refine xa_iconst (pc := 22) dX1_turnsBy_22 ?_
        refine xa_icmp_ne (pc := 23) (tgt := 33) dX1_turnsBy_23 (by decide) (xa_ok_and _ _) (by decide) (fun c_23 => ?_) (fun c_23 => ?_)
        · skip
          have b1 : ¬ (J = 2 ∨ J = 3) := fun q => c_23 ((bitJ hJ).2.mpr q)
          refine xa_iincw (pc := 33) (y := 2) [some (xa_r k), some (xa_i J), some (xa_i ((lp_j ld dg pa wa sr 0 360 : Nat) : Int)), some (xa_i 2)] dX1_turnsBy_33 (by decide) rfl rfl rfl rfl ?_
          refine xa_goto (pc := 36) (tgt := 6) dX1_turnsBy_36 (by decide) ?_
          refine xa_iload_n (pc := 6) dX1_turnsBy_6 rfl ?_
          refine xa_aload_n (pc := 7) dX1_turnsBy_7 rfl ?_
          refine xa_getfield (pc := 8) dX1_turnsBy_8 flRX1_9 (by omega) (by omega) hL0 rfl ?_
          refine xa_getfield (pc := 11) dX1_turnsBy_11 flRX1_24 (by omega) (by omega) hB0 rfl ?_
          refine xa_icmp_ge (pc := 14) (tgt := 39) dX1_turnsBy_14 (by decide) (by decide) ⟨by omega, by omega⟩ (fun c_14 => ?_) (fun c_14 => ?_)
          · skip
            refine xa_sipush (pc := 39) dX1_turnsBy_39 rfl ?_
            refine xa_iload_n (pc := 42) dX1_turnsBy_42 rfl ?_
            refine xa_callS (pc := 43) (as := [xa_i 360, xa_i ((lp_j ld dg pa wa sr 0 360 : Nat) : Int)]) (rest := []) dX1_turnsBy_43 ⟨qX9_cut.1, qX9_cut.2.1, qX9_cut.2.2, by decide, by decide⟩ lkRX1_34 smX9_cut rfl rfl (Nat.le_of_ble_eq_true rfl) (Nat.zero_le _) (Nat.zero_le _) (c_cut _ _ (by decide) (by have hd1 := lp_jle hB9 0 360 (by decide) (by decide); have hd2 := lp_jle hB9 1 360 (by decide) (by decide); have hd3 := lp_jle hB9 1 (lp_j ld dg pa wa sr 0 360) (Nat.pos_of_dvd_of_pos (lp_j_d hB9 0 360).1 (by decide)) hd1; omega)) (fun r h' hq => ?_)
            obtain ⟨rfl, hq⟩ := hq
            have hq := hq.symm
            subst hq
            have eM : lp_M ld dg pa jo wa sr J = lp_j ld dg pa wa sr 0 360 := by unfold lp_M lp_1; rw [if_neg (show ¬ ((J = 2 ∨ J = 3) ∧ 1 < jo) from fun q => b1 q.1), if_pos b0]
            refine xa_ireturn (pc := 46) dX1_turnsBy_46 rfl trivial ?_
            rw [eM]
            exact ⟨rfl, ⟨_, _, _, _, ⟨hS0, hS1, hS2, by omega, by omega⟩, hst2⟩, hn, fr⟩
          · skip
            exfalso; omega
        · skip
          have b1 : J = 2 ∨ J = 3 := (bitJ hJ).2.mp c_23
          have hM1 : 0 < lp_j ld dg pa wa sr 0 360 ∧ lp_j ld dg pa wa sr 0 360 ≤ 360 := by
            have hd := (lp_j_d hB9 0 360).1
            exact ⟨Nat.pos_of_dvd_of_pos hd (by decide), Nat.le_of_dvd (by decide) hd⟩
          refine xa_aload_n (pc := 26) dX1_turnsBy_26 rfl ?_
          refine xa_iload_n (pc := 27) dX1_turnsBy_27 rfl ?_
          refine xa_iload_n (pc := 28) dX1_turnsBy_28 rfl ?_
          refine xa_callV (pc := 29) (as := [xa_i ((lp_j ld dg pa wa sr 0 360 : Nat) : Int), xa_i 1]) (rest := []) dX1_turnsBy_29 ⟨qX1_measureWith.1, qX1_measureWith.2.1, qX1_measureWith.2.2, by decide, by decide⟩ lkRX1_30 imX1_measureWith seX1_measureWith rfl rfl (by omega) (by omega) hL0 rfl (Nat.le_of_ble_eq_true rfl) (Nat.zero_le _) (Nat.zero_le _) (c_measureWith k kb 1 (lp_j ld dg pa wa sr 0 360) ld dg pa jo wa sr pu ri _ _ _ _ hB9 hk (by omega) hkb hkk (by omega) hM1 hst2 hL0 hS0 hS1 hS2 hB0 hB1 hB2) (fun r h' hq => ?_)
          obtain ⟨rfl, ⟨po3, sp3, tj3, tb3, ⟨hS0, hS1, hS2, -, -⟩, hst3⟩, hqn, hqf⟩ := hq
          have hS0 : h'.1 (k + 1) = xa_o 4 [xa_r kb, xa_r (k + 1 + 1), xa_r (k + 1 + 2), xa_i tj3, xa_i tb3] := hS0
          have hS1 : h'.1 (k + 1 + 1) = xa_a 3 po3 := hS1
          have hS2 : h'.1 (k + 1 + 2) = xa_a 2 sp3 := hS2
          have hL0 : h'.1 k = xa_o 1 [xa_r kb, xa_r (k + 1)] := (hqf _ (by omega)).trans hL0
          have hB0 : h'.1 kb = xa_o 0 [xa_r (kb + 1), xa_r (kb + 2), xa_i ((pa : Nat) : Int), xa_i ((jo : Nat) : Int), xa_i wa, xa_i sr, xa_i pu, xa_i ri] := (hqf _ (by omega)).trans hB0
          have hB1 : h'.1 (kb + 1) = xa_a 9 ld := (hqf _ (by omega)).trans hB1
          have hB2 : h'.1 (kb + 2) = xa_a 2 dg := (hqf _ (by omega)).trans hB2
          have hn : h'.2 = h.2 := hqn.trans hn
          have fr : ∀ i, (i < k + 1 ∨ k + 4 ≤ i) → h'.1 i = h.1 i := fun i hi => (hqf i (by omega)).trans (fr i hi)
          refine xa_istoren (pc := 32) [some (xa_r k), some (xa_i J), some (xa_i ((lp_j ld dg pa wa sr 1 (lp_j ld dg pa wa sr 0 360) : Nat) : Int)), some (xa_i 1)] dX1_turnsBy_32 (by decide) (Nat.le_of_ble_eq_true rfl) rfl rfl ?_
          refine xa_iincw (pc := 33) (y := 2) [some (xa_r k), some (xa_i J), some (xa_i ((lp_j ld dg pa wa sr 1 (lp_j ld dg pa wa sr 0 360) : Nat) : Int)), some (xa_i 2)] dX1_turnsBy_33 (by decide) rfl rfl rfl rfl ?_
          refine xa_goto (pc := 36) (tgt := 6) dX1_turnsBy_36 (by decide) ?_
          refine xa_iload_n (pc := 6) dX1_turnsBy_6 rfl ?_
          refine xa_aload_n (pc := 7) dX1_turnsBy_7 rfl ?_
          refine xa_getfield (pc := 8) dX1_turnsBy_8 flRX1_9 (by omega) (by omega) hL0 rfl ?_
          refine xa_getfield (pc := 11) dX1_turnsBy_11 flRX1_24 (by omega) (by omega) hB0 rfl ?_
          refine xa_icmp_ge (pc := 14) (tgt := 39) dX1_turnsBy_14 (by decide) (by decide) ⟨by omega, by omega⟩ (fun c_14 => ?_) (fun c_14 => ?_)
          · skip
            refine xa_sipush (pc := 39) dX1_turnsBy_39 rfl ?_
            refine xa_iload_n (pc := 42) dX1_turnsBy_42 rfl ?_
            refine xa_callS (pc := 43) (as := [xa_i 360, xa_i ((lp_j ld dg pa wa sr 1 (lp_j ld dg pa wa sr 0 360) : Nat) : Int)]) (rest := []) dX1_turnsBy_43 ⟨qX9_cut.1, qX9_cut.2.1, qX9_cut.2.2, by decide, by decide⟩ lkRX1_34 smX9_cut rfl rfl (Nat.le_of_ble_eq_true rfl) (Nat.zero_le _) (Nat.zero_le _) (c_cut _ _ (by decide) (by have hd1 := lp_jle hB9 0 360 (by decide) (by decide); have hd2 := lp_jle hB9 1 360 (by decide) (by decide); have hd3 := lp_jle hB9 1 (lp_j ld dg pa wa sr 0 360) (Nat.pos_of_dvd_of_pos (lp_j_d hB9 0 360).1 (by decide)) hd1; omega)) (fun r h' hq => ?_)
            obtain ⟨rfl, hq⟩ := hq
            have hq := hq.symm
            subst hq
            have eM : lp_M ld dg pa jo wa sr J = lp_j ld dg pa wa sr 1 (lp_j ld dg pa wa sr 0 360) := by unfold lp_M lp_1; rw [if_pos (show (J = 2 ∨ J = 3) ∧ 1 < jo from ⟨b1, by omega⟩), if_pos b0]
            refine xa_ireturn (pc := 46) dX1_turnsBy_46 rfl trivial ?_
            rw [eM]
            exact ⟨rfl, ⟨_, _, _, _, ⟨hS0, hS1, hS2, by omega, by omega⟩, hst3⟩, hn, fr⟩
          · skip
            exfalso; omega
