/-! The class: heads -/
set_option maxHeartbeats 4000000 in
theorem c_land_loop {G : xa_G} {h0 : xa_H} {k : Nat} {kp : Int} {ld dg : Nat → Int} {pa jo : Nat} {wa sr pu ri : Int} {mv le fi : Nat → Int} {pc : Nat} {n : Int} (hB9 : vB ld dg pa jo wa sr pu ri) (hmvb : ∀ i, 0 ≤ mv i ∧ mv i ≤ 18) (hle : ∀ i, 0 ≤ le i ∧ le i ≤ 60) (hfi : fiOk pa fi pc) (hk : 2 ≤ k) (hn : 0 ≤ n ∧ n ≤ 60) : ∀ (d : Nat) (w : Nat) (ln tu lo dr : Nat → Int) (dn : Nat) (al : Int) (po sp : Nat → Int) (tj tb : Int) (h : xa_H), 4 - w < d → (w ≤ 4) → (∀ w1, w1 < w → lnI ld dg pa jo wa sr pu ri mv le (n * pu.tdiv (cf_all ld pa (cf_rest pa))) w1 (ln w1)) → (∀ i, 0 ≤ po i ∧ po i ≤ 2) → (∀ i, -2 ≤ sp i ∧ sp i ≤ 12) → (tj = 0 ∨ tj = 1) → (dr 0 = 0) → (h.2 = h0.2) → (k + 71 < h.2) → (h.1 k = xa_o 9 [xa_r (k + 1), xa_r (k + 3), xa_r (k + 6), xa_r (k + 9), xa_r (k + 11), xa_r (k + 15), xa_i kp, xa_r (k + 24), xa_r (k + 31), xa_r (k + 32), xa_r (k + 36), xa_r (k + 48), xa_r (k + 60)]) → (h.1 (k + 3) = xa_o 0 [xa_r (k + 3 + 1), xa_r (k + 3 + 2), xa_i ((pa : Nat) : Int), xa_i ((jo : Nat) : Int), xa_i wa, xa_i sr, xa_i pu, xa_i ri]) → (h.1 (k + 3 + 1) = xa_a 9 ld) → (h.1 (k + 3 + 2) = xa_a 2 dg) → (h.1 (k + 11) = xa_o 5 [xa_r (k + 11 + 1), xa_r (k + 11 + 2), xa_r (k + 11 + 3), xa_i ((pc : Nat) : Int)]) → (h.1 (k + 11 + 1) = xa_a 240 mv) → (h.1 (k + 11 + 2) = xa_a 4 le) → (h.1 (k + 11 + 3) = xa_a 120 fi) → (h.1 (k + 24) = xa_o 8 [xa_r (k + 24 + 4), xa_r (k + 3), xa_r (k + 24 + 1), xa_r (k + 24 + 2), xa_r (k + 24 + 3), xa_i ((dn : Nat) : Int), xa_i al]) → (h.1 (k + 24 + 1) = xa_a 183 tu) → (h.1 (k + 24 + 2) = xa_a 61 lo) → (h.1 (k + 24 + 3) = xa_a 61 dr) → (h.1 (k + 24 + 4) = xa_o 4 [xa_r (k + 3), xa_r (k + 24 + 4 + 1), xa_r (k + 24 + 4 + 2), xa_i tj, xa_i tb]) → (h.1 (k + 24 + 4 + 1) = xa_a 3 po) → (h.1 (k + 24 + 4 + 2) = xa_a 2 sp) → (h.1 (k + 31) = xa_a 4 ln) → (∀ i, (i < k + 24 ∨ k + 32 ≤ i) → h.1 i = h0.1 i) → xa_W G mX9_findLandings (xa_Z G (fun r h' => r = none ∧ (∃ ln' : Nat → Int, (∀ w1, w1 < 4 → lnI ld dg pa jo wa sr pu ri mv le (n * pu.tdiv (cf_all ld pa (cf_rest pa))) w1 (ln' w1)) ∧ h'.1 (k + 31) = xa_a 4 ln') ∧ xTS h' k ∧ h'.2 = h0.2 ∧ ∀ i, (i < k + 24 ∨ k + 32 ≤ i) → h'.1 i = h0.1 i)) 22 [some (xa_r k), some (xa_i n), some (xa_i (n * pu.tdiv (cf_all ld pa (cf_rest pa)))), some (xa_i ((w : Nat) : Int))] [] h 0 0 := by
  intro d
  induction d with
  | zero => intros; exfalso; omega
  | succ d ih =>
    intro w ln tu lo dr dn al po sp tj tb h hd hw4 hLN hpo hsp htj hdr0 hn0 hkn hX0 hB0 hB1 hB2 hH0 hH1 hH2 hH3 hT0 hT1 hT2 hT3 hS0 hS1 hS2 hN0 fr0
    have hnn := hn
    have hn : h.2 = h.2 := rfl
    have fr : ∀ i, (i < k + 24 ∨ k + 32 ≤ i) → h.1 i = h.1 i := fun _ _ => rfl
    have h0' := hB9.1
    have hw9 := hB9.wag
    have hwa : xa_ok wa := by omega
    have hsr : 0 ≤ sr ∧ sr ≤ 12 := by omega
    have hpu := hB9.2.2.2.2.2.2.1
    have hri := hB9.2.2.2.2.2.2.2
    clear hw9
    have hlb : -600000 ≤ (n * pu.tdiv (cf_all ld pa (cf_rest pa))) ∧ (n * pu.tdiv (cf_all ld pa (cf_rest pa))) ≤ 600000 := mul_b60 hnn (tdiv_b hpu (by have := cf_all_b hB9 (cf_rest_ok hB9); omega))
    refine xa_iload_n (pc := 22) dX9_findLandings_22 rfl ?_
    refine xa_aload_n (pc := 23) dX9_findLandings_23 rfl ?_
    refine xa_getfield (pc := 24) dX9_findLandings_24 flRX9_55 (by omega) (by omega) hX0 rfl ?_
    refine xa_alen (pc := 27) dX9_findLandings_27 (by omega) hN0 ?_
    refine xa_top (y := 4) rfl ?_
    refine xa_icmp_ge (pc := 28) (tgt := 120) dX9_findLandings_28 (by decide) ⟨by omega, by omega⟩ (by decide) (fun c_28 => ?_) (fun c_28 => ?_)
    · skip
      refine xa_return (pc := 120) dX9_findLandings_120 rfl ?_
      have hw9 : w = 4 := by omega
      subst hw9
      exact ⟨rfl, ⟨ln, hLN, hN0⟩, ⟨tu, lo, dr, dn, al, po, sp, tj, tb, ⟨hT0, hT1, hT2, hT3, by omega, by omega⟩, ⟨hS0, hS1, hS2, by omega, by omega⟩, hpo, hsp, htj, hdr0⟩, by omega, fun i hi => (fr i hi).trans (fr0 i hi)⟩
    · skip
      refine xa_aload_n (pc := 31) dX9_findLandings_31 rfl ?_
      refine xa_getfield (pc := 32) dX9_findLandings_32 flRX9_51 (by omega) (by omega) hX0 rfl ?_
      refine xa_aload_n (pc := 35) dX9_findLandings_35 rfl ?_
      refine xa_getfield (pc := 36) dX9_findLandings_36 flRX9_38 (by omega) (by omega) hX0 rfl ?_
      refine xa_iload_n (pc := 39) dX9_findLandings_39 rfl ?_
      refine xa_callV (pc := 40) (as := [xa_r (k + 11), xa_i ((w : Nat) : Int)]) (rest := []) dX9_findLandings_40 ⟨qX8_follow.1, qX8_follow.2.1, qX8_follow.2.2, by decide, by decide⟩ lkRX9_166 imX8_follow seX8_follow rfl rfl (by omega) (by omega) hT0 rfl (Nat.le_of_ble_eq_true rfl) (Nat.zero_le _) (Nat.zero_le _) (c_follow (k + 24) (k + 3) (k + 11) w tu lo dr ld dg mv le fi po sp dn pa jo pc al wa sr pu ri tj tb (by omega) (by omega) (by omega) (by omega) (by omega) hwa hsr hB9.2.1 hB9.2.2.2.1 hmvb hle hpo hsp htj ⟨hT0, hT1, hT2, hT3, by omega, by omega⟩ ⟨hS0, hS1, hS2, by omega, by omega⟩ ⟨hB0, hB1, hB2, by omega, by omega⟩ ⟨hH0, hH1, hH2, hH3, by omega, by omega⟩) (fun r h' hq => ?_)
      obtain ⟨rfl, m, t1, u1, tu1, lo1, hm, htr, hno, harr, hok1, ⟨hT0, hT1, hT2, hT3, -, -⟩, ⟨hS0, hS1, hS2, -, -⟩, hqn, hqf⟩ := hq
      have hT0 : h'.1 (k + 24) = xa_o 8 [xa_r (k + 24 + 4), xa_r (k + 3), xa_r (k + 24 + 1), xa_r (k + 24 + 2), xa_r (k + 24 + 3), xa_i ((m : Nat) : Int), xa_i (xa_b (m = (le w).toNat))] := hT0
      have hT1 : h'.1 (k + 24 + 1) = xa_a 183 tu1 := hT1
      have hT2 : h'.1 (k + 24 + 2) = xa_a 61 lo1 := hT2
      have hT3 : h'.1 (k + 24 + 3) = xa_a 61 dr := hT3
      have hS0 : h'.1 (k + 24 + 4) = xa_o 4 [xa_r (k + 3), xa_r (k + 24 + 4 + 1), xa_r (k + 24 + 4 + 2), xa_i t1.2.2.1, xa_i t1.2.2.2] := hS0
      have hS1 : h'.1 (k + 24 + 4 + 1) = xa_a 3 t1.1 := hS1
      have hS2 : h'.1 (k + 24 + 4 + 2) = xa_a 2 t1.2.1 := hS2
      have hX0 : h'.1 k = xa_o 9 [xa_r (k + 1), xa_r (k + 3), xa_r (k + 6), xa_r (k + 9), xa_r (k + 11), xa_r (k + 15), xa_i kp, xa_r (k + 24), xa_r (k + 31), xa_r (k + 32), xa_r (k + 36), xa_r (k + 48), xa_r (k + 60)] := (hqf _ (by omega)).trans hX0
      have hB0 : h'.1 (k + 3) = xa_o 0 [xa_r (k + 3 + 1), xa_r (k + 3 + 2), xa_i ((pa : Nat) : Int), xa_i ((jo : Nat) : Int), xa_i wa, xa_i sr, xa_i pu, xa_i ri] := (hqf _ (by omega)).trans hB0
      have hB1 : h'.1 (k + 3 + 1) = xa_a 9 ld := (hqf _ (by omega)).trans hB1
      have hB2 : h'.1 (k + 3 + 2) = xa_a 2 dg := (hqf _ (by omega)).trans hB2
      have hH0 : h'.1 (k + 11) = xa_o 5 [xa_r (k + 11 + 1), xa_r (k + 11 + 2), xa_r (k + 11 + 3), xa_i ((pc : Nat) : Int)] := (hqf _ (by omega)).trans hH0
      have hH1 : h'.1 (k + 11 + 1) = xa_a 240 mv := (hqf _ (by omega)).trans hH1
      have hH2 : h'.1 (k + 11 + 2) = xa_a 4 le := (hqf _ (by omega)).trans hH2
      have hH3 : h'.1 (k + 11 + 3) = xa_a 120 fi := (hqf _ (by omega)).trans hH3
      have hN0 : h'.1 (k + 31) = xa_a 4 ln := (hqf _ (by omega)).trans hN0
      have hn : h'.2 = h.2 := hqn.trans hn
      have fr : ∀ i, (i < k + 24 ∨ k + 32 ≤ i) → h'.1 i = h.1 i := fun i hi => (hqf i (by omega)).trans (fr i hi)
      have hlw := hle w
      obtain ⟨c1, has1, hfw0⟩ := fw_all (ms := fun n => sp_mvat mv ((w : Nat) : Int) ((n : Nat) : Int)) hB9 (fun i => sp_mvat_b hmvb _ _) hm htr hno harr
      have hfw : fwR ld dg pa jo wa sr (wy mv ((w : Nat) : Int)) (le w).toNat m c1 u1 tu1 lo1 := hfw0.ext (fun i hi => mvat_wy mv (by omega) (by omega))
      clear htr hno harr hfw0
      refine xa_aload_n (pc := 43) dX9_findLandings_43 rfl ?_
      refine xa_getfield (pc := 44) dX9_findLandings_44 flRX9_51 (by omega) (by omega) hX0 rfl ?_
      refine xa_aload_n (pc := 47) dX9_findLandings_47 rfl ?_
      refine xa_getfield (pc := 48) dX9_findLandings_48 flRX9_19 (by omega) (by omega) hX0 rfl ?_
      refine xa_getfield (pc := 51) dX9_findLandings_51 flRX9_144 (by omega) (by omega) hB0 rfl ?_
      refine xa_callV (pc := 54) (as := [xa_i pu]) (rest := []) dX9_findLandings_54 ⟨qX8_drift.1, qX8_drift.2.1, qX8_drift.2.2, by decide, by decide⟩ lkRX9_173 imX8_drift seX8_drift rfl rfl (by omega) (by omega) hT0 rfl (Nat.le_of_ble_eq_true rfl) (Nat.zero_le _) (Nat.zero_le _) (c_drift2 _ _ _ _ _ _ _ _ (by omega) (fun i hi => hfw.lo_b hB9 hi) hpu ⟨hT0, hT1, hT2, hT3, by omega, by omega⟩) (fun r h' hq => ?_)
      obtain ⟨rfl, ⟨hT0, hT1, hT2, hT3, -, -⟩, hqn, hqf⟩ := hq
      have hT0 : h'.1 (k + 24) = xa_o 8 [xa_r (k + 24 + 4), xa_r (k + 3), xa_r (k + 24 + 1), xa_r (k + 24 + 2), xa_r (k + 24 + 3), xa_i ((m : Nat) : Int), xa_i (xa_b (m = (le w).toNat))] := hT0
      have hT1 : h'.1 (k + 24 + 1) = xa_a 183 tu1 := hT1
      have hT2 : h'.1 (k + 24 + 2) = xa_a 61 lo1 := hT2
      have hT3 : h'.1 (k + 24 + 3) = xa_a 61 (sp_drf dr pu lo1 m) := hT3
      have hX0 : h'.1 k = xa_o 9 [xa_r (k + 1), xa_r (k + 3), xa_r (k + 6), xa_r (k + 9), xa_r (k + 11), xa_r (k + 15), xa_i kp, xa_r (k + 24), xa_r (k + 31), xa_r (k + 32), xa_r (k + 36), xa_r (k + 48), xa_r (k + 60)] := (hqf _ (by omega)).trans hX0
      have hB0 : h'.1 (k + 3) = xa_o 0 [xa_r (k + 3 + 1), xa_r (k + 3 + 2), xa_i ((pa : Nat) : Int), xa_i ((jo : Nat) : Int), xa_i wa, xa_i sr, xa_i pu, xa_i ri] := (hqf _ (by omega)).trans hB0
      have hB1 : h'.1 (k + 3 + 1) = xa_a 9 ld := (hqf _ (by omega)).trans hB1
      have hB2 : h'.1 (k + 3 + 2) = xa_a 2 dg := (hqf _ (by omega)).trans hB2
      have hH0 : h'.1 (k + 11) = xa_o 5 [xa_r (k + 11 + 1), xa_r (k + 11 + 2), xa_r (k + 11 + 3), xa_i ((pc : Nat) : Int)] := (hqf _ (by omega)).trans hH0
      have hH1 : h'.1 (k + 11 + 1) = xa_a 240 mv := (hqf _ (by omega)).trans hH1
      have hH2 : h'.1 (k + 11 + 2) = xa_a 4 le := (hqf _ (by omega)).trans hH2
      have hH3 : h'.1 (k + 11 + 3) = xa_a 120 fi := (hqf _ (by omega)).trans hH3
      have hS0 : h'.1 (k + 24 + 4) = xa_o 4 [xa_r (k + 3), xa_r (k + 24 + 4 + 1), xa_r (k + 24 + 4 + 2), xa_i t1.2.2.1, xa_i t1.2.2.2] := (hqf _ (by omega)).trans hS0
      have hS1 : h'.1 (k + 24 + 4 + 1) = xa_a 3 t1.1 := (hqf _ (by omega)).trans hS1
      have hS2 : h'.1 (k + 24 + 4 + 2) = xa_a 2 t1.2.1 := (hqf _ (by omega)).trans hS2
      have hN0 : h'.1 (k + 31) = xa_a 4 ln := (hqf _ (by omega)).trans hN0
      have hn : h'.2 = h.2 := hqn.trans hn
      have fr : ∀ i, (i < k + 24 ∨ k + 32 ≤ i) → h'.1 i = h.1 i := fun i hi => (hqf i (by omega)).trans (fr i hi)
      refine xa_aload_n (pc := 57) dX9_findLandings_57 rfl ?_
      refine xa_getfield (pc := 58) dX9_findLandings_58 flRX9_55 (by omega) (by omega) hX0 rfl ?_
      refine xa_iload_n (pc := 61) dX9_findLandings_61 rfl ?_
      refine xa_aload_n (pc := 62) dX9_findLandings_62 rfl ?_
      refine xa_getfield (pc := 63) dX9_findLandings_63 flRX9_51 (by omega) (by omega) hX0 rfl ?_
      refine xa_getfield (pc := 66) dX9_findLandings_66 flRX9_185 (by omega) (by omega) hT0 rfl ?_
      refine xa_if_eq (pc := 69) (tgt := 111) dX9_findLandings_69 (by decide) xa_okb (fun c_69 => ?_) (fun c_69 => ?_)
      · have c_69 := xa_b0.mp c_69
        refine xa_bipush (pc := 111) dX9_findLandings_111 rfl ?_
        refine xa_iastw (pc := 113) w dX9_findLandings_113 (by omega) (by omega) hN0 (by omega) (by omega) (Int.toNat_natCast _) (fun h1 nh1 ch1 oh1 => ?_)
        have hN0 : h1.1 (k + 31) = xa_a 4 (xa_upf ln w (-4)) := ch1
        have hX0 : h1.1 k = xa_o 9 [xa_r (k + 1), xa_r (k + 3), xa_r (k + 6), xa_r (k + 9), xa_r (k + 11), xa_r (k + 15), xa_i kp, xa_r (k + 24), xa_r (k + 31), xa_r (k + 32), xa_r (k + 36), xa_r (k + 48), xa_r (k + 60)] := (oh1 _ (by omega)).trans hX0
        have hB0 : h1.1 (k + 3) = xa_o 0 [xa_r (k + 3 + 1), xa_r (k + 3 + 2), xa_i ((pa : Nat) : Int), xa_i ((jo : Nat) : Int), xa_i wa, xa_i sr, xa_i pu, xa_i ri] := (oh1 _ (by omega)).trans hB0
        have hB1 : h1.1 (k + 3 + 1) = xa_a 9 ld := (oh1 _ (by omega)).trans hB1
        have hB2 : h1.1 (k + 3 + 2) = xa_a 2 dg := (oh1 _ (by omega)).trans hB2
        have hH0 : h1.1 (k + 11) = xa_o 5 [xa_r (k + 11 + 1), xa_r (k + 11 + 2), xa_r (k + 11 + 3), xa_i ((pc : Nat) : Int)] := (oh1 _ (by omega)).trans hH0
        have hH1 : h1.1 (k + 11 + 1) = xa_a 240 mv := (oh1 _ (by omega)).trans hH1
        have hH2 : h1.1 (k + 11 + 2) = xa_a 4 le := (oh1 _ (by omega)).trans hH2
        have hH3 : h1.1 (k + 11 + 3) = xa_a 120 fi := (oh1 _ (by omega)).trans hH3
        have hT0 : h1.1 (k + 24) = xa_o 8 [xa_r (k + 24 + 4), xa_r (k + 3), xa_r (k + 24 + 1), xa_r (k + 24 + 2), xa_r (k + 24 + 3), xa_i ((m : Nat) : Int), xa_i (xa_b (m = (le w).toNat))] := (oh1 _ (by omega)).trans hT0
        have hT1 : h1.1 (k + 24 + 1) = xa_a 183 tu1 := (oh1 _ (by omega)).trans hT1
        have hT2 : h1.1 (k + 24 + 2) = xa_a 61 lo1 := (oh1 _ (by omega)).trans hT2
        have hT3 : h1.1 (k + 24 + 3) = xa_a 61 (sp_drf dr pu lo1 m) := (oh1 _ (by omega)).trans hT3
        have hS0 : h1.1 (k + 24 + 4) = xa_o 4 [xa_r (k + 3), xa_r (k + 24 + 4 + 1), xa_r (k + 24 + 4 + 2), xa_i t1.2.2.1, xa_i t1.2.2.2] := (oh1 _ (by omega)).trans hS0
        have hS1 : h1.1 (k + 24 + 4 + 1) = xa_a 3 t1.1 := (oh1 _ (by omega)).trans hS1
        have hS2 : h1.1 (k + 24 + 4 + 2) = xa_a 2 t1.2.1 := (oh1 _ (by omega)).trans hS2
        have hn : h1.2 = h.2 := nh1.trans hn
        have fr : ∀ i, (i < k + 24 ∨ k + 32 ≤ i) → h1.1 i = h.1 i := fun i hi => (oh1 i (by omega)).trans (fr i hi)
        refine xa_iincw (pc := 114) (y := ((w + 1 : Nat) : Int)) [some (xa_r k), some (xa_i n), some (xa_i (n * pu.tdiv (cf_all ld pa (cf_rest pa)))), some (xa_i ((w + 1 : Nat) : Int))] dX9_findLandings_114 (by decide) rfl rfl (by omega) rfl ?_
        refine xa_goto (pc := 117) (tgt := 22) dX9_findLandings_117 (by decide) ?_
        exact ih (w + 1) _ tu1 lo1 _ m _ t1.1 t1.2.1 t1.2.2.1 t1.2.2.2 _ (by omega) (by omega) (fun w1 hw1 => by
          by_cases e : w1 = w
          · subst e
            rw [xa_upf_at]
            first | exact ln_ns hfw c_69 c_82 | exact ln_no hfw c_69
          · rw [xa_upf_ne _ _ e]
            exact hLN w1 (by omega)) hok1.1 hok1.2.1 hok1.2.2.1 (drf_z hdr0) (by omega) (by omega) hX0 hB0 hB1 hB2 hH0 hH1 hH2 hH3 hT0 hT1 hT2 hT3 hS0 hS1 hS2 hN0 (fun i hi => (fr i hi).trans (fr0 i hi))
      · have c_69 := xa_b1.mp c_69
        refine xa_aload_n (pc := 72) dX9_findLandings_72 rfl ?_
        refine xa_getfield (pc := 73) dX9_findLandings_73 flRX9_51 (by omega) (by omega) hX0 rfl ?_
        refine xa_getfield (pc := 76) dX9_findLandings_76 flRX9_192 (by omega) (by omega) hT0 rfl ?_
        refine xa_callV (pc := 79) (as := []) (rest := [xa_i ((w : Nat) : Int), xa_r (k + 31)]) dX9_findLandings_79 ⟨qX4_isStraight.1, qX4_isStraight.2.1, qX4_isStraight.2.2, by decide, by decide⟩ lkRX9_196 imX4_isStraight seX4_isStraight rfl rfl (by omega) (by omega) hS0 rfl (Nat.le_of_ble_eq_true rfl) (Nat.zero_le _) (Nat.zero_le _) (c_isStraight _ _ _ _ _ _ _ _ _ _ _ _ _ _ ⟨hS0, hS1, hS2, by omega, by omega⟩ ⟨hB0, hB1, hB2, by omega, by omega⟩ (by omega) (by omega) (by omega) hok1.2.1) (fun r h' hq => ?_)
        obtain ⟨hq1, hq⟩ := hq
        have hq := hq.symm
        subst hq
        rw [xa_bc (show sp_strB t1.2.1 jo = true ↔ (c1.2.2.2.1 = 0 ∧ c1.2.2.2.2 = 0) from cf_strB hB9 hfw.2.1 has1)] at hq1
        subst hq1
        refine xa_if_eq (pc := 82) (tgt := 111) dX9_findLandings_82 (by decide) xa_okb (fun c_82 => ?_) (fun c_82 => ?_)
        · have c_82 := xa_b0.mp c_82
          refine xa_bipush (pc := 111) dX9_findLandings_111 rfl ?_
          refine xa_iastw (pc := 113) w dX9_findLandings_113 (by omega) (by omega) hN0 (by omega) (by omega) (Int.toNat_natCast _) (fun h2 nh2 ch2 oh2 => ?_)
          have hN0 : h2.1 (k + 31) = xa_a 4 (xa_upf ln w (-4)) := ch2
          have hX0 : h2.1 k = xa_o 9 [xa_r (k + 1), xa_r (k + 3), xa_r (k + 6), xa_r (k + 9), xa_r (k + 11), xa_r (k + 15), xa_i kp, xa_r (k + 24), xa_r (k + 31), xa_r (k + 32), xa_r (k + 36), xa_r (k + 48), xa_r (k + 60)] := (oh2 _ (by omega)).trans hX0
          have hB0 : h2.1 (k + 3) = xa_o 0 [xa_r (k + 3 + 1), xa_r (k + 3 + 2), xa_i ((pa : Nat) : Int), xa_i ((jo : Nat) : Int), xa_i wa, xa_i sr, xa_i pu, xa_i ri] := (oh2 _ (by omega)).trans hB0
          have hB1 : h2.1 (k + 3 + 1) = xa_a 9 ld := (oh2 _ (by omega)).trans hB1
          have hB2 : h2.1 (k + 3 + 2) = xa_a 2 dg := (oh2 _ (by omega)).trans hB2
          have hH0 : h2.1 (k + 11) = xa_o 5 [xa_r (k + 11 + 1), xa_r (k + 11 + 2), xa_r (k + 11 + 3), xa_i ((pc : Nat) : Int)] := (oh2 _ (by omega)).trans hH0
          have hH1 : h2.1 (k + 11 + 1) = xa_a 240 mv := (oh2 _ (by omega)).trans hH1
          have hH2 : h2.1 (k + 11 + 2) = xa_a 4 le := (oh2 _ (by omega)).trans hH2
          have hH3 : h2.1 (k + 11 + 3) = xa_a 120 fi := (oh2 _ (by omega)).trans hH3
          have hT0 : h2.1 (k + 24) = xa_o 8 [xa_r (k + 24 + 4), xa_r (k + 3), xa_r (k + 24 + 1), xa_r (k + 24 + 2), xa_r (k + 24 + 3), xa_i ((m : Nat) : Int), xa_i (xa_b (m = (le w).toNat))] := (oh2 _ (by omega)).trans hT0
          have hT1 : h2.1 (k + 24 + 1) = xa_a 183 tu1 := (oh2 _ (by omega)).trans hT1
          have hT2 : h2.1 (k + 24 + 2) = xa_a 61 lo1 := (oh2 _ (by omega)).trans hT2
          have hT3 : h2.1 (k + 24 + 3) = xa_a 61 (sp_drf dr pu lo1 m) := (oh2 _ (by omega)).trans hT3
          have hS0 : h2.1 (k + 24 + 4) = xa_o 4 [xa_r (k + 3), xa_r (k + 24 + 4 + 1), xa_r (k + 24 + 4 + 2), xa_i t1.2.2.1, xa_i t1.2.2.2] := (oh2 _ (by omega)).trans hS0
          have hS1 : h2.1 (k + 24 + 4 + 1) = xa_a 3 t1.1 := (oh2 _ (by omega)).trans hS1
          have hS2 : h2.1 (k + 24 + 4 + 2) = xa_a 2 t1.2.1 := (oh2 _ (by omega)).trans hS2
          have hn : h2.2 = h.2 := nh2.trans hn
          have fr : ∀ i, (i < k + 24 ∨ k + 32 ≤ i) → h2.1 i = h.1 i := fun i hi => (oh2 i (by omega)).trans (fr i hi)
          refine xa_iincw (pc := 114) (y := ((w + 1 : Nat) : Int)) [some (xa_r k), some (xa_i n), some (xa_i (n * pu.tdiv (cf_all ld pa (cf_rest pa)))), some (xa_i ((w + 1 : Nat) : Int))] dX9_findLandings_114 (by decide) rfl rfl (by omega) rfl ?_
          refine xa_goto (pc := 117) (tgt := 22) dX9_findLandings_117 (by decide) ?_
          exact ih (w + 1) _ tu1 lo1 _ m _ t1.1 t1.2.1 t1.2.2.1 t1.2.2.2 _ (by omega) (by omega) (fun w1 hw1 => by
            by_cases e : w1 = w
            · subst e
              rw [xa_upf_at]
              first | exact ln_ns hfw c_69 c_82 | exact ln_no hfw c_69
            · rw [xa_upf_ne _ _ e]
              exact hLN w1 (by omega)) hok1.1 hok1.2.1 hok1.2.2.1 (drf_z hdr0) (by omega) (by omega) hX0 hB0 hB1 hB2 hH0 hH1 hH2 hH3 hT0 hT1 hT2 hT3 hS0 hS1 hS2 hN0 (fun i hi => (fr i hi).trans (fr0 i hi))
        · have c_82 := xa_b1.mp c_82
          refine xa_iload_n (pc := 85) dX9_findLandings_85 rfl ?_
          refine xa_aload_n (pc := 86) dX9_findLandings_86 rfl ?_
          refine xa_getfield (pc := 87) dX9_findLandings_87 flRX9_51 (by omega) (by omega) hX0 rfl ?_
          refine xa_aload_n (pc := 90) dX9_findLandings_90 rfl ?_
          refine xa_getfield (pc := 91) dX9_findLandings_91 flRX9_51 (by omega) (by omega) hX0 rfl ?_
          refine xa_getfield (pc := 94) dX9_findLandings_94 flRX9_170 (by omega) (by omega) hT0 rfl ?_
          refine xa_iconst (pc := 97) dX9_findLandings_97 ?_
          refine xa_callV (pc := 98) (as := [xa_i ((m : Nat) : Int), xa_i 0]) (rest := [xa_i (n * pu.tdiv (cf_all ld pa (cf_rest pa))), xa_i ((w : Nat) : Int), xa_r (k + 31)]) dX9_findLandings_98 ⟨qX8_turnOf.1, qX8_turnOf.2.1, qX8_turnOf.2.2, by decide, by decide⟩ lkRX9_177 imX8_turnOf seX8_turnOf rfl rfl (by omega) (by omega) hT0 rfl (Nat.le_of_ble_eq_true rfl) (Nat.zero_le _) (Nat.zero_le _) (c_turnOf _ _ _ _ _ _ _ _ _ (by omega) (by omega) ⟨hT0, hT1, hT2, hT3, by omega, by omega⟩) (fun r h' hq => ?_)
          obtain ⟨rfl, hq⟩ := hq
          have hq := hq.symm
          subst hq
          have hb9 := fw_b hB9 hfw hdr0 (push := pu) hpu (by omega) (i := m) (p := 0) (Nat.le_refl _) (by omega)
          obtain ⟨U, g1, g2⟩ := fw_end hfw hdr0 (by omega) pu
          have hb9 : -3000000 ≤ sp_tof tu1 (sp_drf dr pu lo1 m) ((m : Nat) : Int) 0 ∧ sp_tof tu1 (sp_drf dr pu lo1 m) ((m : Nat) : Int) 0 ≤ 3000000 := hb9
          refine xa_top (y := U) g2 ?_
          rw [g2] at hb9
          refine xa_iadd (pc := 101) dX9_findLandings_101 ?_
          refine xa_sipush (pc := 102) dX9_findLandings_102 rfl ?_
          refine xa_callS (pc := 105) (as := [xa_i ((n * pu.tdiv (cf_all ld pa (cf_rest pa))) + U), xa_i 360]) (rest := [xa_i ((w : Nat) : Int), xa_r (k + 31)]) dX9_findLandings_105 ⟨qJ9_floorMod_7cf53.1, qJ9_floorMod_7cf53.2.1, qJ9_floorMod_7cf53.2.2, by decide, by decide⟩ lkRX9_180 smJ9_floorMod_7cf53 rfl rfl (Nat.le_of_ble_eq_true rfl) (Nat.zero_le _) (Nat.zero_le _) (c_floorMod _ _ ⟨by omega, by omega⟩ (by decide) (by omega)) (fun r h' hq => ?_)
          obtain ⟨rfl, hq⟩ := hq
          have hq := hq.symm
          subst hq
          refine xa_goto (pc := 108) (tgt := 113) dX9_findLandings_108 (by decide) ?_
          refine xa_iastw (pc := 113) w dX9_findLandings_113 (by omega) (by omega) hN0 (by omega) (by omega) (Int.toNat_natCast _) (fun h3 nh3 ch3 oh3 => ?_)
          have hN0 : h3.1 (k + 31) = xa_a 4 (xa_upf ln w (((n * pu.tdiv (cf_all ld pa (cf_rest pa))) + U) % 360)) := ch3
          have hX0 : h3.1 k = xa_o 9 [xa_r (k + 1), xa_r (k + 3), xa_r (k + 6), xa_r (k + 9), xa_r (k + 11), xa_r (k + 15), xa_i kp, xa_r (k + 24), xa_r (k + 31), xa_r (k + 32), xa_r (k + 36), xa_r (k + 48), xa_r (k + 60)] := (oh3 _ (by omega)).trans hX0
          have hB0 : h3.1 (k + 3) = xa_o 0 [xa_r (k + 3 + 1), xa_r (k + 3 + 2), xa_i ((pa : Nat) : Int), xa_i ((jo : Nat) : Int), xa_i wa, xa_i sr, xa_i pu, xa_i ri] := (oh3 _ (by omega)).trans hB0
          have hB1 : h3.1 (k + 3 + 1) = xa_a 9 ld := (oh3 _ (by omega)).trans hB1
          have hB2 : h3.1 (k + 3 + 2) = xa_a 2 dg := (oh3 _ (by omega)).trans hB2
          have hH0 : h3.1 (k + 11) = xa_o 5 [xa_r (k + 11 + 1), xa_r (k + 11 + 2), xa_r (k + 11 + 3), xa_i ((pc : Nat) : Int)] := (oh3 _ (by omega)).trans hH0
          have hH1 : h3.1 (k + 11 + 1) = xa_a 240 mv := (oh3 _ (by omega)).trans hH1
          have hH2 : h3.1 (k + 11 + 2) = xa_a 4 le := (oh3 _ (by omega)).trans hH2
          have hH3 : h3.1 (k + 11 + 3) = xa_a 120 fi := (oh3 _ (by omega)).trans hH3
          have hT0 : h3.1 (k + 24) = xa_o 8 [xa_r (k + 24 + 4), xa_r (k + 3), xa_r (k + 24 + 1), xa_r (k + 24 + 2), xa_r (k + 24 + 3), xa_i ((m : Nat) : Int), xa_i (xa_b (m = (le w).toNat))] := (oh3 _ (by omega)).trans hT0
          have hT1 : h3.1 (k + 24 + 1) = xa_a 183 tu1 := (oh3 _ (by omega)).trans hT1
          have hT2 : h3.1 (k + 24 + 2) = xa_a 61 lo1 := (oh3 _ (by omega)).trans hT2
          have hT3 : h3.1 (k + 24 + 3) = xa_a 61 (sp_drf dr pu lo1 m) := (oh3 _ (by omega)).trans hT3
          have hS0 : h3.1 (k + 24 + 4) = xa_o 4 [xa_r (k + 3), xa_r (k + 24 + 4 + 1), xa_r (k + 24 + 4 + 2), xa_i t1.2.2.1, xa_i t1.2.2.2] := (oh3 _ (by omega)).trans hS0
          have hS1 : h3.1 (k + 24 + 4 + 1) = xa_a 3 t1.1 := (oh3 _ (by omega)).trans hS1
          have hS2 : h3.1 (k + 24 + 4 + 2) = xa_a 2 t1.2.1 := (oh3 _ (by omega)).trans hS2
          have hn : h3.2 = h.2 := nh3.trans hn
          have fr : ∀ i, (i < k + 24 ∨ k + 32 ≤ i) → h3.1 i = h.1 i := fun i hi => (oh3 i (by omega)).trans (fr i hi)
          refine xa_iincw (pc := 114) (y := ((w + 1 : Nat) : Int)) [some (xa_r k), some (xa_i n), some (xa_i (n * pu.tdiv (cf_all ld pa (cf_rest pa)))), some (xa_i ((w + 1 : Nat) : Int))] dX9_findLandings_114 (by decide) rfl rfl (by omega) rfl ?_
          refine xa_goto (pc := 117) (tgt := 22) dX9_findLandings_117 (by decide) ?_
          exact ih (w + 1) _ tu1 lo1 _ m _ t1.1 t1.2.1 t1.2.2.1 t1.2.2.2 _ (by omega) (by omega) (fun w1 hw1 => by
            by_cases e : w1 = w
            · subst e
              rw [xa_upf_at]
              exact ln_y hB9 hfw hdr0 c_69 c_82 g1
            · rw [xa_upf_ne _ _ e]
              exact hLN w1 (by omega)) hok1.1 hok1.2.1 hok1.2.2.1 (drf_z hdr0) (by omega) (by omega) hX0 hB0 hB1 hB2 hH0 hH1 hH2 hH3 hT0 hT1 hT2 hT3 hS0 hS1 hS2 hN0 (fun i hi => (fr i hi).trans (fr0 i hi))
theorem c_findLandings {G : xa_G} {h : xa_H} (k : Nat) (kp : Int) (ld dg : Nat → Int) (pa jo : Nat) (wa sr pu ri : Int) (mv le fi : Nat → Int) (pc : Nat) (n : Int) (hnn : 0 ≤ n ∧ n ≤ 60) (hB9 : vB ld dg pa jo wa sr pu ri) (hmvb : ∀ i, 0 ≤ mv i ∧ mv i ≤ 18) (hle : ∀ i, 0 ≤ le i ∧ le i ≤ 60) (hfi : fiOk pa fi pc) (hX : xX0 h k kp) (hB : xB h (k + 3) ld dg pa jo wa sr pu ri) (hH : xH h (k + 11) mv le fi pc) (hTS : xTS h k) (hLn : ∃ ln, h.1 (k + 31) = xa_a 4 ln)  : xa_M G mX9_findLandings [xa_r k, xa_i n] h 0 0 (fun r h' => r = none ∧ (∃ ln' : Nat → Int, (∀ w1, w1 < 4 → lnI ld dg pa jo wa sr pu ri mv le (n * pu.tdiv (cf_all ld pa (cf_rest pa))) w1 (ln' w1)) ∧ h'.1 (k + 31) = xa_a 4 ln') ∧ xTS h' k ∧ h'.2 = h.2 ∧ ∀ i, (i < k + 24 ∨ k + 32 ≤ i) → h'.1 i = h.1 i) := by
  refine xa_enter (by decide +kernel) (Nat.le_of_ble_eq_true rfl) ?_
  refine xa_locals (ls' := [some (xa_r k), some (xa_i n), none, none]) rfl ?_
  have hn : h.2 = h.2 := rfl
  have fr : ∀ i, (i < k + 24 ∨ k + 32 ≤ i) → h.1 i = h.1 i := fun _ _ => rfl
  have hTS0 := hTS
  have hX' := hX
  obtain ⟨hX0, hk, hkn⟩ := hX
  obtain ⟨hB0, hB1, hB2, hBk, hBn⟩ := hB
  obtain ⟨hH0, hH1, hH2, hH3, hHk, hHn⟩ := hH
  obtain ⟨tu, lo, dr, dn, al, po, sp, tj, tb, ⟨hT0, hT1, hT2, hT3, -, -⟩, ⟨hS0, hS1, hS2, -, -⟩, hpo, hsp, htj, hdr0⟩ := hTS
  have h0' := hB9.1
  have hw9 := hB9.wag
  have hwa : xa_ok wa := by omega
  have hsr : 0 ≤ sr ∧ sr ≤ 12 := by omega
  have hpu := hB9.2.2.2.2.2.2.1
  have hri := hB9.2.2.2.2.2.2.2
  clear hw9
  obtain ⟨ln, hN0⟩ := hLn
  have hra := cf_all_b hB9 (cf_rest_ok hB9)
  refine xa_iload_n (pc := 0) dX9_findLandings_0 rfl ?_
  refine xa_aload_n (pc := 1) dX9_findLandings_1 rfl ?_
  refine xa_getfield (pc := 2) dX9_findLandings_2 flRX9_19 (by omega) (by omega) hX0 rfl ?_
  refine xa_getfield (pc := 5) dX9_findLandings_5 flRX9_144 (by omega) (by omega) hB0 rfl ?_
  refine xa_aload_n (pc := 8) dX9_findLandings_8 rfl ?_
  refine xa_getfield (pc := 9) dX9_findLandings_9 flRX9_19 (by omega) (by omega) hX0 rfl ?_
  refine xa_callV (pc := 12) (as := []) (rest := [xa_i pu, xa_i n]) dX9_findLandings_12 ⟨qX0_loadAtRest.1, qX0_loadAtRest.2.1, qX0_loadAtRest.2.2, by decide, by decide⟩ lkRX9_247 imX0_loadAtRest seX0_loadAtRest rfl rfl (by omega) (by omega) hB0 rfl (Nat.le_of_ble_eq_true rfl) (Nat.zero_le _) (Nat.zero_le _) (c_loadAtRest _ _ _ _ _ _ _ _ _ (by omega) ⟨hB0, hB1, hB2, by omega, by omega⟩) (fun r h' hq => ?_)
  obtain ⟨hq1, hq⟩ := hq
  have hq := hq.symm
  subst hq
  rw [sum_rest hB9] at hq1
  subst hq1
  refine xa_callS (pc := 15) (as := [xa_i pu, xa_i (cf_all ld pa (cf_rest pa))]) (rest := [xa_i n]) dX9_findLandings_15 ⟨qX9_cut.1, qX9_cut.2.1, qX9_cut.2.2, by decide, by decide⟩ lkRX9_250 smX9_cut rfl rfl (Nat.le_of_ble_eq_true rfl) (Nat.zero_le _) (Nat.zero_le _) (c_cut _ _ ⟨by omega, by omega⟩ ⟨by omega, by omega⟩) (fun r h' hq => ?_)
  obtain ⟨rfl, hq⟩ := hq
  have hq := hq.symm
  subst hq
  refine xa_imul (pc := 18) dX9_findLandings_18 ?_
  refine xa_istoren (pc := 19) [some (xa_r k), some (xa_i n), some (xa_i (n * (pu.tdiv (cf_all ld pa (cf_rest pa))))), none] dX9_findLandings_19 (by decide) (Nat.le_of_ble_eq_true rfl) rfl rfl ?_
  refine xa_iconst (pc := 20) dX9_findLandings_20 ?_
  refine xa_istoren (pc := 21) [some (xa_r k), some (xa_i n), some (xa_i (n * (pu.tdiv (cf_all ld pa (cf_rest pa))))), some (xa_i 0)] dX9_findLandings_21 (by decide) (Nat.le_of_ble_eq_true rfl) rfl rfl ?_
  exact c_land_loop hB9 hmvb hle hfi hk hnn 5 0 ln tu lo dr dn al po sp tj tb h (by omega) (by omega) (fun w1 hw1 => absurd hw1 (Nat.not_lt_zero _)) hpo hsp htj hdr0 rfl (by omega) hX0 hB0 hB1 hB2 hH0 hH1 hH2 hH3 hT0 hT1 hT2 hT3 hS0 hS1 hS2 hN0 (fun _ _ => rfl)
theorem c_fh_loop {G : xa_G} {h : xa_H} {k : Nat} {kp turn : Int} {ld dg : Nat → Int} {pa jo : Nat} {wa sr pu ri : Int} {mv le : Nat → Int} {n : Int} {ln : Nat → Int} (hk : 2 ≤ k) (hkn : k + 71 < h.2) (hri : 0 ≤ ri ∧ ri ≤ 90) (htu : 0 ≤ turn ∧ turn ≤ 359) (hLN : ∀ w1, w1 < 4 → lnI ld dg pa jo wa sr pu ri mv le (n * pu.tdiv (cf_all ld pa (cf_rest pa))) w1 (ln w1)) (hX0 : h.1 k = xa_o 9 [xa_r (k + 1), xa_r (k + 3), xa_r (k + 6), xa_r (k + 9), xa_r (k + 11), xa_r (k + 15), xa_i kp, xa_r (k + 24), xa_r (k + 31), xa_r (k + 32), xa_r (k + 36), xa_r (k + 48), xa_r (k + 60)]) (hB0 : h.1 (k + 3) = xa_o 0 [xa_r (k + 3 + 1), xa_r (k + 3 + 2), xa_i ((pa : Nat) : Int), xa_i ((jo : Nat) : Int), xa_i wa, xa_i sr, xa_i pu, xa_i ri]) (hB1 : h.1 (k + 3 + 1) = xa_a 9 ld) (hB2 : h.1 (k + 3 + 2) = xa_a 2 dg) (hN0 : h.1 (k + 31) = xa_a 4 ln) : ∀ (d : Nat) (w : Nat), 4 - w < d → (w ≤ 4) → (∀ w1, w1 < w → ¬ hd_ok ld dg pa jo wa sr pu ri (wy mv ((w1 : Nat) : Int)) (le w1).toNat (turn + hd_late ld pa pu n)) → xa_W G mX9_firstHead (xa_Z G (fun r h' => (∃ r0, r = some (xa_i r0) ∧ an_head ld dg pa jo wa sr pu ri mv le (turn + hd_late ld pa pu n) r0) ∧ h' = h)) 2 [some (xa_r k), some (xa_i turn), some (xa_i ((w : Nat) : Int))] [] h 0 0 := by
  intro d
  induction d with
  | zero => intros; exfalso; omega
  | succ d ih =>
    intro w hd hw4 hno
    refine xa_iload_n (pc := 2) dX9_firstHead_2 rfl ?_
    refine xa_aload_n (pc := 3) dX9_firstHead_3 rfl ?_
    refine xa_getfield (pc := 4) dX9_firstHead_4 flRX9_55 (by omega) (by omega) hX0 rfl ?_
    refine xa_alen (pc := 7) dX9_firstHead_7 (by omega) hN0 ?_
    refine xa_top (y := 4) rfl ?_
    refine xa_icmp_ge (pc := 8) (tgt := 52) dX9_firstHead_8 (by decide) ⟨by omega, by omega⟩ (by decide) (fun c_8 => ?_) (fun c_8 => ?_)
    · skip
      refine xa_bipush (pc := 52) dX9_firstHead_52 rfl ?_
      refine xa_ireturn (pc := 54) dX9_firstHead_54 rfl trivial ?_
      have hw9 : w = 4 := by omega
      subst hw9
      exact ⟨⟨_, rfl, Or.inr ⟨hno, rfl⟩⟩, rfl⟩
    · skip
      refine xa_aload_n (pc := 11) dX9_firstHead_11 rfl ?_
      refine xa_getfield (pc := 12) dX9_firstHead_12 flRX9_55 (by omega) (by omega) hX0 rfl ?_
      refine xa_iload_n (pc := 15) dX9_firstHead_15 rfl ?_
      refine xa_ialdw (pc := 16) w dX9_firstHead_16 (by omega) hN0 (by omega) (by omega) (Int.toNat_natCast _) ?_
      have hlv := (hLN w (by omega)).1
      refine xa_bipush (pc := 17) dX9_firstHead_17 rfl ?_
      refine xa_icmp_eq (pc := 19) (tgt := 46) dX9_firstHead_19 (by decide) ⟨by omega, by omega⟩ (by decide) (fun c_19 => ?_) (fun c_19 => ?_)
      · skip
        refine xa_iincw (pc := 46) (y := ((w + 1 : Nat) : Int)) [some (xa_r k), some (xa_i turn), some (xa_i ((w + 1 : Nat) : Int))] dX9_firstHead_46 (by decide) rfl rfl (by omega) rfl ?_
        refine xa_goto (pc := 49) (tgt := 2) dX9_firstHead_49 (by decide) ?_
        exact ih (w + 1) (by omega) (by omega) (fun w1 hw1 => by
          by_cases e : w1 = w
          · subst e
            intro z
            have k9 := ((hLN w1 (by omega)).2 turn).mpr z
            first | exact absurd c_19 k9.1 | (have := k9.2; omega)
          · exact hno w1 (by omega))
      · skip
        refine xa_iload_n (pc := 22) dX9_firstHead_22 rfl ?_
        refine xa_aload_n (pc := 23) dX9_firstHead_23 rfl ?_
        refine xa_getfield (pc := 24) dX9_firstHead_24 flRX9_55 (by omega) (by omega) hX0 rfl ?_
        refine xa_iload_n (pc := 27) dX9_firstHead_27 rfl ?_
        refine xa_ialdw (pc := 28) w dX9_firstHead_28 (by omega) hN0 (by omega) (by omega) (Int.toNat_natCast _) ?_
        have hlv := (hLN w (by omega)).1
        refine xa_iadd (pc := 29) dX9_firstHead_29 ?_
        refine xa_iconst (pc := 30) dX9_firstHead_30 ?_
        refine xa_callS (pc := 31) (as := [xa_i (turn + (ln w)), xa_i 0]) (rest := []) dX9_firstHead_31 ⟨qX9_off.1, qX9_off.2.1, qX9_off.2.2, by decide, by decide⟩ lkRX9_253 smX9_off rfl rfl (Nat.le_of_ble_eq_true rfl) (Nat.zero_le _) (Nat.zero_le _) (c_off _ _ ⟨by omega, by omega⟩) (fun r h' hq => ?_)
        obtain ⟨rfl, hq⟩ := hq
        have hq := hq.symm
        subst hq
        refine xa_aload_n (pc := 34) dX9_firstHead_34 rfl ?_
        refine xa_getfield (pc := 35) dX9_firstHead_35 flRX9_19 (by omega) (by omega) hX0 rfl ?_
        refine xa_getfield (pc := 38) dX9_firstHead_38 flRX9_147 (by omega) (by omega) hB0 rfl ?_
        have hob := sp_off_b (turn + ln w) 0
        refine xa_icmp_gt (pc := 41) (tgt := 46) dX9_firstHead_41 (by decide) ⟨by omega, by omega⟩ ⟨by omega, by omega⟩ (fun c_41 => ?_) (fun c_41 => ?_)
        · skip
          refine xa_iincw (pc := 46) (y := ((w + 1 : Nat) : Int)) [some (xa_r k), some (xa_i turn), some (xa_i ((w + 1 : Nat) : Int))] dX9_firstHead_46 (by decide) rfl rfl (by omega) rfl ?_
          refine xa_goto (pc := 49) (tgt := 2) dX9_firstHead_49 (by decide) ?_
          exact ih (w + 1) (by omega) (by omega) (fun w1 hw1 => by
            by_cases e : w1 = w
            · subst e
              intro z
              have k9 := ((hLN w1 (by omega)).2 turn).mpr z
              first | exact absurd c_19 k9.1 | (have := k9.2; omega)
            · exact hno w1 (by omega))
        · skip
          refine xa_iload_n (pc := 44) dX9_firstHead_44 rfl ?_
          refine xa_ireturn (pc := 45) dX9_firstHead_45 rfl trivial ?_
          exact ⟨⟨_, rfl, Or.inl ⟨w, by omega, ((hLN w (by omega)).2 turn).mp ⟨c_19, c_41⟩, hno, rfl⟩⟩, rfl⟩
theorem c_firstHead {G : xa_G} {h : xa_H} (k : Nat) (kp turn : Int) (ld dg : Nat → Int) (pa jo : Nat) (wa sr pu ri : Int) (mv le : Nat → Int) (n : Int) (ln : Nat → Int) (hk : 2 ≤ k) (hkn : k + 71 < h.2) (hri : 0 ≤ ri ∧ ri ≤ 90) (htu : 0 ≤ turn ∧ turn ≤ 359) (hLN : ∀ w1, w1 < 4 → lnI ld dg pa jo wa sr pu ri mv le (n * pu.tdiv (cf_all ld pa (cf_rest pa))) w1 (ln w1)) (hX0 : h.1 k = xa_o 9 [xa_r (k + 1), xa_r (k + 3), xa_r (k + 6), xa_r (k + 9), xa_r (k + 11), xa_r (k + 15), xa_i kp, xa_r (k + 24), xa_r (k + 31), xa_r (k + 32), xa_r (k + 36), xa_r (k + 48), xa_r (k + 60)]) (hB0 : h.1 (k + 3) = xa_o 0 [xa_r (k + 3 + 1), xa_r (k + 3 + 2), xa_i ((pa : Nat) : Int), xa_i ((jo : Nat) : Int), xa_i wa, xa_i sr, xa_i pu, xa_i ri]) (hB1 : h.1 (k + 3 + 1) = xa_a 9 ld) (hB2 : h.1 (k + 3 + 2) = xa_a 2 dg) (hN0 : h.1 (k + 31) = xa_a 4 ln) : xa_M G mX9_firstHead [xa_r k, xa_i turn] h 0 0 (fun r h' => (∃ r0, r = some (xa_i r0) ∧ an_head ld dg pa jo wa sr pu ri mv le (turn + hd_late ld pa pu n) r0) ∧ h' = h) := by
  refine xa_enter (by decide +kernel) (Nat.le_of_ble_eq_true rfl) ?_
  refine xa_locals (ls' := [some (xa_r k), some (xa_i turn), none]) rfl ?_
  refine xa_iconst (pc := 0) dX9_firstHead_0 ?_
  refine xa_istoren (pc := 1) [some (xa_r k), some (xa_i turn), some (xa_i 0)] dX9_firstHead_1 (by decide) (Nat.le_of_ble_eq_true rfl) rfl rfl ?_
  exact c_fh_loop hk hkn hri htu hLN hX0 hB0 hB1 hB2 hN0 5 0 (by omega) (by omega) (fun w1 hw1 => absurd hw1 (Nat.not_lt_zero _))
theorem c_xHead {G : xa_G} {h : xa_H} (k : Nat) (kp : Int) (ld dg : Nat → Int) (pa jo : Nat) (wa sr pu ri : Int) (mv le fi : Nat → Int) (pc : Nat) (turn n : Int) (h1 : xa_ok turn) (h2 : xa_ok n) (hB9 : vB ld dg pa jo wa sr pu ri) (hmvb : ∀ i, 0 ≤ mv i ∧ mv i ≤ 18) (hle : ∀ i, 0 ≤ le i ∧ le i ≤ 60) (hfi : fiOk pa fi pc) (hX : xX0 h k kp) (hB : xB h (k + 3) ld dg pa jo wa sr pu ri) (hH : xH h (k + 11) mv le fi pc) (hTS : xTS h k) (hLn : ∃ ln, h.1 (k + 31) = xa_a 4 ln)  : xa_M G mX9_head [xa_r k, xa_i turn, xa_i n] h 0 0 (fun r h' => (∃ r0, r = some (xa_i r0) ∧ sq_head ld dg pa jo wa sr pu ri mv le turn n r0) ∧ xTS h' k ∧ (∃ ln, h'.1 (k + 31) = xa_a 4 ln) ∧ h'.2 = h.2 ∧ ∀ i, (i < k + 24 ∨ k + 32 ≤ i) → h'.1 i = h.1 i) := by
  refine xa_enter (by decide +kernel) (Nat.le_of_ble_eq_true rfl) ?_
  refine xa_locals (ls' := [some (xa_r k), some (xa_i turn), some (xa_i n)]) rfl ?_
  have hn : h.2 = h.2 := rfl
  have fr : ∀ i, (i < k + 24 ∨ k + 32 ≤ i) → h.1 i = h.1 i := fun _ _ => rfl
  have hTS0 := hTS
  have hX' := hX
  obtain ⟨hX0, hk, hkn⟩ := hX
  obtain ⟨hB0, hB1, hB2, hBk, hBn⟩ := hB
  obtain ⟨hH0, hH1, hH2, hH3, hHk, hHn⟩ := hH
  obtain ⟨tu, lo, dr, dn, al, po, sp, tj, tb, ⟨hT0, hT1, hT2, hT3, -, -⟩, ⟨hS0, hS1, hS2, -, -⟩, hpo, hsp, htj, hdr0⟩ := hTS
  have h0' := hB9.1
  have hw9 := hB9.wag
  have hwa : xa_ok wa := by omega
  have hsr : 0 ≤ sr ∧ sr ≤ 12 := by omega
  have hpu := hB9.2.2.2.2.2.2.1
  have hri := hB9.2.2.2.2.2.2.2
  clear hw9
  have hLn0 := hLn
  refine xa_iload_n (pc := 0) dX9_head_0 rfl ?_
  refine xa_callS (pc := 1) (as := [xa_i turn]) (rest := []) dX9_head_1 ⟨qX9_isTurn.1, qX9_isTurn.2.1, qX9_isTurn.2.2, by decide, by decide⟩ lkRX9_163 smX9_isTurn rfl rfl (Nat.le_of_ble_eq_true rfl) (Nat.zero_le _) (Nat.zero_le _) (c_isTurn _ ⟨by omega, by omega⟩) (fun r h' hq => ?_)
  obtain ⟨rfl, hq⟩ := hq
  have hq := hq.symm
  subst hq
  refine xa_if_eq (pc := 4) (tgt := 17) dX9_head_4 (by decide) xa_okb (fun c_4 => ?_) (fun c_4 => ?_)
  · have c_4 := xa_b0.mp c_4
    refine xa_iconst (pc := 17) dX9_head_17 ?_
    refine xa_ireturn (pc := 18) dX9_head_18 rfl trivial ?_
    exact ⟨⟨_, rfl, Or.inl ⟨by omega, rfl⟩⟩, hTS0, hLn0, hn, fr⟩
  · have c_4 := xa_b1.mp c_4
    refine xa_iload_n (pc := 7) dX9_head_7 rfl ?_
    refine xa_iconst (pc := 8) dX9_head_8 ?_
    refine xa_bipush (pc := 9) dX9_head_9 rfl ?_
    refine xa_callS (pc := 11) (as := [xa_i n, xa_i 0, xa_i 60]) (rest := []) dX9_head_11 ⟨qX9_isWithin.1, qX9_isWithin.2.1, qX9_isWithin.2.2, by decide, by decide⟩ lkRX9_89 smX9_isWithin rfl rfl (Nat.le_of_ble_eq_true rfl) (Nat.zero_le _) (Nat.zero_le _) (c_isWithin _ _ _ ⟨by omega, by omega⟩ (by decide) (by decide)) (fun r h' hq => ?_)
    obtain ⟨rfl, hq⟩ := hq
    have hq := hq.symm
    subst hq
    refine xa_if_ne (pc := 14) (tgt := 19) dX9_head_14 (by decide) xa_okb (fun c_14 => ?_) (fun c_14 => ?_)
    · have c_14 := xa_b1.mp c_14
      refine xa_aload_n (pc := 19) dX9_head_19 rfl ?_
      refine xa_iload_n (pc := 20) dX9_head_20 rfl ?_
      refine xa_callV (pc := 21) (as := [xa_i n]) (rest := []) dX9_head_21 ⟨qX9_findLandings.1, qX9_findLandings.2.1, qX9_findLandings.2.2, by decide, by decide⟩ lkRX9_231 imX9_findLandings seX9_findLandings rfl rfl (by omega) (by omega) hX0 rfl (Nat.le_of_ble_eq_true rfl) (Nat.zero_le _) (Nat.zero_le _) (c_findLandings k kp ld dg pa jo wa sr pu ri mv le fi pc n (by omega) hB9 hmvb hle hfi hX' ⟨hB0, hB1, hB2, by omega, by omega⟩ ⟨hH0, hH1, hH2, hH3, by omega, by omega⟩ hTS0 hLn0) (fun r h' hq => ?_)
      obtain ⟨rfl, ⟨ln', hLN, hN0⟩, hTS1, hqn, hqf⟩ := hq
      have hX0 : h'.1 k = xa_o 9 [xa_r (k + 1), xa_r (k + 3), xa_r (k + 6), xa_r (k + 9), xa_r (k + 11), xa_r (k + 15), xa_i kp, xa_r (k + 24), xa_r (k + 31), xa_r (k + 32), xa_r (k + 36), xa_r (k + 48), xa_r (k + 60)] := (hqf _ (by omega)).trans hX0
      have hB0 : h'.1 (k + 3) = xa_o 0 [xa_r (k + 3 + 1), xa_r (k + 3 + 2), xa_i ((pa : Nat) : Int), xa_i ((jo : Nat) : Int), xa_i wa, xa_i sr, xa_i pu, xa_i ri] := (hqf _ (by omega)).trans hB0
      have hB1 : h'.1 (k + 3 + 1) = xa_a 9 ld := (hqf _ (by omega)).trans hB1
      have hB2 : h'.1 (k + 3 + 2) = xa_a 2 dg := (hqf _ (by omega)).trans hB2
      have hH0 : h'.1 (k + 11) = xa_o 5 [xa_r (k + 11 + 1), xa_r (k + 11 + 2), xa_r (k + 11 + 3), xa_i ((pc : Nat) : Int)] := (hqf _ (by omega)).trans hH0
      have hH1 : h'.1 (k + 11 + 1) = xa_a 240 mv := (hqf _ (by omega)).trans hH1
      have hH2 : h'.1 (k + 11 + 2) = xa_a 4 le := (hqf _ (by omega)).trans hH2
      have hH3 : h'.1 (k + 11 + 3) = xa_a 120 fi := (hqf _ (by omega)).trans hH3
      have hn : h'.2 = h.2 := hqn.trans hn
      have fr : ∀ i, (i < k + 24 ∨ k + 32 ≤ i) → h'.1 i = h.1 i := fun i hi => (hqf i hi).trans (fr i hi)
      refine xa_aload_n (pc := 24) dX9_head_24 rfl ?_
      refine xa_iload_n (pc := 25) dX9_head_25 rfl ?_
      refine xa_callV (pc := 26) (as := [xa_i turn]) (rest := []) dX9_head_26 ⟨qX9_firstHead.1, qX9_firstHead.2.1, qX9_firstHead.2.2, by decide, by decide⟩ lkRX9_234 imX9_firstHead seX9_firstHead rfl rfl (by omega) (by omega) hX0 rfl (Nat.le_of_ble_eq_true rfl) (Nat.zero_le _) (Nat.zero_le _) (c_firstHead k kp turn ld dg pa jo wa sr pu ri mv le n ln' hk (by omega) hri (by omega) hLN hX0 hB0 hB1 hB2 hN0) (fun r h' hq => ?_)
      obtain ⟨⟨r1, hr1, hah⟩, hq⟩ := hq
      have hq := hq.symm
      subst hq
      subst hr1
      refine xa_ireturn (pc := 29) dX9_head_29 rfl trivial ?_
      exact ⟨⟨_, rfl, Or.inr ⟨by omega, hah⟩⟩, hTS1, ⟨ln', hN0⟩, hn, fr⟩
    · have c_14 := xa_b0.mp c_14
      refine xa_iconst (pc := 17) dX9_head_17 ?_
      refine xa_ireturn (pc := 18) dX9_head_18 rfl trivial ?_
      exact ⟨⟨_, rfl, Or.inl ⟨by omega, rfl⟩⟩, hTS0, hLn0, hn, fr⟩
theorem c_down_loop {G : xa_G} {h : xa_H} {k : Nat} {kp : Int} {ld dg : Nat → Int} {pa jo : Nat} {wa sr pu ri : Int} {mv le : Nat → Int} {n : Int} {ln' : Nat → Int} (hk : 2 ≤ k) (hkn : k + 71 < h.2) (hri : 0 ≤ ri ∧ ri ≤ 90) (hLN : ∀ w1, w1 < 4 → lnI ld dg pa jo wa sr pu ri mv le (n * pu.tdiv (cf_all ld pa (cf_rest pa))) w1 (ln' w1)) (hX0 : h.1 k = xa_o 9 [xa_r (k + 1), xa_r (k + 3), xa_r (k + 6), xa_r (k + 9), xa_r (k + 11), xa_r (k + 15), xa_i kp, xa_r (k + 24), xa_r (k + 31), xa_r (k + 32), xa_r (k + 36), xa_r (k + 48), xa_r (k + 60)]) (hB0 : h.1 (k + 3) = xa_o 0 [xa_r (k + 3 + 1), xa_r (k + 3 + 2), xa_i ((pa : Nat) : Int), xa_i ((jo : Nat) : Int), xa_i wa, xa_i sr, xa_i pu, xa_i ri]) (hB1 : h.1 (k + 3 + 1) = xa_a 9 ld) (hB2 : h.1 (k + 3 + 2) = xa_a 2 dg) (hN0 : h.1 (k + 31) = xa_a 4 ln') : ∀ (d : Nat) (e : Nat), 360 - e < d → (e ≤ 360) → xa_W G mX9_down (xa_Z G (fun r h' => r = some (xa_i ((ct_n (fun t => hd_any ld dg pa jo wa sr pu ri mv le (((t : Nat) : Int) + hd_late ld pa pu n)) 360 : Nat) : Int)) ∧ h' = h)) 21 [some (xa_r k), some (xa_i n), some (xa_i ((ct_n (fun t => hd_any ld dg pa jo wa sr pu ri mv le (((t : Nat) : Int) + hd_late ld pa pu n)) e : Nat) : Int)), some (xa_i ((e : Nat) : Int))] [] h 0 0 := by
  intro d
  induction d with
  | zero => intros; exfalso; omega
  | succ d ih =>
    intro e hd he
    have hce := ct_le (fun t => hd_any ld dg pa jo wa sr pu ri mv le (((t : Nat) : Int) + hd_late ld pa pu n)) e
    refine xa_iload_n (pc := 21) dX9_down_21 rfl ?_
    refine xa_sipush (pc := 22) dX9_down_22 rfl ?_
    refine xa_icmp_ge (pc := 25) (tgt := 47) dX9_down_25 (by decide) ⟨by omega, by omega⟩ (by decide) (fun c_25 => ?_) (fun c_25 => ?_)
    · skip
      refine xa_iload_n (pc := 47) dX9_down_47 rfl ?_
      refine xa_ireturn (pc := 48) dX9_down_48 rfl trivial ?_
      have he9 : e = 360 := by omega
      subst he9
      exact ⟨rfl, rfl⟩
    · skip
      refine xa_aload_n (pc := 28) dX9_down_28 rfl ?_
      refine xa_iload_n (pc := 29) dX9_down_29 rfl ?_
      refine xa_callV (pc := 30) (as := [xa_i ((e : Nat) : Int)]) (rest := []) dX9_down_30 ⟨qX9_firstHead.1, qX9_firstHead.2.1, qX9_firstHead.2.2, by decide, by decide⟩ lkRX9_234 imX9_firstHead seX9_firstHead rfl rfl (by omega) (by omega) hX0 rfl (Nat.le_of_ble_eq_true rfl) (Nat.zero_le _) (Nat.zero_le _) (c_firstHead k kp ((e : Nat) : Int) ld dg pa jo wa sr pu ri mv le n ln' hk (by omega) hri (by omega) hLN hX0 hB0 hB1 hB2 hN0) (fun r h' hq => ?_)
      obtain ⟨⟨r1, hr1, hah⟩, hq⟩ := hq
      have hq := hq.symm
      subst hq
      subst hr1
      refine xa_bipush (pc := 33) dX9_down_33 rfl ?_
      refine xa_icmp_eq (pc := 35) (tgt := 41) dX9_down_35 (by decide) (an_head_ok hah) (by decide) (fun c_35 => ?_) (fun c_35 => ?_)
      · skip
        refine xa_iincw (pc := 41) (y := ((e + 1 : Nat) : Int)) [some (xa_r k), some (xa_i n), some (xa_i ((ct_n (fun t => hd_any ld dg pa jo wa sr pu ri mv le (((t : Nat) : Int) + hd_late ld pa pu n)) e : Nat) : Int)), some (xa_i ((e + 1 : Nat) : Int))] dX9_down_41 (by decide) rfl rfl (by omega) rfl ?_
        refine xa_goto (pc := 44) (tgt := 21) dX9_down_44 (by decide) ?_
        have ec : ct_n (fun t => hd_any ld dg pa jo wa sr pu ri mv le (((t : Nat) : Int) + hd_late ld pa pu n)) e = ct_n (fun t => hd_any ld dg pa jo wa sr pu ri mv le (((t : Nat) : Int) + hd_late ld pa pu n)) (e + 1) := by
          show _ = ct_n (fun t => hd_any ld dg pa jo wa sr pu ri mv le (((t : Nat) : Int) + hd_late ld pa pu n)) e + (if (fun t => hd_any ld dg pa jo wa sr pu ri mv le (((t : Nat) : Int) + hd_late ld pa pu n)) e = true then 1 else 0)
          rw [if_neg (fun z => (an_head_any hah).mp z c_35), Nat.add_zero]
        rw [ec]
        exact ih (e + 1) (by omega) (by omega)
      · skip
        refine xa_iincw (pc := 38) (y := ((ct_n (fun t => hd_any ld dg pa jo wa sr pu ri mv le (((t : Nat) : Int) + hd_late ld pa pu n)) e + 1 : Nat) : Int)) [some (xa_r k), some (xa_i n), some (xa_i ((ct_n (fun t => hd_any ld dg pa jo wa sr pu ri mv le (((t : Nat) : Int) + hd_late ld pa pu n)) e + 1 : Nat) : Int)), some (xa_i ((e : Nat) : Int))] dX9_down_38 (by decide) rfl rfl (by omega) rfl ?_
        refine xa_iincw (pc := 41) (y := ((e + 1 : Nat) : Int)) [some (xa_r k), some (xa_i n), some (xa_i ((ct_n (fun t => hd_any ld dg pa jo wa sr pu ri mv le (((t : Nat) : Int) + hd_late ld pa pu n)) e + 1 : Nat) : Int)), some (xa_i ((e + 1 : Nat) : Int))] dX9_down_41 (by decide) rfl rfl (by omega) rfl ?_
        refine xa_goto (pc := 44) (tgt := 21) dX9_down_44 (by decide) ?_
        have ec : ct_n (fun t => hd_any ld dg pa jo wa sr pu ri mv le (((t : Nat) : Int) + hd_late ld pa pu n)) e + 1 = ct_n (fun t => hd_any ld dg pa jo wa sr pu ri mv le (((t : Nat) : Int) + hd_late ld pa pu n)) (e + 1) := by
          show _ = ct_n (fun t => hd_any ld dg pa jo wa sr pu ri mv le (((t : Nat) : Int) + hd_late ld pa pu n)) e + (if (fun t => hd_any ld dg pa jo wa sr pu ri mv le (((t : Nat) : Int) + hd_late ld pa pu n)) e = true then 1 else 0)
          rw [if_pos ((an_head_any hah).mpr c_35)]
        rw [ec]
        exact ih (e + 1) (by omega) (by omega)
theorem c_xDown {G : xa_G} {h : xa_H} (k : Nat) (kp : Int) (ld dg : Nat → Int) (pa jo : Nat) (wa sr pu ri : Int) (mv le fi : Nat → Int) (pc : Nat) (n : Int) (h2 : xa_ok n) (hB9 : vB ld dg pa jo wa sr pu ri) (hmvb : ∀ i, 0 ≤ mv i ∧ mv i ≤ 18) (hle : ∀ i, 0 ≤ le i ∧ le i ≤ 60) (hfi : fiOk pa fi pc) (hX : xX0 h k kp) (hB : xB h (k + 3) ld dg pa jo wa sr pu ri) (hH : xH h (k + 11) mv le fi pc) (hTS : xTS h k) (hLn : ∃ ln, h.1 (k + 31) = xa_a 4 ln)  : xa_M G mX9_down [xa_r k, xa_i n] h 0 0 (fun r h' => (∃ r0, r = some (xa_i r0) ∧ sq_down ld dg pa jo wa sr pu ri mv le n r0) ∧ xTS h' k ∧ (∃ ln, h'.1 (k + 31) = xa_a 4 ln) ∧ h'.2 = h.2 ∧ ∀ i, (i < k + 24 ∨ k + 32 ≤ i) → h'.1 i = h.1 i) := by
  refine xa_enter (by decide +kernel) (Nat.le_of_ble_eq_true rfl) ?_
  refine xa_locals (ls' := [some (xa_r k), some (xa_i n), none, none]) rfl ?_
  have hn : h.2 = h.2 := rfl
  have fr : ∀ i, (i < k + 24 ∨ k + 32 ≤ i) → h.1 i = h.1 i := fun _ _ => rfl
  have hTS0 := hTS
  have hX' := hX
  obtain ⟨hX0, hk, hkn⟩ := hX
  obtain ⟨hB0, hB1, hB2, hBk, hBn⟩ := hB
  obtain ⟨hH0, hH1, hH2, hH3, hHk, hHn⟩ := hH
  obtain ⟨tu, lo, dr, dn, al, po, sp, tj, tb, ⟨hT0, hT1, hT2, hT3, -, -⟩, ⟨hS0, hS1, hS2, -, -⟩, hpo, hsp, htj, hdr0⟩ := hTS
  have h0' := hB9.1
  have hw9 := hB9.wag
  have hwa : xa_ok wa := by omega
  have hsr : 0 ≤ sr ∧ sr ≤ 12 := by omega
  have hpu := hB9.2.2.2.2.2.2.1
  have hri := hB9.2.2.2.2.2.2.2
  clear hw9
  have hLn0 := hLn
  refine xa_iload_n (pc := 0) dX9_down_0 rfl ?_
  refine xa_iconst (pc := 1) dX9_down_1 ?_
  refine xa_bipush (pc := 2) dX9_down_2 rfl ?_
  refine xa_callS (pc := 4) (as := [xa_i n, xa_i 0, xa_i 60]) (rest := []) dX9_down_4 ⟨qX9_isWithin.1, qX9_isWithin.2.1, qX9_isWithin.2.2, by decide, by decide⟩ lkRX9_89 smX9_isWithin rfl rfl (Nat.le_of_ble_eq_true rfl) (Nat.zero_le _) (Nat.zero_le _) (c_isWithin _ _ _ ⟨by omega, by omega⟩ (by decide) (by decide)) (fun r h' hq => ?_)
  obtain ⟨rfl, hq⟩ := hq
  have hq := hq.symm
  subst hq
  refine xa_if_ne (pc := 7) (tgt := 12) dX9_down_7 (by decide) xa_okb (fun c_7 => ?_) (fun c_7 => ?_)
  · have c_7 := xa_b1.mp c_7
    refine xa_aload_n (pc := 12) dX9_down_12 rfl ?_
    refine xa_iload_n (pc := 13) dX9_down_13 rfl ?_
    refine xa_callV (pc := 14) (as := [xa_i n]) (rest := []) dX9_down_14 ⟨qX9_findLandings.1, qX9_findLandings.2.1, qX9_findLandings.2.2, by decide, by decide⟩ lkRX9_231 imX9_findLandings seX9_findLandings rfl rfl (by omega) (by omega) hX0 rfl (Nat.le_of_ble_eq_true rfl) (Nat.zero_le _) (Nat.zero_le _) (c_findLandings k kp ld dg pa jo wa sr pu ri mv le fi pc n (by omega) hB9 hmvb hle hfi hX' ⟨hB0, hB1, hB2, by omega, by omega⟩ ⟨hH0, hH1, hH2, hH3, by omega, by omega⟩ hTS0 hLn0) (fun r h' hq => ?_)
    obtain ⟨rfl, ⟨ln', hLN, hN0⟩, hTS1, hqn, hqf⟩ := hq
    have hX0 : h'.1 k = xa_o 9 [xa_r (k + 1), xa_r (k + 3), xa_r (k + 6), xa_r (k + 9), xa_r (k + 11), xa_r (k + 15), xa_i kp, xa_r (k + 24), xa_r (k + 31), xa_r (k + 32), xa_r (k + 36), xa_r (k + 48), xa_r (k + 60)] := (hqf _ (by omega)).trans hX0
    have hB0 : h'.1 (k + 3) = xa_o 0 [xa_r (k + 3 + 1), xa_r (k + 3 + 2), xa_i ((pa : Nat) : Int), xa_i ((jo : Nat) : Int), xa_i wa, xa_i sr, xa_i pu, xa_i ri] := (hqf _ (by omega)).trans hB0
    have hB1 : h'.1 (k + 3 + 1) = xa_a 9 ld := (hqf _ (by omega)).trans hB1
    have hB2 : h'.1 (k + 3 + 2) = xa_a 2 dg := (hqf _ (by omega)).trans hB2
    have hH0 : h'.1 (k + 11) = xa_o 5 [xa_r (k + 11 + 1), xa_r (k + 11 + 2), xa_r (k + 11 + 3), xa_i ((pc : Nat) : Int)] := (hqf _ (by omega)).trans hH0
    have hH1 : h'.1 (k + 11 + 1) = xa_a 240 mv := (hqf _ (by omega)).trans hH1
    have hH2 : h'.1 (k + 11 + 2) = xa_a 4 le := (hqf _ (by omega)).trans hH2
    have hH3 : h'.1 (k + 11 + 3) = xa_a 120 fi := (hqf _ (by omega)).trans hH3
    have hn : h'.2 = h.2 := hqn.trans hn
    have fr : ∀ i, (i < k + 24 ∨ k + 32 ≤ i) → h'.1 i = h.1 i := fun i hi => (hqf i hi).trans (fr i hi)
    refine xa_iconst (pc := 17) dX9_down_17 ?_
    refine xa_istoren (pc := 18) [some (xa_r k), some (xa_i n), some (xa_i 0), none] dX9_down_18 (by decide) (Nat.le_of_ble_eq_true rfl) rfl rfl ?_
    refine xa_iconst (pc := 19) dX9_down_19 ?_
    refine xa_istoren (pc := 20) [some (xa_r k), some (xa_i n), some (xa_i 0), some (xa_i 0)] dX9_down_20 (by decide) (Nat.le_of_ble_eq_true rfl) rfl rfl ?_
    refine xa_wmono ?_ (c_down_loop hk (by omega) hri hLN hX0 hB0 hB1 hB2 hN0 361 0 (by omega) (by omega))
    rintro r h2 ⟨e1, hq⟩
    have hq := hq.symm
    subst hq
    exact ⟨⟨_, e1, Or.inr ⟨by omega, rfl⟩⟩, hTS1, ⟨ln', hN0⟩, hn, fr⟩
  · have c_7 := xa_b0.mp c_7
    refine xa_iconst (pc := 10) dX9_down_10 ?_
    refine xa_ireturn (pc := 11) dX9_down_11 rfl trivial ?_
    exact ⟨⟨_, rfl, Or.inl ⟨by omega, rfl⟩⟩, hTS0, hLn0, hn, fr⟩
