/-! a way that is followed, as it is asked -/
section FT
variable {ld dg : Nat → Int} {pa jo : Nat} {wa sr pu ri : Int} {ms : Nat → Int} {len m : Nat} {c : xCf} {u : Int} {tu lo dr : Nat → Int}
theorem drf_at (push : Int) (h0 : dr 0 = 0) {i : Nat} (hi : i ≤ m) : sp_drf dr push lo m i = sp_drs push lo i := by
  unfold sp_drf
  by_cases e : 1 ≤ i ∧ i ≤ m
  · rw [if_pos e]
  · rw [if_neg e, show i = 0 by omega, h0]
    rfl
theorem fw_tof (h : fwR ld dg pa jo wa sr ms len m c u tu lo) (h0 : dr 0 = 0) (push : Int) {i p : Nat} (hi : i ≤ m) (hp : p < pa) : ∃ (ci : xCf) (U : Int), cf_ok pa jo wa sr ci ∧ cr_run ld dg pa jo wa sr push ms i = some (ci, U) ∧ sp_tof tu (sp_drf dr push lo m) ((i : Nat) : Int) ((p : Nat) : Int) = U + cf_bto dg ci ((p : Nat) : Int) := by
  obtain ⟨ci, ui, g1, g2, g3, g4⟩ := h.2.2.2 i hi
  refine ⟨ci, _, g1, g3 push, ?_⟩
  unfold sp_tof
  rw [show (((i : Nat) : Int) * 3 + ((p : Nat) : Int)).toNat = i * 3 + p by omega, show ((i : Nat) : Int).toNat = i by omega, g4 p hp, drf_at push h0 hi]
  omega
theorem fw_end (h : fwR ld dg pa jo wa sr ms len m c u tu lo) (h0 : dr 0 = 0) (hp : 0 < pa) (push : Int) : ∃ U : Int, cr_done ld dg pa jo wa sr push ms len m c U ∧ sp_tof tu (sp_drf dr push lo m) ((m : Nat) : Int) 0 = U := by
  obtain ⟨ci, U, e1, e2, e3⟩ := fw_tof h h0 push (i := m) (p := 0) (Nat.le_refl _) hp
  have k := h.2.2.1 push
  have e4 := k.2.1.symm.trans e2
  cases e4
  refine ⟨_, k, ?_⟩
  have e5 : cf_bto dg c ((0 : Nat) : Int) = 0 := by
    unfold cf_bto
    rw [if_neg (by decide), if_neg (by decide)]
    rfl
  rw [e5, Int.add_zero] at e3
  exact e3
theorem fw_none (h : fwR ld dg pa jo wa sr ms len m c u tu lo) (push : Int) {t : Nat} (ht : t ≤ len) (hm : m < t) : cr_run ld dg pa jo wa sr push ms t = none := by
  have k := cr_stop (h.2.2.1 push) ht
  cases e : cr_run ld dg pa jo wa sr push ms t with
  | none => rfl
  | some q =>
    rw [e] at k
    have := k.mp rfl
    omega
theorem fw_b (hB : vB ld dg pa jo wa sr pu ri) (h : fwR ld dg pa jo wa sr ms len m c u tu lo) (h0 : dr 0 = 0) {push : Int} (hpu : -9999 ≤ push ∧ push ≤ 9999) (hm : m ≤ 60) {i p : Nat} (hi : i ≤ m) (hp : p < pa) : -3000000 ≤ sp_tof tu (sp_drf dr push lo m) ((i : Nat) : Int) ((p : Nat) : Int) ∧ sp_tof tu (sp_drf dr push lo m) ((i : Nat) : Int) ((p : Nat) : Int) ≤ 3000000 := by
  obtain ⟨ci, U, e1, e2, e3⟩ := fw_tof h h0 push hi hp
  have b1 := cr_b hB hpu i ci U e2
  have b2 := cf_bto_b hB e1 ((p : Nat) : Int)
  omega
/-- the pictures, as they are asked -/
theorem fw_film (h : fwR ld dg pa jo wa sr ms len m c u tu lo) (h0 : dr 0 = 0) (push : Int) {fi : Nat → Int} {pc : Nat} (hf : fiOk pa fi pc) (turn : Int) : ∀ n, n ≤ pc → sp_film fi tu (sp_drf dr push lo m) m turn n = fl_all ld dg pa jo wa sr push ms len fi turn n
  | 0, _ => rfl
  | n + 1, hn => by
    show (sp_film fi tu (sp_drf dr push lo m) m turn n && sp_fok fi tu (sp_drf dr push lo m) m turn n) = (fl_all ld dg pa jo wa sr push ms len fi turn n && fl_one ld dg pa jo wa sr push ms len turn (fi (4 * n)) (fi (4 * n + 1)) (fi (4 * n + 2)) (fi (4 * n + 3)))
    suffices key : sp_fok fi tu (sp_drf dr push lo m) m turn n = fl_one ld dg pa jo wa sr push ms len turn (fi (4 * n)) (fi (4 * n + 1)) (fi (4 * n + 2)) (fi (4 * n + 3)) by rw [fw_film h h0 push hf turn n (by omega), key]
    obtain ⟨q0, q1, q2, q3⟩ := hf.2 n (by omega)
    have hp30 := hf.1
    have e : ∀ j : Nat, j < 4 → sp_pic fi ((n : Nat) : Int) ((j : Nat) : Int) = fi (4 * n + j) := fun j hj => by
      unfold sp_pic
      rw [if_pos (by omega)]
      congr 1
      omega
    have e0 : sp_pic fi ((n : Nat) : Int) 0 = fi (4 * n) := e 0 (by decide)
    have e1 : sp_pic fi ((n : Nat) : Int) 1 = fi (4 * n + 1) := e 1 (by decide)
    have e2 : sp_pic fi ((n : Nat) : Int) 2 = fi (4 * n + 2) := e 2 (by decide)
    have e3 : sp_pic fi ((n : Nat) : Int) 3 = fi (4 * n + 3) := e 3 (by decide)
    unfold sp_fok
    rw [e0, e1, e2, e3]
    obtain ⟨a, ha⟩ : ∃ a : Nat, fi (4 * n) = (a : Int) := ⟨(fi (4 * n)).toNat, by omega⟩
    obtain ⟨b, hb⟩ : ∃ b : Nat, fi (4 * n + 1) = (b : Int) := ⟨(fi (4 * n + 1)).toNat, by omega⟩
    rw [ha, hb]
    by_cases hm : a ≤ m
    · obtain ⟨ci, U, w1, w2, w3⟩ := fw_tof h h0 push hm (p := b) (by omega)
      rw [fl_one_y (q := (ci, U)) (by have := h.1; omega) w2, w3, decide_eq_true (show ((a : Nat) : Int) ≤ ((m : Nat) : Int) by omega), Bool.true_and, Int.add_assoc]
    · rw [fl_one_n (fun z => fw_none h push (by omega) (by omega)), decide_eq_false (by omega), Bool.false_and]
end FT

theorem c_drift2_loop {G : xa_G} {h0 : xa_H} {q kb : Nat} {tu lo dr : Nat → Int} {dn : Nat} {al pu : Int} (hq : 2 ≤ q) (hdn : dn ≤ 60) (hlo : ∀ i, i ≤ dn → 2 ≤ lo i ∧ lo i ≤ 297) (hpu : -9999 ≤ pu ∧ pu ≤ 9999) : ∀ (d : Nat) (m : Nat) (h : xa_H), dn - m < d → (m ≤ dn) → (h.2 = h0.2) → (q + 6 < h.2) → (h.1 q = xa_o 8 [xa_r (q + 4), xa_r kb, xa_r (q + 1), xa_r (q + 2), xa_r (q + 3), xa_i ((dn : Nat) : Int), xa_i al]) → (h.1 (q + 1) = xa_a 183 tu) → (h.1 (q + 2) = xa_a 61 lo) → (h.1 (q + 3) = xa_a 61 (sp_drf dr pu lo m)) → (∀ i, (i < q ∨ q + 4 ≤ i) → h.1 i = h0.1 i) → xa_W G mX8_drift (xa_Z G (fun r h' => r = none ∧ xTr h' q kb tu lo (sp_drf dr pu lo dn) dn al ∧ h'.2 = h0.2 ∧ ∀ i, (i < q ∨ q + 4 ≤ i) → h'.1 i = h0.1 i)) 4 [some (xa_r q), some (xa_i pu), some (xa_i (sp_drs pu lo m)), some (xa_i ((m + 1 : Nat) : Int))] [] h 0 0 := by
  intro d
  induction d with
  | zero => intros; exfalso; omega
  | succ d ih =>
    intro m h hd hm hn0 hqn hT0 hT1 hT2 hT3 fr0
    have hn : h.2 = h.2 := rfl
    have fr : ∀ i, (i < q ∨ q + 4 ≤ i) → h.1 i = h.1 i := fun _ _ => rfl
    refine xa_iload_n (pc := 4) dX8_drift_4 rfl ?_
    refine xa_aload_n (pc := 5) dX8_drift_5 rfl ?_
    refine xa_getfield (pc := 6) dX8_drift_6 flRX8_37 (by omega) (by omega) hT0 rfl ?_
    refine xa_icmp_gt (pc := 9) (tgt := 56) dX8_drift_9 (by decide) ⟨by omega, by omega⟩ ⟨by omega, by omega⟩ (fun c_9 => ?_) (fun c_9 => ?_)
    · skip
      refine xa_return (pc := 56) dX8_drift_56 rfl ?_
      have hme : m = dn := by omega
      subst hme
      exact ⟨rfl, ⟨hT0, hT1, hT2, hT3, by omega, by omega⟩, by omega, fr0⟩
    · skip
      refine xa_iload_n (pc := 12) dX8_drift_12 rfl ?_
      refine xa_aload_n (pc := 13) dX8_drift_13 rfl ?_
      refine xa_getfield (pc := 14) dX8_drift_14 flRX8_18 (by omega) (by omega) hT0 rfl ?_
      refine xa_alen (pc := 17) dX8_drift_17 (by omega) hT3 ?_
      refine xa_top (y := 61) rfl ?_
      refine xa_icmp_ge (pc := 18) (tgt := 56) dX8_drift_18 (by decide) ⟨by omega, by omega⟩ (by decide) (fun c_18 => ?_) (fun c_18 => ?_)
      · skip
        exfalso; omega
      · skip
        refine xa_iload_n (pc := 21) dX8_drift_21 rfl ?_
        refine xa_aload_n (pc := 22) dX8_drift_22 rfl ?_
        refine xa_getfield (pc := 23) dX8_drift_23 flRX8_15 (by omega) (by omega) hT0 rfl ?_
        refine xa_alen (pc := 26) dX8_drift_26 (by omega) hT2 ?_
        refine xa_top (y := 61) rfl ?_
        refine xa_icmp_ge (pc := 27) (tgt := 56) dX8_drift_27 (by decide) ⟨by omega, by omega⟩ (by decide) (fun c_27 => ?_) (fun c_27 => ?_)
        · skip
          exfalso; omega
        · skip
          refine xa_iload_n (pc := 30) dX8_drift_30 rfl ?_
          refine xa_iload_n (pc := 31) dX8_drift_31 rfl ?_
          refine xa_aload_n (pc := 32) dX8_drift_32 rfl ?_
          refine xa_getfield (pc := 33) dX8_drift_33 flRX8_15 (by omega) (by omega) hT0 rfl ?_
          refine xa_iload_n (pc := 36) dX8_drift_36 rfl ?_
          refine xa_ialdw (pc := 37) (m + 1) dX8_drift_37 (by omega) hT2 (by omega) (by omega) (by omega) ?_
          have b_37 := hlo ((m + 1)) (by omega)
          refine xa_callS (pc := 38) (as := [xa_i pu, xa_i (lo (m + 1))]) (rest := [xa_i (sp_drs pu lo m)]) dX8_drift_38 ⟨qX9_cut.1, qX9_cut.2.1, qX9_cut.2.2, by decide, by decide⟩ lkRX8_83 smX9_cut rfl rfl (Nat.le_of_ble_eq_true rfl) (Nat.zero_le _) (Nat.zero_le _) (c_cut _ _ ⟨by omega, by omega⟩ ⟨by omega, by omega⟩) (fun r h' hq => ?_)
          obtain ⟨rfl, hq⟩ := hq
          have hq := hq.symm
          subst hq
          refine xa_iadd (pc := 41) dX8_drift_41 ?_
          refine xa_istoren (pc := 42) [some (xa_r q), some (xa_i pu), some (xa_i ((sp_drs pu lo m) + (pu.tdiv (lo (m + 1))))), some (xa_i ((m + 1 : Nat) : Int))] dX8_drift_42 (by decide) (Nat.le_of_ble_eq_true rfl) rfl rfl ?_
          refine xa_aload_n (pc := 43) dX8_drift_43 rfl ?_
          refine xa_getfield (pc := 44) dX8_drift_44 flRX8_18 (by omega) (by omega) hT0 rfl ?_
          refine xa_iload_n (pc := 47) dX8_drift_47 rfl ?_
          refine xa_iload_n (pc := 48) dX8_drift_48 rfl ?_
          refine xa_iastw (pc := 49) (m + 1) dX8_drift_49 (by omega) (by omega) hT3 (by omega) (by omega) (by omega) (fun h1 nh1 ch1 oh1 => ?_)
          have hT3 : h1.1 (q + 3) = xa_a 61 (xa_upf (sp_drf dr pu lo m) (m + 1) ((sp_drs pu lo m) + (pu.tdiv (lo (m + 1))))) := ch1
          have hT0 : h1.1 q = xa_o 8 [xa_r (q + 4), xa_r kb, xa_r (q + 1), xa_r (q + 2), xa_r (q + 3), xa_i ((dn : Nat) : Int), xa_i al] := (oh1 _ (by omega)).trans hT0
          have hT1 : h1.1 (q + 1) = xa_a 183 tu := (oh1 _ (by omega)).trans hT1
          have hT2 : h1.1 (q + 2) = xa_a 61 lo := (oh1 _ (by omega)).trans hT2
          have hn : h1.2 = h.2 := nh1.trans hn
          have fr : ∀ i, (i < q ∨ q + 4 ≤ i) → h1.1 i = h.1 i := fun i hi => (oh1 i (by omega)).trans (fr i hi)
          refine xa_iincw (pc := 50) (y := ((m + 1 : Nat) : Int) + 1) [some (xa_r q), some (xa_i pu), some (xa_i ((sp_drs pu lo m) + (pu.tdiv (lo (m + 1))))), some (xa_i (((m + 1 : Nat) : Int) + 1))] dX8_drift_50 (by decide) rfl rfl (by omega) rfl ?_
          refine xa_goto (pc := 53) (tgt := 4) dX8_drift_53 (by decide) ?_
          exact ih (m + 1) _ (by omega) (by omega) (by omega) (by omega) hT0 hT1 hT2 (by rw [hT3]; exact congrArg _ (sp_drf_s dr pu lo m)) (fun i hi => (fr i hi).trans (fr0 i hi))
theorem c_drift2 {G : xa_G} {h : xa_H} (q kb : Nat) (tu lo dr : Nat → Int) (dn : Nat) (al : Int) (pu : Int) (hdn : dn ≤ 60) (hlo : ∀ i, i ≤ dn → 2 ≤ lo i ∧ lo i ≤ 297) (hpu : -9999 ≤ pu ∧ pu ≤ 9999) (hT : xTr h q kb tu lo dr dn al)  : xa_M G mX8_drift [xa_r q, xa_i pu] h 0 0 (fun r h' => r = none ∧ xTr h' q kb tu lo (sp_drf dr pu lo dn) dn al ∧ h'.2 = h.2 ∧ ∀ i, (i < q ∨ q + 4 ≤ i) → h'.1 i = h.1 i) := by
  refine xa_enter (by decide +kernel) (Nat.le_of_ble_eq_true rfl) ?_
  refine xa_locals (ls' := [some (xa_r q), some (xa_i pu), none, none]) rfl ?_
  obtain ⟨hT0, hT1, hT2, hT3, hTq, hTn⟩ := hT
  refine xa_iconst (pc := 0) dX8_drift_0 ?_
  refine xa_istoren (pc := 1) [some (xa_r q), some (xa_i pu), some (xa_i 0), none] dX8_drift_1 (by decide) (Nat.le_of_ble_eq_true rfl) rfl rfl ?_
  refine xa_iconst (pc := 2) dX8_drift_2 ?_
  refine xa_istoren (pc := 3) [some (xa_r q), some (xa_i pu), some (xa_i 0), some (xa_i 1)] dX8_drift_3 (by decide) (Nat.le_of_ble_eq_true rfl) rfl rfl ?_
  exact c_drift2_loop hTq hdn hlo hpu (dn + 1) 0 h (by omega) (by omega) rfl hTn hT0 hT1 hT2 (by rw [sp_drf_0]; exact hT3) (fun _ _ => rfl)
theorem c_isFilmed2_loop {G : xa_G} {h : xa_H} {q kb kh pa : Nat} {tu lo dr mv le fi : Nat → Int} {dn pc : Nat} {al turn : Int} (hdn : dn ≤ 60) (hturn : 0 ≤ turn ∧ turn ≤ 359) (htb : ∀ i p : Nat, i ≤ dn → p < pa → -3000000 ≤ sp_tof tu dr ((i : Nat) : Int) ((p : Nat) : Int) ∧ sp_tof tu dr ((i : Nat) : Int) ((p : Nat) : Int) ≤ 3000000) (hfi : fiOk pa fi pc) (hpa : pa ≤ 3) (hT : xTr h q kb tu lo dr dn al) (hH : xH h kh mv le fi pc) : ∀ (d : Nat) (m : Nat) (g4 g5 : Option xa_V), pc - m < d → (m ≤ pc) → (sp_film fi tu dr dn turn m = true) → xa_W G mX8_isFilmed (xa_Z G (fun r h' => r = some (xa_i (xa_b (sp_film fi tu dr dn turn pc = true))) ∧ h' = h)) 2 [some (xa_r q), some (xa_r kh), some (xa_i turn), some (xa_i ((m : Nat) : Int)), g4, g5] [] h 0 0 := by
  intro d
  induction d with
  | zero => intros; exfalso; omega
  | succ d ih =>
    intro m g4 g5 hd hm hf
    obtain ⟨hT0, hT1, hT2, hT3, hTq, hTn⟩ := hT
    obtain ⟨hH0, hH1, hH2, hH3, hHk, hHn⟩ := hH
    have hpc30 := hfi.1
    refine xa_iload_n (pc := 2) dX8_isFilmed_2 rfl ?_
    refine xa_aload_n (pc := 3) dX8_isFilmed_3 rfl ?_
    refine xa_getfield (pc := 4) dX8_isFilmed_4 flRX8_90 (by omega) (by omega) hH0 rfl ?_
    refine xa_icmp_ge (pc := 7) (tgt := 73) dX8_isFilmed_7 (by decide) ⟨by omega, by omega⟩ ⟨by omega, by omega⟩ (fun c_7 => ?_) (fun c_7 => ?_)
    · skip
      refine xa_iconst (pc := 73) dX8_isFilmed_73 ?_
      refine xa_ireturn (pc := 74) dX8_isFilmed_74 rfl (Or.inr rfl) ?_
      have hme : m = pc := by omega
      subst hme
      exact ⟨congrArg (fun z => some (xa_i z)) (xa_bt hf), rfl⟩
    · skip
      obtain ⟨w0, w1, w2, w3⟩ := hfi.2 m (by omega)
      have pe : ∀ j : Nat, j < 4 → sp_pic fi ((m : Nat) : Int) ((j : Nat) : Int) = fi (4 * m + j) := fun j hj => by unfold sp_pic; rw [if_pos (by omega)]; congr 1; omega
      have pe0 : sp_pic fi ((m : Nat) : Int) 0 = fi (4 * m) := pe 0 (by decide)
      have pe1 : sp_pic fi ((m : Nat) : Int) 1 = fi (4 * m + 1) := pe 1 (by decide)
      have pe2 : sp_pic fi ((m : Nat) : Int) 2 = fi (4 * m + 2) := pe 2 (by decide)
      have pe3 : sp_pic fi ((m : Nat) : Int) 3 = fi (4 * m + 3) := pe 3 (by decide)
      clear pe
      refine xa_aload_n (pc := 10) dX8_isFilmed_10 rfl ?_
      refine xa_iload_n (pc := 11) dX8_isFilmed_11 rfl ?_
      refine xa_iconst (pc := 12) dX8_isFilmed_12 ?_
      refine xa_callV (pc := 13) (as := [xa_i ((m : Nat) : Int), xa_i 0]) (rest := []) dX8_isFilmed_13 ⟨qX5_pictureOf.1, qX5_pictureOf.2.1, qX5_pictureOf.2.2, by decide, by decide⟩ lkRX8_93 imX5_pictureOf seX5_pictureOf rfl rfl (by omega) (by omega) hH0 rfl (Nat.le_of_ble_eq_true rfl) (Nat.zero_le _) (Nat.zero_le _) (c_pictureOf _ _ _ _ _ _ _ (by omega) (by omega) ⟨hH0, hH1, hH2, hH3, by omega, by omega⟩) (fun r h' hq => ?_)
      obtain ⟨rfl, hq⟩ := hq
      have hq := hq.symm
      subst hq
      refine xa_istorew (pc := 16) [some (xa_r q), some (xa_r kh), some (xa_i turn), some (xa_i ((m : Nat) : Int)), some (xa_i (sp_pic fi ((m : Nat) : Int) 0)), g5] dX8_isFilmed_16 (by decide) (Nat.le_of_ble_eq_true rfl) rfl rfl ?_
      refine xa_iload (pc := 18) dX8_isFilmed_18 rfl ?_
      refine xa_aload_n (pc := 20) dX8_isFilmed_20 rfl ?_
      refine xa_getfield (pc := 21) dX8_isFilmed_21 flRX8_37 (by omega) (by omega) hT0 rfl ?_
      refine xa_icmp_le (pc := 24) (tgt := 29) dX8_isFilmed_24 (by decide) ⟨by omega, by omega⟩ ⟨by omega, by omega⟩ (fun c_24 => ?_) (fun c_24 => ?_)
      · skip
        refine xa_iload_n (pc := 29) dX8_isFilmed_29 rfl ?_
        refine xa_aload_n (pc := 30) dX8_isFilmed_30 rfl ?_
        refine xa_iload (pc := 31) dX8_isFilmed_31 rfl ?_
        refine xa_aload_n (pc := 33) dX8_isFilmed_33 rfl ?_
        refine xa_iload_n (pc := 34) dX8_isFilmed_34 rfl ?_
        refine xa_iconst (pc := 35) dX8_isFilmed_35 ?_
        refine xa_callV (pc := 36) (as := [xa_i ((m : Nat) : Int), xa_i 1]) (rest := [xa_i (sp_pic fi ((m : Nat) : Int) 0), xa_r q, xa_i turn]) dX8_isFilmed_36 ⟨qX5_pictureOf.1, qX5_pictureOf.2.1, qX5_pictureOf.2.2, by decide, by decide⟩ lkRX8_93 imX5_pictureOf seX5_pictureOf rfl rfl (by omega) (by omega) hH0 rfl (Nat.le_of_ble_eq_true rfl) (Nat.zero_le _) (Nat.zero_le _) (c_pictureOf _ _ _ _ _ _ _ (by omega) (by omega) ⟨hH0, hH1, hH2, hH3, by omega, by omega⟩) (fun r h' hq => ?_)
        obtain ⟨rfl, hq⟩ := hq
        have hq := hq.symm
        subst hq
        obtain ⟨ai, hai⟩ : ∃ a : Nat, sp_pic fi ((m : Nat) : Int) 0 = (a : Int) := ⟨(sp_pic fi ((m : Nat) : Int) 0).toNat, by omega⟩
        obtain ⟨bi, hbi⟩ : ∃ a : Nat, sp_pic fi ((m : Nat) : Int) 1 = (a : Int) := ⟨(sp_pic fi ((m : Nat) : Int) 1).toNat, by omega⟩
        have z1 := htb ai bi (by omega) (by omega)
        rw [← hai, ← hbi] at z1
        refine xa_callV (pc := 39) (as := [xa_i (sp_pic fi ((m : Nat) : Int) 0), xa_i (sp_pic fi ((m : Nat) : Int) 1)]) (rest := [xa_i turn]) dX8_isFilmed_39 ⟨qX8_turnOf.1, qX8_turnOf.2.1, qX8_turnOf.2.2, by decide, by decide⟩ lkRX8_96 imX8_turnOf seX8_turnOf rfl rfl (by omega) (by omega) hT0 rfl (Nat.le_of_ble_eq_true rfl) (Nat.zero_le _) (Nat.zero_le _) (c_turnOf _ _ _ _ _ _ _ _ _ (by omega) (by omega) ⟨hT0, hT1, hT2, hT3, by omega, by omega⟩) (fun r h' hq => ?_)
        obtain ⟨rfl, hq⟩ := hq
        have hq := hq.symm
        subst hq
        refine xa_iadd (pc := 42) dX8_isFilmed_42 ?_
        refine xa_istorew (pc := 43) [some (xa_r q), some (xa_r kh), some (xa_i turn), some (xa_i ((m : Nat) : Int)), some (xa_i (sp_pic fi ((m : Nat) : Int) 0)), some (xa_i (turn + (sp_tof tu dr (sp_pic fi ((m : Nat) : Int) 0) (sp_pic fi ((m : Nat) : Int) 1))))] dX8_isFilmed_43 (by decide) (Nat.le_of_ble_eq_true rfl) rfl rfl ?_
        refine xa_iload (pc := 45) dX8_isFilmed_45 rfl ?_
        refine xa_aload_n (pc := 47) dX8_isFilmed_47 rfl ?_
        refine xa_iload_n (pc := 48) dX8_isFilmed_48 rfl ?_
        refine xa_iconst (pc := 49) dX8_isFilmed_49 ?_
        refine xa_callV (pc := 50) (as := [xa_i ((m : Nat) : Int), xa_i 2]) (rest := [xa_i (turn + (sp_tof tu dr (sp_pic fi ((m : Nat) : Int) 0) (sp_pic fi ((m : Nat) : Int) 1)))]) dX8_isFilmed_50 ⟨qX5_pictureOf.1, qX5_pictureOf.2.1, qX5_pictureOf.2.2, by decide, by decide⟩ lkRX8_93 imX5_pictureOf seX5_pictureOf rfl rfl (by omega) (by omega) hH0 rfl (Nat.le_of_ble_eq_true rfl) (Nat.zero_le _) (Nat.zero_le _) (c_pictureOf _ _ _ _ _ _ _ (by omega) (by omega) ⟨hH0, hH1, hH2, hH3, by omega, by omega⟩) (fun r h' hq => ?_)
        obtain ⟨rfl, hq⟩ := hq
        have hq := hq.symm
        subst hq
        refine xa_callS (pc := 53) (as := [xa_i (turn + (sp_tof tu dr (sp_pic fi ((m : Nat) : Int) 0) (sp_pic fi ((m : Nat) : Int) 1))), xa_i (sp_pic fi ((m : Nat) : Int) 2)]) (rest := []) dX8_isFilmed_53 ⟨qX9_off.1, qX9_off.2.1, qX9_off.2.2, by decide, by decide⟩ lkRX8_99 smX9_off rfl rfl (Nat.le_of_ble_eq_true rfl) (Nat.zero_le _) (Nat.zero_le _) (c_off _ _ ⟨by omega, by omega⟩) (fun r h' hq => ?_)
        obtain ⟨rfl, hq⟩ := hq
        have hq := hq.symm
        subst hq
        have z4 := sp_off_b (turn + sp_tof tu dr (sp_pic fi ((m : Nat) : Int) 0) (sp_pic fi ((m : Nat) : Int) 1)) (sp_pic fi ((m : Nat) : Int) 2)
        refine xa_aload_n (pc := 56) dX8_isFilmed_56 rfl ?_
        refine xa_iload_n (pc := 57) dX8_isFilmed_57 rfl ?_
        refine xa_iconst (pc := 58) dX8_isFilmed_58 ?_
        refine xa_callV (pc := 59) (as := [xa_i ((m : Nat) : Int), xa_i 3]) (rest := [xa_i (sp_off (turn + (sp_tof tu dr (sp_pic fi ((m : Nat) : Int) 0) (sp_pic fi ((m : Nat) : Int) 1))) (sp_pic fi ((m : Nat) : Int) 2))]) dX8_isFilmed_59 ⟨qX5_pictureOf.1, qX5_pictureOf.2.1, qX5_pictureOf.2.2, by decide, by decide⟩ lkRX8_93 imX5_pictureOf seX5_pictureOf rfl rfl (by omega) (by omega) hH0 rfl (Nat.le_of_ble_eq_true rfl) (Nat.zero_le _) (Nat.zero_le _) (c_pictureOf _ _ _ _ _ _ _ (by omega) (by omega) ⟨hH0, hH1, hH2, hH3, by omega, by omega⟩) (fun r h' hq => ?_)
        obtain ⟨rfl, hq⟩ := hq
        have hq := hq.symm
        subst hq
        refine xa_icmp_le (pc := 62) (tgt := 67) dX8_isFilmed_62 (by decide) ⟨by omega, by omega⟩ ⟨by omega, by omega⟩ (fun c_62 => ?_) (fun c_62 => ?_)
        · skip
          refine xa_iincw (pc := 67) (y := ((m + 1 : Nat) : Int)) [some (xa_r q), some (xa_r kh), some (xa_i turn), some (xa_i ((m + 1 : Nat) : Int)), some (xa_i (sp_pic fi ((m : Nat) : Int) 0)), some (xa_i (turn + (sp_tof tu dr (sp_pic fi ((m : Nat) : Int) 0) (sp_pic fi ((m : Nat) : Int) 1))))] dX8_isFilmed_67 (by decide) rfl rfl (by omega) rfl ?_
          refine xa_goto (pc := 70) (tgt := 2) dX8_isFilmed_70 (by decide) ?_
          exact ih (m + 1) _ _ (by omega) (by omega) (by show (sp_film fi tu dr dn turn m && sp_fok fi tu dr dn turn m) = true; rw [hf]; unfold sp_fok; rw [decide_eq_true (by omega), decide_eq_true (by omega)]; rfl)
        · skip
          refine xa_iconst (pc := 65) dX8_isFilmed_65 ?_
          refine xa_ireturn (pc := 66) dX8_isFilmed_66 rfl (Or.inl rfl) ?_
          exact ⟨congrArg (fun z => some (xa_i z)) (xa_bf (sp_film_no (m := m) (by unfold sp_fok; rw [decide_eq_false (p := _ ≤ sp_pic fi ((m : Nat) : Int) 3) (by omega)]; simp) pc (by omega))), rfl⟩
      · skip
        refine xa_iconst (pc := 27) dX8_isFilmed_27 ?_
        refine xa_ireturn (pc := 28) dX8_isFilmed_28 rfl (Or.inl rfl) ?_
        exact ⟨congrArg (fun z => some (xa_i z)) (xa_bf (sp_film_no (m := m) (by unfold sp_fok; rw [decide_eq_false (by omega)]; rfl) pc (by omega))), rfl⟩
theorem c_isFilmed2 {G : xa_G} {h : xa_H} (q kb kh pa : Nat) (tu lo dr mv le fi : Nat → Int) (dn pc : Nat) (al turn : Int) (hdn : dn ≤ 60) (hturn : 0 ≤ turn ∧ turn ≤ 359) (htb : ∀ i p : Nat, i ≤ dn → p < pa → -3000000 ≤ sp_tof tu dr ((i : Nat) : Int) ((p : Nat) : Int) ∧ sp_tof tu dr ((i : Nat) : Int) ((p : Nat) : Int) ≤ 3000000) (hfi : fiOk pa fi pc) (hpa : pa ≤ 3) (hT : xTr h q kb tu lo dr dn al) (hH : xH h kh mv le fi pc)  : xa_M G mX8_isFilmed [xa_r q, xa_r kh, xa_i turn] h 0 0 (fun r h' => r = some (xa_i (xa_b (sp_film fi tu dr dn turn pc = true))) ∧ h' = h) := by
  refine xa_enter (by decide +kernel) (Nat.le_of_ble_eq_true rfl) ?_
  refine xa_locals (ls' := [some (xa_r q), some (xa_r kh), some (xa_i turn), none, none, none]) rfl ?_
  refine xa_iconst (pc := 0) dX8_isFilmed_0 ?_
  refine xa_istoren (pc := 1) [some (xa_r q), some (xa_r kh), some (xa_i turn), some (xa_i 0), none, none] dX8_isFilmed_1 (by decide) (Nat.le_of_ble_eq_true rfl) rfl rfl ?_
  exact c_isFilmed2_loop hdn hturn htb hfi hpa hT hH (pc + 1) 0 _ _ (by omega) (by omega) rfl
