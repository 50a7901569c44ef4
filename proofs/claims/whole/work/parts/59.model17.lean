/-! The model: soon, saved, worth -/
/-- the ticks that lie are a set's -/
def mLi (F : Nat → Nat → Int) (s : Nat → Int) (ld dg : Nat → Int) (pa jo : Nat) (wa sr pu ri : Int) : Prop := xa_ok (s 20) ∧ ∀ J : Int, (J = 0 ∨ J = 1 ∨ J = 2 ∨ J = 3) → s 20 = J → mT (360 * sm_shapes F).toNat (sG pa jo wa sr ri) (sR ld dg pa jo wa sr pu J) (F 14)
def mSim (F F' : Nat → Nat → Int) (s s' : Nat → Int) : Prop := (∀ i, i ≠ 14 → i ≠ 15 → F' i = F i) ∧ s' 0 = s 0 ∧ s' 13 = s 13
theorem mSim_l (F : Nat → Nat → Int) (T Q : Nat → Int) {s s' : Nat → Int} (h : s' 0 = s 0 ∧ s' 13 = s 13) : mSim F (xa_uF (xa_uF F 14 T) 15 Q) s s' := ⟨fun i h1 h2 => by unfold xa_uF; rw [if_neg h2, if_neg h1], h⟩
theorem uF_sim {F F1 : Nat → Nat → Int} (h : F1 = xa_uF (xa_uF F 14 (F1 14)) 15 (F1 15)) (T Q : Nat → Int) : xa_uF (xa_uF F1 14 T) 15 Q = xa_uF (xa_uF F 14 (xa_uF (xa_uF F1 14 T) 15 Q 14)) 15 (xa_uF (xa_uF F1 14 T) 15 Q 15) := by
  funext i
  by_cases h15 : i = 15
  · subst h15; rfl
  by_cases h14 : i = 14
  · subst h14; rfl
  have e : F1 i = F i := by
    rw [h]
    unfold xa_uF
    rw [if_neg h15, if_neg h14]
  unfold xa_uF
  rw [if_neg h15, if_neg h14, if_neg h15, if_neg h14]
  exact e
theorem uF_id (F : Nat → Nat → Int) : F = xa_uF (xa_uF F 14 (F 14)) 15 (F 15) := by
  funext i
  unfold xa_uF
  split
  · rename_i e
    rw [e]
  · split
    · rename_i e
      rw [e]
    · rfl
theorem wj_ok (jo : Nat) (j : Int) : (if jo = 1 then (0 : Int) else if j = 0 then 2 else 1) = 0 ∨ (if jo = 1 then (0 : Int) else if j = 0 then 2 else 1) = 1 ∨ (if jo = 1 then (0 : Int) else if j = 0 then 2 else 1) = 2 ∨ (if jo = 1 then (0 : Int) else if j = 0 then 2 else 1) = 3 := by
  repeat' split
  all_goals simp
theorem fall_b {m H : Int} (h0 : 0 ≤ m) (h : m * m ≤ H) (hH : H ≤ 100000) : m ≤ 100000 := by
  by_cases z : m ≤ 1
  · omega
  · have z1 := Int.mul_le_mul_of_nonneg_left (show (1 : Int) ≤ m by omega) h0
    omega
theorem allj (jo : Nat) : (if jo = 1 then (1 : Int) else 3) = 0 ∨ (if jo = 1 then (1 : Int) else 3) = 1 ∨ (if jo = 1 then (1 : Int) else 3) = 2 ∨ (if jo = 1 then (1 : Int) else 3) = 3 := by split <;> simp
theorem c_mSoonBy {G : xa_G} {h : xa_H} (k : Nat) (J turn : Int) (F : Nat → Nat → Int) (s : Nat → Int) (ld dg : Nat → Int) (pa jo : Nat) (wa sr pu ri : Int) (hJ : J = 0 ∨ J = 1 ∨ J = 2 ∨ J = 3) (htu : 0 ≤ turn ∧ turn ≤ 359) (ho : mOk F ld dg pa jo wa sr pu ri) (hl : mLi F s ld dg pa jo wa sr pu ri) (hM : xM h k F s)  : xa_M G mX10_soonBy [xa_r k, xa_i J, xa_i turn] h 0 0 (fun r h' => (∃ (T Q : Nat → Int) (x : Int), r = some (xa_i (if 0 ≤ T (sx jo wa sr (cf_rest pa) turn) ∧ T (sx jo wa sr (cf_rest pa) turn) ≤ 200 then T (sx jo wa sr (cf_rest pa) turn) else -4)) ∧ mT (360 * sm_shapes F).toNat (sG pa jo wa sr ri) (sR ld dg pa jo wa sr pu J) T ∧ xM h' k (xa_uF (xa_uF F 14 T) 15 Q) (xa_upf (xa_upf (xa_upf s 14 pu) 20 J) 23 x)) ∧ h'.2 = h.2 ∧ ∀ i, (i < k ∨ k + 17 ≤ i) → h'.1 i = h.1 i) := by
  refine xa_enter (by decide +kernel) (Nat.le_of_ble_eq_true rfl) ?_
  refine xa_locals (ls' := [some (xa_r k), some (xa_i J), some (xa_i turn), none]) rfl ?_
  have hn : h.2 = h.2 := rfl
  have fr : ∀ i, (i < k ∨ k + 17 ≤ i) → h.1 i = h.1 i := fun _ _ => rfl
  obtain ⟨hM0, hM1, hM2, hM3, hM4, hM5, hM6, hM7, hM8, hM9, hM10, hM11, hM12, hM13, hM14, hM15, hM16, hMk, hMn⟩ := hM
  have hcr := cf_rest_ok ho.1
  have hsx := (sx_lt ho.1 ho.2.1 hcr (t := turn) (by omega))
  have hsh := sm_shapes_b ho.1 ho.2.1
  have hmb := mE_b ho.1 ho.2.1 hcr
  refine xa_aload_n (pc := 0) dX10_soonBy_0 rfl ?_
  refine xa_iload_n (pc := 1) dX10_soonBy_1 rfl ?_
  refine xa_callV (pc := 2) (as := [xa_i J]) (rest := []) dX10_soonBy_2 ⟨qX10_layTicks.1, qX10_layTicks.2.1, qX10_layTicks.2.2, by decide, by decide⟩ lkRX10_222 imX10_layTicks seX10_layTicks rfl rfl (by omega) (by omega) hM0 rfl (Nat.le_of_ble_eq_true rfl) (Nat.zero_le _) (Nat.zero_le _) (c_mLayTicks _ J F s ld dg pa jo wa sr pu ri hJ ho hl.1 (hl.2 _ hJ) ⟨hM0, hM1, hM2, hM3, hM4, hM5, hM6, hM7, hM8, hM9, hM10, hM11, hM12, hM13, hM14, hM15, hM16, by omega, by omega⟩) (fun r h' hq => ?_)
  obtain ⟨⟨rfl, T, Q, x, hT, hM⟩, hqn, hqf⟩ := hq
  obtain ⟨hM0, hM1, hM2, hM3, hM4, hM5, hM6, hM7, hM8, hM9, hM10, hM11, hM12, hM13, hM14, hM15, hM16, hMk, hMn⟩ := hM
  have hM0 : h'.1 k = xa_o 10 [xa_i (s 0), xa_r (k + 1), xa_r (k + 2), xa_r (k + 3), xa_r (k + 4), xa_r (k + 5), xa_r (k + 6), xa_r (k + 7), xa_r (k + 8), xa_r (k + 9), xa_r (k + 10), xa_r (k + 11), xa_r (k + 12), xa_i (s 13), xa_i pu, xa_i (s 15), xa_r (k + 13), xa_i (s 17), xa_i (s 18), xa_i (s 19), xa_i J, xa_r (k + 14), xa_r (k + 15), xa_i x, xa_r (k + 16)] := hM0
  have hM1 : h'.1 (k + 1) = xa_a 120 (F 1) := hM1
  have hM2 : h'.1 (k + 2) = xa_a 2 (F 2) := hM2
  have hM3 : h'.1 (k + 3) = xa_a 18 (F 3) := hM3
  have hM4 : h'.1 (k + 4) = xa_a 2 (F 4) := hM4
  have hM5 : h'.1 (k + 5) = xa_a 4 (F 5) := hM5
  have hM6 : h'.1 (k + 6) = xa_a 4 (F 6) := hM6
  have hM7 : h'.1 (k + 7) = xa_a 2 (F 7) := hM7
  have hM8 : h'.1 (k + 8) = xa_a 2 (F 8) := hM8
  have hM9 : h'.1 (k + 9) = xa_a 12 (F 9) := hM9
  have hM10 : h'.1 (k + 10) = xa_a 720 (F 10) := hM10
  have hM11 : h'.1 (k + 11) = xa_a 3 (F 11) := hM11
  have hM12 : h'.1 (k + 12) = xa_a 360 (F 12) := hM12
  have hM13 : h'.1 (k + 13) = xa_a 3 (F 13) := hM13
  have hM14 : h'.1 (k + 14) = xa_a 583200 T := hM14
  have hM15 : h'.1 (k + 15) = xa_a 583200 Q := hM15
  have hM16 : h'.1 (k + 16) = xa_a 4 (F 16) := hM16
  have hn : h'.2 = h.2 := hqn.trans hn
  have fr : ∀ i, (i < k ∨ k + 17 ≤ i) → h'.1 i = h.1 i := fun i hi => (hqf i (by omega)).trans (fr i hi)
  refine xa_aload_n (pc := 5) dX10_soonBy_5 rfl ?_
  refine xa_getfield (pc := 6) dX10_soonBy_6 flRX10_54 (by omega) (by omega) hM0 rfl ?_
  refine xa_sipush (pc := 9) dX10_soonBy_9 rfl ?_
  refine xa_aload_n (pc := 12) dX10_soonBy_12 rfl ?_
  refine xa_callV (pc := 13) (as := []) (rest := [xa_i 360, xa_r (k + 14)]) dX10_soonBy_13 ⟨qX10_rest.1, qX10_rest.2.1, qX10_rest.2.2, by decide, by decide⟩ lkRX10_161 imX10_rest seX10_rest rfl rfl (by omega) (by omega) hM0 rfl (Nat.le_of_ble_eq_true rfl) (Nat.zero_le _) (Nat.zero_le _) (c_kRest (F := (xa_uF (xa_uF F 14 T) 15 Q)) (s := (xa_upf (xa_upf (xa_upf s 14 pu) 20 J) 23 x)) ho ⟨hM0, hM1, hM2, hM3, hM4, hM5, hM6, hM7, hM8, hM9, hM10, hM11, hM12, hM13, hM14, hM15, hM16, by omega, by omega⟩) (fun r h' hq => ?_)
  obtain ⟨rfl, hq⟩ := hq
  have hq := hq.symm
  subst hq
  refine xa_imul (pc := 16) dX10_soonBy_16 ?_
  refine xa_iload_n (pc := 17) dX10_soonBy_17 rfl ?_
  refine xa_iadd (pc := 18) dX10_soonBy_18 ?_
  refine xa_ialdw (pc := 19) (sx jo wa sr (cf_rest pa) turn) dX10_soonBy_19 (by omega) hM14 (by omega) (by omega) rfl ?_
  have tb_19 := hT.2.2.2 (sx jo wa sr (cf_rest pa) turn) (sx_lt ho.1 ho.2.1 hcr (t := turn) (by omega)).1
  refine xa_istoren (pc := 20) [some (xa_r k), some (xa_i J), some (xa_i turn), some (xa_i (T (sx jo wa sr (cf_rest pa) turn)))] dX10_soonBy_20 (by decide) (Nat.le_of_ble_eq_true rfl) rfl rfl ?_
  refine xa_iload_n (pc := 21) dX10_soonBy_21 rfl ?_
  refine xa_i2l (pc := 22) dX10_soonBy_22 ⟨by omega, by omega⟩ ?_
  refine xa_lconst (pc := 23) (n := 0) dX10_soonBy_23 rfl ?_
  refine xa_ldc2 (pc := 24) (n := 200) dX10_soonBy_24 ctRX10_226 rfl ?_
  refine xa_callS (pc := 27) (as := [xa_l (T (sx jo wa sr (cf_rest pa) turn)), xa_l 0, xa_l 200]) (rest := []) dX10_soonBy_27 ⟨qX10_in.1, qX10_in.2.1, qX10_in.2.2, by decide, by decide⟩ lkRX10_65 smX10_in rfl rfl (Nat.le_of_ble_eq_true rfl) (Nat.zero_le _) (Nat.zero_le _) (c_in _ _ _ ⟨by omega, by omega⟩ ⟨by omega, by omega⟩ ⟨by omega, by omega⟩) (fun r h' hq => ?_)
  obtain ⟨rfl, hq⟩ := hq
  have hq := hq.symm
  subst hq
  refine xa_if_eq (pc := 30) (tgt := 37) dX10_soonBy_30 (by decide) xa_okb (fun c_30 => ?_) (fun c_30 => ?_)
  · have c_30 := xa_b0.mp c_30
    refine xa_bipush (pc := 37) dX10_soonBy_37 rfl ?_
    refine xa_ireturn (pc := 39) dX10_soonBy_39 rfl trivial ?_
    exact ⟨⟨T, Q, x, congrArg (fun z => some (xa_i z)) (if_neg (by omega) : (if 0 ≤ T (sx jo wa sr (cf_rest pa) turn) ∧ T (sx jo wa sr (cf_rest pa) turn) ≤ 200 then T (sx jo wa sr (cf_rest pa) turn) else -4) = _).symm, hT, ⟨hM0, hM1, hM2, hM3, hM4, hM5, hM6, hM7, hM8, hM9, hM10, hM11, hM12, hM13, hM14, hM15, hM16, by omega, by omega⟩⟩, hn, fr⟩
  · have c_30 := xa_b1.mp c_30
    refine xa_iload_n (pc := 33) dX10_soonBy_33 rfl ?_
    refine xa_goto (pc := 34) (tgt := 39) dX10_soonBy_34 (by decide) ?_
    refine xa_ireturn (pc := 39) dX10_soonBy_39 rfl trivial ?_
    exact ⟨⟨T, Q, x, congrArg (fun z => some (xa_i z)) (if_pos (by omega) : (if 0 ≤ T (sx jo wa sr (cf_rest pa) turn) ∧ T (sx jo wa sr (cf_rest pa) turn) ≤ 200 then T (sx jo wa sr (cf_rest pa) turn) else -4) = _).symm, hT, ⟨hM0, hM1, hM2, hM3, hM4, hM5, hM6, hM7, hM8, hM9, hM10, hM11, hM12, hM13, hM14, hM15, hM16, by omega, by omega⟩⟩, hn, fr⟩
theorem c_mSoon_in {G : xa_G} {Z : xa_Zt} {h : xa_H} {k ii vv : Nat} {turn v : Int} {F : Nat → Nat → Int} {s : Nat → Int} {ld dg : Nat → Int} {pa jo : Nat} {wa sr pu ri : Int} (h14 : s 14 = pu) (ho : mOk F ld dg pa jo wa sr pu ri) (hT : mT (360 * sm_shapes F).toNat (sG pa jo wa sr ri) (sR ld dg pa jo wa sr pu (if jo = 1 then 1 else 3)) (F 14)) (hv : vv ≤ 200) (hii : ii < vv) (hM : xM h k F s) {kk : Nat} {c : xCf} {t : Int} (hkk : kk ≤ 200) (hc : cf_ok pa jo wa sr c) (ht : 0 ≤ t ∧ t < 360) (K : ∀ (m : Nat) (c' : xCf), m ≤ 18 → cf_move pa jo wa sr c ((m : Nat) : Int) = some c' → cf_ok pa jo wa sr c' → F 14 (sx jo wa sr c' ((t + cf_turn ld dg pa pu c' ((m : Nat) : Int)) % 360)) = F 14 (sx jo wa sr c t) - 1 → (∀ (m' : Nat) (c1 : xCf), m' < m → cf_move pa jo wa sr c ((m' : Nat) : Int) = some c1 → F 14 (sx jo wa sr c1 ((t + cf_turn ld dg pa pu c1 ((m' : Nat) : Int)) % 360)) ≠ F 14 (sx jo wa sr c t) - 1) → xa_W G mX10_soon Z 65 [some (xa_r k), some (xa_i turn), some (xa_i ((ii : Nat) : Int)), some (xa_i v), some (xa_i (mE jo wa sr c')), some (xa_i ((t + cf_turn ld dg pa pu c' ((m : Nat) : Int)) % 360)), some (xa_i ((m : Nat) : Int)), some (xa_i ((kk + 1 : Nat) : Int)), some (xa_i (F 14 (sx jo wa sr c t))), some (xa_i (mE jo wa sr c')), some (xa_i ((t + cf_turn ld dg pa pu c' ((m : Nat) : Int)) % 360))] [] h 0 0) (hex : ∃ (m : Nat) (c' : xCf), m ≤ 18 ∧ cf_move pa jo wa sr c ((m : Nat) : Int) = some c' ∧ F 14 (sx jo wa sr c' ((t + cf_turn ld dg pa pu c' ((m : Nat) : Int)) % 360)) = F 14 (sx jo wa sr c t) - 1) : ∀ (d m : Nat) (g9 g10 : Option xa_V), 19 - m < d → m ≤ 18 → (∀ (m' : Nat) (c1 : xCf), m' < m → cf_move pa jo wa sr c ((m' : Nat) : Int) = some c1 → F 14 (sx jo wa sr c1 ((t + cf_turn ld dg pa pu c1 ((m' : Nat) : Int)) % 360)) ≠ F 14 (sx jo wa sr c t) - 1) → xa_W G mX10_soon Z 97 [some (xa_r k), some (xa_i turn), some (xa_i ((ii : Nat) : Int)), some (xa_i v), some (xa_i (mE jo wa sr c)), some (xa_i t), some (xa_i (((m : Nat) : Int) - 1)), some (xa_i ((kk : Nat) : Int)), some (xa_i (F 14 (sx jo wa sr c t))), g9, g10] [] h 0 0 := by
  obtain ⟨hM0, hM1, hM2, hM3, hM4, hM5, hM6, hM7, hM8, hM9, hM10, hM11, hM12, hM13, hM14, hM15, hM16, hMk, hMn⟩ := hM
  rw [h14] at hM0
  have hsh := sm_shapes_b ho.1 ho.2.1
  have hpu := ho.1.2.2.2.2.2.2.1
  have hmb := mE_9 ho.1 ho.2.1 hc
  have hT0 := hT.2.2.2 (sx jo wa sr c t) (sx_lt ho.1 ho.2.1 hc ht).1
  intro d
  induction d with
  | zero => intros; exfalso; omega
  | succ d ih =>
    intro m g9 g10 hd hm hno
    refine xa_iincw (pc := 97) (y := ((m : Nat) : Int)) [some (xa_r k), some (xa_i turn), some (xa_i ((ii : Nat) : Int)), some (xa_i v), some (xa_i (mE jo wa sr c)), some (xa_i t), some (xa_i ((m : Nat) : Int)), some (xa_i ((kk : Nat) : Int)), some (xa_i (F 14 (sx jo wa sr c t))), g9, g10] dX10_soon_97 (by decide) rfl rfl (by omega) rfl ?_
    refine xa_aload_n (pc := 100) dX10_soon_100 rfl ?_
    refine xa_iload (pc := 101) dX10_soon_101 rfl ?_
    refine xa_iload (pc := 103) dX10_soon_103 rfl ?_
    refine xa_callV (pc := 105) (as := [xa_i (mE jo wa sr c), xa_i ((m : Nat) : Int)]) (rest := []) dX10_soon_105 ⟨qX10_moved.1, qX10_moved.2.1, qX10_moved.2.2, by decide, by decide⟩ lkRX10_173 imX10_moved seX10_moved rfl rfl (by omega) (by omega) hM0 rfl (Nat.le_of_ble_eq_true rfl) (Nat.zero_le _) (Nat.zero_le _) (c_kMoved (F := F) (s := xa_upf s 14 pu) ho ⟨hM0, hM1, hM2, hM3, hM4, hM5, hM6, hM7, hM8, hM9, hM10, hM11, hM12, hM13, hM14, hM15, hM16, by omega, by omega⟩ hc ((m : Nat) : Int) (by omega)) (fun r h' hq => ?_)
    obtain ⟨hq2, hq⟩ := hq
    have hq := hq.symm
    subst hq
    have hq := hq2
    rcases hq with ⟨c', hcm, hc1, rfl⟩ | ⟨hcm, rfl⟩
    · skip
      have mE1 := mE_9 ho.1 ho.2.1 hc1
      refine xa_istorew (pc := 108) [some (xa_r k), some (xa_i turn), some (xa_i ((ii : Nat) : Int)), some (xa_i v), some (xa_i (mE jo wa sr c)), some (xa_i t), some (xa_i ((m : Nat) : Int)), some (xa_i ((kk : Nat) : Int)), some (xa_i (F 14 (sx jo wa sr c t))), some (xa_i (mE jo wa sr c')), g10] dX10_soon_108 (by decide) (Nat.le_of_ble_eq_true rfl) rfl rfl ?_
      refine xa_iload (pc := 110) dX10_soon_110 rfl ?_
      refine xa_if_ge (pc := 112) (tgt := 119) dX10_soon_112 (by decide) ⟨by omega, by omega⟩ (fun c_112 => ?_) (fun c_112 => ?_)
      · skip
        refine xa_iload (pc := 119) dX10_soon_119 rfl ?_
        refine xa_aload_n (pc := 121) dX10_soon_121 rfl ?_
        refine xa_iload (pc := 122) dX10_soon_122 rfl ?_
        refine xa_iload (pc := 124) dX10_soon_124 rfl ?_
        refine xa_callV (pc := 126) (as := [xa_i (mE jo wa sr c'), xa_i ((m : Nat) : Int)]) (rest := [xa_i t]) dX10_soon_126 ⟨qX10_turnedBy.1, qX10_turnedBy.2.1, qX10_turnedBy.2.2, by decide, by decide⟩ lkRX10_176 imX10_turnedBy seX10_turnedBy rfl rfl (by omega) (by omega) hM0 rfl (Nat.le_of_ble_eq_true rfl) (Nat.zero_le _) (Nat.zero_le _) (c_kTurned (F := F) (s := (xa_upf s 14 pu)) ho ⟨hM0, hM1, hM2, hM3, hM4, hM5, hM6, hM7, hM8, hM9, hM10, hM11, hM12, hM13, hM14, hM15, hM16, by omega, by omega⟩ hc1 ((m : Nat) : Int) (by omega) (cf_move_j hcm) (by show -9999 ≤ pu ∧ pu ≤ 9999; omega)) (fun r h' hq => ?_)
        obtain ⟨rfl, hq⟩ := hq
        have hq := hq.symm
        subst hq
        refine xa_top (y := cf_turn ld dg pa pu c' ((m : Nat) : Int)) rfl ?_
        have tb := cf_turn_b ho.1 hc1 hpu ((m : Nat) : Int)
        refine xa_iadd (pc := 129) dX10_soon_129 ?_
        refine xa_callS (pc := 130) (as := [xa_i (t + (cf_turn ld dg pa pu c' ((m : Nat) : Int)))]) (rest := []) dX10_soon_130 ⟨qX10_round.1, qX10_round.2.1, qX10_round.2.2, by decide, by decide⟩ lkRX10_179 smX10_round rfl rfl (Nat.le_of_ble_eq_true rfl) (Nat.zero_le _) (Nat.zero_le _) (c_round _ (by omega)) (fun r h' hq => ?_)
        obtain ⟨rfl, hq⟩ := hq
        have hq := hq.symm
        subst hq
        refine xa_istorew (pc := 133) [some (xa_r k), some (xa_i turn), some (xa_i ((ii : Nat) : Int)), some (xa_i v), some (xa_i (mE jo wa sr c)), some (xa_i t), some (xa_i ((m : Nat) : Int)), some (xa_i ((kk : Nat) : Int)), some (xa_i (F 14 (sx jo wa sr c t))), some (xa_i (mE jo wa sr c')), some (xa_i ((t + (cf_turn ld dg pa pu c' ((m : Nat) : Int))) % 360))] dX10_soon_133 (by decide) (Nat.le_of_ble_eq_true rfl) rfl rfl ?_
        refine xa_iload (pc := 135) dX10_soon_135 rfl ?_
        refine xa_if_lt (pc := 137) (tgt := 97) dX10_soon_137 (by decide) ⟨by omega, by omega⟩ (fun c_137 => ?_) (fun c_137 => ?_)
        · skip
          exfalso; omega
        · skip
          refine xa_aload_n (pc := 140) dX10_soon_140 rfl ?_
          refine xa_getfield (pc := 141) dX10_soon_141 flRX10_54 (by omega) (by omega) hM0 rfl ?_
          refine xa_sipush (pc := 144) dX10_soon_144 rfl ?_
          refine xa_iload (pc := 147) dX10_soon_147 rfl ?_
          refine xa_imul (pc := 149) dX10_soon_149 ?_
          refine xa_iload (pc := 150) dX10_soon_150 rfl ?_
          refine xa_iadd (pc := 152) dX10_soon_152 ?_
          refine xa_ialdw (pc := 153) (sx jo wa sr c' ((t + cf_turn ld dg pa pu c' ((m : Nat) : Int)) % 360)) dX10_soon_153 (by omega) hM14 (by omega) (by have := mE_b ho.1 ho.2.1 hc1; omega) rfl ?_
          have tb_153 := hT.2.2.2 (sx jo wa sr c' ((t + cf_turn ld dg pa pu c' ((m : Nat) : Int)) % 360)) (sx_lt ho.1 ho.2.1 hc1 (t := ((t + cf_turn ld dg pa pu c' ((m : Nat) : Int)) % 360)) (by omega)).1
          refine xa_iload (pc := 154) dX10_soon_154 rfl ?_
          refine xa_iconst (pc := 156) dX10_soon_156 ?_
          refine xa_isub (pc := 157) dX10_soon_157 ?_
          refine xa_icmp_ne (pc := 158) (tgt := 97) dX10_soon_158 (by decide) ⟨by omega, by omega⟩ ⟨by omega, by omega⟩ (fun c_158 => ?_) (fun c_158 => ?_)
          · skip
            have hno2 : ∀ (m' : Nat) (c1 : xCf), m' < m + 1 → cf_move pa jo wa sr c ((m' : Nat) : Int) = some c1 → F 14 (sx jo wa sr c1 ((t + cf_turn ld dg pa pu c1 ((m' : Nat) : Int)) % 360)) ≠ F 14 (sx jo wa sr c t) - 1 := fun m' c1 h1 h2 => by
              by_cases e : m' = m
              · rw [e] at h2 ⊢
                cases hcm.symm.trans h2
                exact c_158
              · exact hno m' c1 (by omega) h2
            by_cases h18 : m = 18
            · obtain ⟨m9, c9, e1, e2, e3⟩ := hex
              exact absurd e3 (hno2 m9 c9 (by omega) e2)
            refine xa_locals (ls' := [some (xa_r k), some (xa_i turn), some (xa_i ((ii : Nat) : Int)), some (xa_i v), some (xa_i (mE jo wa sr c)), some (xa_i t), some (xa_i (((m + 1 : Nat) : Int) - 1)), some (xa_i ((kk : Nat) : Int)), some (xa_i (F 14 (sx jo wa sr c t))), some (xa_i (mE jo wa sr c')), some (xa_i ((t + (cf_turn ld dg pa pu c' ((m : Nat) : Int))) % 360))]) (by rw [show ((m : Nat) : Int) = ((m + 1 : Nat) : Int) - 1 by omega]) ?_
            exact ih (m + 1) _ _ (by omega) (by omega) hno2
          · skip
            refine xa_iload (pc := 161) dX10_soon_161 rfl ?_
            refine xa_istorew (pc := 163) [some (xa_r k), some (xa_i turn), some (xa_i ((ii : Nat) : Int)), some (xa_i v), some (xa_i (mE jo wa sr c')), some (xa_i t), some (xa_i ((m : Nat) : Int)), some (xa_i ((kk : Nat) : Int)), some (xa_i (F 14 (sx jo wa sr c t))), some (xa_i (mE jo wa sr c')), some (xa_i ((t + (cf_turn ld dg pa pu c' ((m : Nat) : Int))) % 360))] dX10_soon_163 (by decide) (Nat.le_of_ble_eq_true rfl) rfl rfl ?_
            refine xa_iload (pc := 165) dX10_soon_165 rfl ?_
            refine xa_istorew (pc := 167) [some (xa_r k), some (xa_i turn), some (xa_i ((ii : Nat) : Int)), some (xa_i v), some (xa_i (mE jo wa sr c')), some (xa_i ((t + (cf_turn ld dg pa pu c' ((m : Nat) : Int))) % 360)), some (xa_i ((m : Nat) : Int)), some (xa_i ((kk : Nat) : Int)), some (xa_i (F 14 (sx jo wa sr c t))), some (xa_i (mE jo wa sr c')), some (xa_i ((t + (cf_turn ld dg pa pu c' ((m : Nat) : Int))) % 360))] dX10_soon_167 (by decide) (Nat.le_of_ble_eq_true rfl) rfl rfl ?_
            refine xa_iincw (pc := 169) (y := ((kk + 1 : Nat) : Int)) [some (xa_r k), some (xa_i turn), some (xa_i ((ii : Nat) : Int)), some (xa_i v), some (xa_i (mE jo wa sr c')), some (xa_i ((t + (cf_turn ld dg pa pu c' ((m : Nat) : Int))) % 360)), some (xa_i ((m : Nat) : Int)), some (xa_i ((kk + 1 : Nat) : Int)), some (xa_i (F 14 (sx jo wa sr c t))), some (xa_i (mE jo wa sr c')), some (xa_i ((t + (cf_turn ld dg pa pu c' ((m : Nat) : Int))) % 360))] dX10_soon_169 (by decide) rfl rfl (by omega) rfl ?_
            refine xa_goto (pc := 172) (tgt := 65) dX10_soon_172 (by decide) ?_
            exact K m c' hm hcm hc1 c_158 hno
      · skip
        exfalso; omega
    · skip
      refine xa_istorew (pc := 108) [some (xa_r k), some (xa_i turn), some (xa_i ((ii : Nat) : Int)), some (xa_i v), some (xa_i (mE jo wa sr c)), some (xa_i t), some (xa_i ((m : Nat) : Int)), some (xa_i ((kk : Nat) : Int)), some (xa_i (F 14 (sx jo wa sr c t))), some (xa_i (-4)), g10] dX10_soon_108 (by decide) (Nat.le_of_ble_eq_true rfl) rfl rfl ?_
      refine xa_iload (pc := 110) dX10_soon_110 rfl ?_
      refine xa_if_ge (pc := 112) (tgt := 119) dX10_soon_112 (by decide) (by decide) (fun c_112 => ?_) (fun c_112 => ?_)
      · skip
        exfalso; omega
      · skip
        refine xa_iconst (pc := 115) dX10_soon_115 ?_
        refine xa_goto (pc := 116) (tgt := 133) dX10_soon_116 (by decide) ?_
        refine xa_istorew (pc := 133) [some (xa_r k), some (xa_i turn), some (xa_i ((ii : Nat) : Int)), some (xa_i v), some (xa_i (mE jo wa sr c)), some (xa_i t), some (xa_i ((m : Nat) : Int)), some (xa_i ((kk : Nat) : Int)), some (xa_i (F 14 (sx jo wa sr c t))), some (xa_i (-4)), some (xa_i 0)] dX10_soon_133 (by decide) (Nat.le_of_ble_eq_true rfl) rfl rfl ?_
        refine xa_iload (pc := 135) dX10_soon_135 rfl ?_
        refine xa_if_lt (pc := 137) (tgt := 97) dX10_soon_137 (by decide) (by decide) (fun c_137 => ?_) (fun c_137 => ?_)
        · skip
          have hno2 : ∀ (m' : Nat) (c1 : xCf), m' < m + 1 → cf_move pa jo wa sr c ((m' : Nat) : Int) = some c1 → F 14 (sx jo wa sr c1 ((t + cf_turn ld dg pa pu c1 ((m' : Nat) : Int)) % 360)) ≠ F 14 (sx jo wa sr c t) - 1 := fun m' c1 h1 h2 => by
            by_cases e : m' = m
            · rw [e] at h2 ⊢
              cases hcm.symm.trans h2
            · exact hno m' c1 (by omega) h2
          by_cases h18 : m = 18
          · obtain ⟨m9, c9, e1, e2, e3⟩ := hex
            exact absurd e3 (hno2 m9 c9 (by omega) e2)
          refine xa_locals (ls' := [some (xa_r k), some (xa_i turn), some (xa_i ((ii : Nat) : Int)), some (xa_i v), some (xa_i (mE jo wa sr c)), some (xa_i t), some (xa_i (((m + 1 : Nat) : Int) - 1)), some (xa_i ((kk : Nat) : Int)), some (xa_i (F 14 (sx jo wa sr c t))), some (xa_i (-4)), some (xa_i 0)]) (by rw [show ((m : Nat) : Int) = ((m + 1 : Nat) : Int) - 1 by omega]) ?_
          exact ih (m + 1) _ _ (by omega) (by omega) hno2
        · skip
          exfalso; omega
theorem c_mSoon_out {G : xa_G} {h : xa_H} {k ii vv : Nat} {turn v : Int} {F : Nat → Nat → Int} {s : Nat → Int} {ld dg : Nat → Int} {pa jo : Nat} {wa sr pu ri : Int} (h14 : s 14 = pu) (ho : mOk F ld dg pa jo wa sr pu ri) (hT : mT (360 * sm_shapes F).toNat (sG pa jo wa sr ri) (sR ld dg pa jo wa sr pu (if jo = 1 then 1 else 3)) (F 14)) (hv : vv ≤ 200) (hii : ii < vv) (hM : xM h k F s) : ∀ (d kk : Nat) (c : xCf) (t mv : Int) (g8 g9 g10 : Option xa_V), ii + 2 - kk < d → kk ≤ ii + 1 → (kk ≤ ii ∧ cf_ok pa jo wa sr c ∧ (0 ≤ t ∧ t < 360) ∧ F 14 (sx jo wa sr c t) = ((vv - kk : Nat) : Int) ∧ ∀ r, gmv ld dg pa jo wa sr pu ri (if jo = 1 then 1 else 3) (ii - kk) (vv - kk - 1) c t r → gmv ld dg pa jo wa sr pu ri (if jo = 1 then 1 else 3) ii (vv - 1) (cf_rest pa) turn r) ∨ (kk = ii + 1 ∧ gmv ld dg pa jo wa sr pu ri (if jo = 1 then 1 else 3) ii (vv - 1) (cf_rest pa) turn mv) → xa_W G mX10_soon (xa_Z G (fun r h' => (∃ r0, r = some (xa_i r0) ∧ gmv ld dg pa jo wa sr pu ri (if jo = 1 then 1 else 3) ii (vv - 1) (cf_rest pa) turn r0) ∧ h' = h)) 65 [some (xa_r k), some (xa_i turn), some (xa_i ((ii : Nat) : Int)), some (xa_i v), some (xa_i (mE jo wa sr c)), some (xa_i t), some (xa_i mv), some (xa_i ((kk : Nat) : Int)), g8, g9, g10] [] h 0 0 := by
  obtain ⟨hM0, hM1, hM2, hM3, hM4, hM5, hM6, hM7, hM8, hM9, hM10, hM11, hM12, hM13, hM14, hM15, hM16, hMk, hMn⟩ := hM
  rw [h14] at hM0
  have hsh := sm_shapes_b ho.1 ho.2.1
  have hpu := ho.1.2.2.2.2.2.2.1
  intro d
  induction d with
  | zero => intros; exfalso; omega
  | succ d ih =>
    intro kk c t mv g8 g9 g10 hd hkk hI
    refine xa_iload (pc := 65) dX10_soon_65 rfl ?_
    refine xa_iload_n (pc := 67) dX10_soon_67 rfl ?_
    refine xa_icmp_gt (pc := 68) (tgt := 175) dX10_soon_68 (by decide) ⟨by omega, by omega⟩ ⟨by omega, by omega⟩ (fun c_68 => ?_) (fun c_68 => ?_)
    · skip
      refine xa_iload (pc := 175) dX10_soon_175 rfl ?_
      refine xa_ireturn (pc := 177) dX10_soon_177 rfl trivial ?_
      have hI2 := hI.resolve_left (fun z => by have := z.1; omega)
      exact ⟨⟨mv, rfl, hI2.2⟩, rfl⟩
    · skip
      obtain ⟨i1, hc, ht, hTc, hG⟩ := hI.resolve_right (fun z => by omega)
      have hmb := mE_b ho.1 ho.2.1 hc
      refine xa_aload_n (pc := 71) dX10_soon_71 rfl ?_
      refine xa_getfield (pc := 72) dX10_soon_72 flRX10_54 (by omega) (by omega) hM0 rfl ?_
      refine xa_sipush (pc := 75) dX10_soon_75 rfl ?_
      refine xa_iload (pc := 78) dX10_soon_78 rfl ?_
      refine xa_imul (pc := 80) dX10_soon_80 ?_
      refine xa_iload (pc := 81) dX10_soon_81 rfl ?_
      refine xa_iadd (pc := 83) dX10_soon_83 ?_
      refine xa_ialdw (pc := 84) (sx jo wa sr c t) dX10_soon_84 (by omega) hM14 (by omega) (by omega) rfl ?_
      refine xa_istorew (pc := 85) [some (xa_r k), some (xa_i turn), some (xa_i ((ii : Nat) : Int)), some (xa_i v), some (xa_i (mE jo wa sr c)), some (xa_i t), some (xa_i mv), some (xa_i ((kk : Nat) : Int)), some (xa_i ((F 14) (sx jo wa sr c t))), g9, g10] dX10_soon_85 (by decide) (Nat.le_of_ble_eq_true rfl) rfl rfl ?_
      refine xa_iconst (pc := 87) dX10_soon_87 ?_
      refine xa_istorew (pc := 88) [some (xa_r k), some (xa_i turn), some (xa_i ((ii : Nat) : Int)), some (xa_i v), some (xa_i (mE jo wa sr c)), some (xa_i t), some (xa_i (-1)), some (xa_i ((kk : Nat) : Int)), some (xa_i ((F 14) (sx jo wa sr c t))), g9, g10] dX10_soon_88 (by decide) (Nat.le_of_ble_eq_true rfl) rfl rfl ?_
      refine xa_bipush (pc := 90) dX10_soon_90 rfl ?_
      refine xa_istorew (pc := 92) [some (xa_r k), some (xa_i turn), some (xa_i ((ii : Nat) : Int)), some (xa_i v), some (xa_i (mE jo wa sr c)), some (xa_i t), some (xa_i (-1)), some (xa_i ((kk : Nat) : Int)), some (xa_i ((F 14) (sx jo wa sr c t))), some (xa_i (-4)), g10] dX10_soon_92 (by decide) (Nat.le_of_ble_eq_true rfl) rfl rfl ?_
      refine xa_iconst (pc := 94) dX10_soon_94 ?_
      refine xa_istorew (pc := 95) [some (xa_r k), some (xa_i turn), some (xa_i ((ii : Nat) : Int)), some (xa_i v), some (xa_i (mE jo wa sr c)), some (xa_i t), some (xa_i (-1)), some (xa_i ((kk : Nat) : Int)), some (xa_i ((F 14) (sx jo wa sr c t))), some (xa_i (-4)), some (xa_i 0)] dX10_soon_95 (by decide) (Nat.le_of_ble_eq_true rfl) rfl rfl ?_
      have hmb2 := mE_9 ho.1 ho.2.1 hc
      refine c_mSoon_in (pu := pu) (s := xa_upf s 14 pu) (v := v) (ii := ii) rfl ho hT hv hii ⟨hM0, hM1, hM2, hM3, hM4, hM5, hM6, hM7, hM8, hM9, hM10, hM11, hM12, hM13, hM14, hM15, hM16, by omega, by omega⟩ (by omega) hc ht (fun m c' hm hcm hc1 hTm hno => ?_) ?_ 20 0 _ _ (by omega) (by omega) (fun m' c1 h1 => absurd h1 (Nat.not_lt_zero _))
      · have hst : gstep ld dg pa jo wa sr pu ri (if jo = 1 then 1 else 3) (vv - kk - 1) c t ((m : Nat) : Int) c' ((t + cf_turn ld dg pa pu c' ((m : Nat) : Int)) % 360) := ⟨by omega, hcm, rfl, (mT_near ho.1 ho.2.1 hT hc ht (by omega) (jOk_all ho.1 hcm) hcm (by omega)).mp (by omega), fun m' c1 h1 h2 h3 h4 => ?_⟩
        · by_cases e : kk = ii
          · refine ih (kk + 1) c' _ _ _ _ _ (by omega) (by omega) (Or.inr ⟨by omega, hG _ ?_⟩)
            rw [e, Nat.sub_self]
            rw [e] at hst
            exact ⟨_, _, hst⟩
          · refine ih (kk + 1) c' _ _ _ _ _ (by omega) (by omega) (Or.inl ⟨by omega, hc1, by omega, by omega, fun r hr => hG r ?_⟩)
            rw [show ii - kk = (ii - (kk + 1)) + 1 by omega]
            refine ⟨_, _, _, hst, ?_⟩
            rw [show vv - kk - 1 - 1 = vv - (kk + 1) - 1 by omega]
            exact hr
        · have e9 : m' = ((m'.toNat : Nat) : Int) := by omega
          rw [e9] at h3 h4
          have := (mT_near ho.1 ho.2.1 hT hc ht (by omega) (jOk_all ho.1 h3) h3 (show F 14 (sx jo wa sr c t) = ((vv - kk - 1 + 1 : Nat) : Int) by omega)).mpr h4
          exact hno m'.toNat c1 (by omega) h3 (by omega)
      · obtain ⟨y, y1, ⟨d1, d2, u, mv, r1, r2, r3, r4, r5, r6, r7⟩, y3⟩ := hT.2.1 _ (sx_lt ho.1 ho.2.1 hc ht).1 (by omega)
        obtain ⟨e1, e2⟩ := sx_inj ho.1 ho.2.1 hc r1 ht r2 r6
        subst e1; subst e2; subst r7
        have e9 : mv = ((mv.toNat : Nat) : Int) := by omega
        rw [e9] at r5 y3
        exact ⟨mv.toNat, d2, by omega, r5, y3⟩
theorem c_mSoon {G : xa_G} {h : xa_H} (k : Nat) (turn i : Int) (F : Nat → Nat → Int) (s : Nat → Int) (ld dg : Nat → Int) (pa jo : Nat) (wa sr pu ri : Int) (h1 : xa_ok turn) (h2 : xa_ok i) (ho : mOk F ld dg pa jo wa sr pu ri) (hl : mLi F s ld dg pa jo wa sr pu ri) (hM : xM h k F s)  : xa_M G mX10_soon [xa_r k, xa_i turn, xa_i i] h 0 0 (fun r h' => (∃ (r0 : Int) (F' : Nat → Nat → Int) (s' : Nat → Int), r = some (xa_i r0) ∧ sq_soon ld dg pa jo wa sr pu ri turn i r0 ∧ mSim F F' s s' ∧ mLi F' s' ld dg pa jo wa sr pu ri ∧ xM h' k F' s') ∧ h'.2 = h.2 ∧ ∀ i, (i < k ∨ k + 17 ≤ i) → h'.1 i = h.1 i) := by
  refine xa_enter (by decide +kernel) (Nat.le_of_ble_eq_true rfl) ?_
  refine xa_locals (ls' := [some (xa_r k), some (xa_i turn), some (xa_i i), none, none, none, none, none, none, none, none]) rfl ?_
  have hn : h.2 = h.2 := rfl
  have fr : ∀ i, (i < k ∨ k + 17 ≤ i) → h.1 i = h.1 i := fun _ _ => rfl
  obtain ⟨hM0, hM1, hM2, hM3, hM4, hM5, hM6, hM7, hM8, hM9, hM10, hM11, hM12, hM13, hM14, hM15, hM16, hMk, hMn⟩ := hM
  refine xa_iload_n (pc := 0) dX10_soon_0 rfl ?_
  refine xa_callS (pc := 1) (as := [xa_i turn]) (rest := []) dX10_soon_1 ⟨qX10_isTurn.1, qX10_isTurn.2.1, qX10_isTurn.2.2, by decide, by decide⟩ lkRX10_182 smX10_isTurn rfl rfl (Nat.le_of_ble_eq_true rfl) (Nat.zero_le _) (Nat.zero_le _) (c_mTurn _ ⟨by omega, by omega⟩) (fun r h' hq => ?_)
  obtain ⟨rfl, hq⟩ := hq
  have hq := hq.symm
  subst hq
  refine xa_if_eq (pc := 4) (tgt := 12) dX10_soon_4 (by decide) xa_okb (fun c_4 => ?_) (fun c_4 => ?_)
  · have c_4 := xa_b0.mp c_4
    refine xa_iconst (pc := 12) dX10_soon_12 ?_
    refine xa_ireturn (pc := 13) dX10_soon_13 rfl trivial ?_
    exact ⟨⟨_, F, s, rfl, Or.inl ⟨by omega, rfl⟩, ⟨fun _ _ _ => rfl, rfl, rfl⟩, hl, ⟨hM0, hM1, hM2, hM3, hM4, hM5, hM6, hM7, hM8, hM9, hM10, hM11, hM12, hM13, hM14, hM15, hM16, by omega, by omega⟩⟩, hn, fr⟩
  · have c_4 := xa_b1.mp c_4
    refine xa_iload_n (pc := 7) dX10_soon_7 rfl ?_
    refine xa_iconst (pc := 8) dX10_soon_8 ?_
    refine xa_icmp_ge (pc := 9) (tgt := 14) dX10_soon_9 (by decide) ⟨by omega, by omega⟩ (by decide) (fun c_9 => ?_) (fun c_9 => ?_)
    · skip
      refine xa_aload_n (pc := 14) dX10_soon_14 rfl ?_
      refine xa_aload_n (pc := 15) dX10_soon_15 rfl ?_
      refine xa_callV (pc := 16) (as := []) (rest := [xa_r k]) dX10_soon_16 ⟨qX10_allJoints.1, qX10_allJoints.2.1, qX10_allJoints.2.2, by decide, by decide⟩ lkRX10_228 imX10_allJoints seX10_allJoints rfl rfl (by omega) (by omega) hM0 rfl (Nat.le_of_ble_eq_true rfl) (Nat.zero_le _) (Nat.zero_le _) (c_mAll _ F s ld dg pa jo wa sr pu ri ho ⟨hM0, hM1, hM2, hM3, hM4, hM5, hM6, hM7, hM8, hM9, hM10, hM11, hM12, hM13, hM14, hM15, hM16, by omega, by omega⟩) (fun r h' hq => ?_)
      obtain ⟨rfl, hq⟩ := hq
      have hq := hq.symm
      subst hq
      refine xa_iload_n (pc := 19) dX10_soon_19 rfl ?_
      refine xa_callV (pc := 20) (as := [xa_i (if jo = 1 then 1 else 3), xa_i turn]) (rest := []) dX10_soon_20 ⟨qX10_soonBy.1, qX10_soonBy.2.1, qX10_soonBy.2.2, by decide, by decide⟩ lkRX10_231 imX10_soonBy seX10_soonBy rfl rfl (by omega) (by omega) hM0 rfl (Nat.le_of_ble_eq_true rfl) (Nat.zero_le _) (Nat.zero_le _) (c_mSoonBy _ (if jo = 1 then 1 else 3) turn F s ld dg pa jo wa sr pu ri (allj jo) (by omega) ho hl ⟨hM0, hM1, hM2, hM3, hM4, hM5, hM6, hM7, hM8, hM9, hM10, hM11, hM12, hM13, hM14, hM15, hM16, by omega, by omega⟩) (fun r h' hq => ?_)
      obtain ⟨⟨T1, Q1, x1, rfl, hT1, hM⟩, hqn, hqf⟩ := hq
      have htk1 := mT_tk ho.1 ho.2.1 hT1 (t := turn) (by omega)
      have hTe1 : (if 0 ≤ T1 (sx jo wa sr (cf_rest pa) turn) ∧ T1 (sx jo wa sr (cf_rest pa) turn) ≤ 200 then T1 (sx jo wa sr (cf_rest pa) turn) else -4) = -4 ∨ 0 ≤ (if 0 ≤ T1 (sx jo wa sr (cf_rest pa) turn) ∧ T1 (sx jo wa sr (cf_rest pa) turn) ≤ 200 then T1 (sx jo wa sr (cf_rest pa) turn) else -4) ∧ (if 0 ≤ T1 (sx jo wa sr (cf_rest pa) turn) ∧ T1 (sx jo wa sr (cf_rest pa) turn) ≤ 200 then T1 (sx jo wa sr (cf_rest pa) turn) else -4) ≤ 200 ∧ T1 (sx jo wa sr (cf_rest pa) turn) = (if 0 ≤ T1 (sx jo wa sr (cf_rest pa) turn) ∧ T1 (sx jo wa sr (cf_rest pa) turn) ≤ 200 then T1 (sx jo wa sr (cf_rest pa) turn) else -4) := by split <;> omega
      generalize hve1 : (if 0 ≤ T1 (sx jo wa sr (cf_rest pa) turn) ∧ T1 (sx jo wa sr (cf_rest pa) turn) ≤ 200 then T1 (sx jo wa sr (cf_rest pa) turn) else -4) = v1 at htk1 hTe1 ⊢
      obtain ⟨hM0, hM1, hM2, hM3, hM4, hM5, hM6, hM7, hM8, hM9, hM10, hM11, hM12, hM13, hM14, hM15, hM16, hMk, hMn⟩ := hM
      have hM0 : h'.1 k = xa_o 10 [xa_i (s 0), xa_r (k + 1), xa_r (k + 2), xa_r (k + 3), xa_r (k + 4), xa_r (k + 5), xa_r (k + 6), xa_r (k + 7), xa_r (k + 8), xa_r (k + 9), xa_r (k + 10), xa_r (k + 11), xa_r (k + 12), xa_i (s 13), xa_i pu, xa_i (s 15), xa_r (k + 13), xa_i (s 17), xa_i (s 18), xa_i (s 19), xa_i (if jo = 1 then 1 else 3), xa_r (k + 14), xa_r (k + 15), xa_i x1, xa_r (k + 16)] := hM0
      have hM1 : h'.1 (k + 1) = xa_a 120 (F 1) := hM1
      have hM2 : h'.1 (k + 2) = xa_a 2 (F 2) := hM2
      have hM3 : h'.1 (k + 3) = xa_a 18 (F 3) := hM3
      have hM4 : h'.1 (k + 4) = xa_a 2 (F 4) := hM4
      have hM5 : h'.1 (k + 5) = xa_a 4 (F 5) := hM5
      have hM6 : h'.1 (k + 6) = xa_a 4 (F 6) := hM6
      have hM7 : h'.1 (k + 7) = xa_a 2 (F 7) := hM7
      have hM8 : h'.1 (k + 8) = xa_a 2 (F 8) := hM8
      have hM9 : h'.1 (k + 9) = xa_a 12 (F 9) := hM9
      have hM10 : h'.1 (k + 10) = xa_a 720 (F 10) := hM10
      have hM11 : h'.1 (k + 11) = xa_a 3 (F 11) := hM11
      have hM12 : h'.1 (k + 12) = xa_a 360 (F 12) := hM12
      have hM13 : h'.1 (k + 13) = xa_a 3 (F 13) := hM13
      have hM14 : h'.1 (k + 14) = xa_a 583200 T1 := hM14
      have hM15 : h'.1 (k + 15) = xa_a 583200 Q1 := hM15
      have hM16 : h'.1 (k + 16) = xa_a 4 (F 16) := hM16
      have hn : h'.2 = h.2 := hqn.trans hn
      have fr : ∀ i, (i < k ∨ k + 17 ≤ i) → h'.1 i = h.1 i := fun i hi => (hqf i (by omega)).trans (fr i hi)
      have hl1 : mLi (xa_uF (xa_uF F 14 T1) 15 Q1) (xa_upf (xa_upf (xa_upf s 14 pu) 20 (if jo = 1 then 1 else 3)) 23 x1) ld dg pa jo wa sr pu ri := ⟨by show xa_ok (if jo = 1 then 1 else 3); exact ⟨by omega, by omega⟩, fun J2 h1 h2 => by have h2 : (if jo = 1 then 1 else 3) = J2 := h2; rw [← h2]; exact hT1⟩
      refine xa_istoren (pc := 23) [some (xa_r k), some (xa_i turn), some (xa_i i), some (xa_i v1), none, none, none, none, none, none, none] dX10_soon_23 (by decide) (Nat.le_of_ble_eq_true rfl) rfl rfl ?_
      refine xa_iload_n (pc := 24) dX10_soon_24 rfl ?_
      refine xa_bipush (pc := 25) dX10_soon_25 rfl ?_
      refine xa_icmp_eq (pc := 27) (tgt := 39) dX10_soon_27 (by decide) ⟨by omega, by omega⟩ (by decide) (fun c_27 => ?_) (fun c_27 => ?_)
      · skip
        refine xa_iload_n (pc := 39) dX10_soon_39 rfl ?_
        refine xa_if_ge (pc := 40) (tgt := 47) dX10_soon_40 (by decide) ⟨by omega, by omega⟩ (fun c_40 => ?_) (fun c_40 => ?_)
        · skip
          refine xa_bipush (pc := 47) dX10_soon_47 rfl ?_
          refine xa_ireturn (pc := 49) dX10_soon_49 rfl trivial ?_
          exact ⟨⟨_, xa_uF (xa_uF F 14 T1) 15 Q1, xa_upf (xa_upf (xa_upf s 14 pu) 20 (if jo = 1 then 1 else 3)) 23 x1, rfl, Or.inr ⟨by omega, v1, htk1, Or.inl ⟨by omega, by first | (rw [if_pos (by omega)]; done) | (rw [if_neg (by omega)]; done)⟩⟩, mSim_l F T1 Q1 ⟨rfl, rfl⟩, hl1, ⟨hM0, hM1, hM2, hM3, hM4, hM5, hM6, hM7, hM8, hM9, hM10, hM11, hM12, hM13, hM14, hM15, hM16, by omega, by omega⟩⟩, hn, fr⟩
        · skip
          refine xa_iload_n (pc := 43) dX10_soon_43 rfl ?_
          refine xa_goto (pc := 44) (tgt := 49) dX10_soon_44 (by decide) ?_
          refine xa_ireturn (pc := 49) dX10_soon_49 rfl trivial ?_
          exact ⟨⟨_, xa_uF (xa_uF F 14 T1) 15 Q1, xa_upf (xa_upf (xa_upf s 14 pu) 20 (if jo = 1 then 1 else 3)) 23 x1, rfl, Or.inr ⟨by omega, v1, htk1, Or.inl ⟨by omega, by first | (rw [if_pos (by omega)]; done) | (rw [if_neg (by omega)]; done)⟩⟩, mSim_l F T1 Q1 ⟨rfl, rfl⟩, hl1, ⟨hM0, hM1, hM2, hM3, hM4, hM5, hM6, hM7, hM8, hM9, hM10, hM11, hM12, hM13, hM14, hM15, hM16, by omega, by omega⟩⟩, hn, fr⟩
      · skip
        refine xa_iload_n (pc := 30) dX10_soon_30 rfl ?_
        refine xa_if_lt (pc := 31) (tgt := 39) dX10_soon_31 (by decide) ⟨by omega, by omega⟩ (fun c_31 => ?_) (fun c_31 => ?_)
        · skip
          refine xa_iload_n (pc := 39) dX10_soon_39 rfl ?_
          refine xa_if_ge (pc := 40) (tgt := 47) dX10_soon_40 (by decide) ⟨by omega, by omega⟩ (fun c_40 => ?_) (fun c_40 => ?_)
          · skip
            refine xa_bipush (pc := 47) dX10_soon_47 rfl ?_
            refine xa_ireturn (pc := 49) dX10_soon_49 rfl trivial ?_
            exact ⟨⟨_, xa_uF (xa_uF F 14 T1) 15 Q1, xa_upf (xa_upf (xa_upf s 14 pu) 20 (if jo = 1 then 1 else 3)) 23 x1, rfl, Or.inr ⟨by omega, v1, htk1, Or.inl ⟨by omega, by first | (rw [if_pos (by omega)]; done) | (rw [if_neg (by omega)]; done)⟩⟩, mSim_l F T1 Q1 ⟨rfl, rfl⟩, hl1, ⟨hM0, hM1, hM2, hM3, hM4, hM5, hM6, hM7, hM8, hM9, hM10, hM11, hM12, hM13, hM14, hM15, hM16, by omega, by omega⟩⟩, hn, fr⟩
          · skip
            refine xa_iload_n (pc := 43) dX10_soon_43 rfl ?_
            refine xa_goto (pc := 44) (tgt := 49) dX10_soon_44 (by decide) ?_
            refine xa_ireturn (pc := 49) dX10_soon_49 rfl trivial ?_
            exact ⟨⟨_, xa_uF (xa_uF F 14 T1) 15 Q1, xa_upf (xa_upf (xa_upf s 14 pu) 20 (if jo = 1 then 1 else 3)) 23 x1, rfl, Or.inr ⟨by omega, v1, htk1, Or.inl ⟨by omega, by first | (rw [if_pos (by omega)]; done) | (rw [if_neg (by omega)]; done)⟩⟩, mSim_l F T1 Q1 ⟨rfl, rfl⟩, hl1, ⟨hM0, hM1, hM2, hM3, hM4, hM5, hM6, hM7, hM8, hM9, hM10, hM11, hM12, hM13, hM14, hM15, hM16, by omega, by omega⟩⟩, hn, fr⟩
        · skip
          refine xa_iload_n (pc := 34) dX10_soon_34 rfl ?_
          refine xa_iload_n (pc := 35) dX10_soon_35 rfl ?_
          refine xa_icmp_lt (pc := 36) (tgt := 50) dX10_soon_36 (by decide) ⟨by omega, by omega⟩ ⟨by omega, by omega⟩ (fun c_36 => ?_) (fun c_36 => ?_)
          · skip
            obtain ⟨ii, rfl⟩ : ∃ ii : Nat, i = (ii : Int) := ⟨i.toNat, by omega⟩
            refine xa_aload_n (pc := 50) dX10_soon_50 rfl ?_
            refine xa_callV (pc := 51) (as := []) (rest := []) dX10_soon_51 ⟨qX10_rest.1, qX10_rest.2.1, qX10_rest.2.2, by decide, by decide⟩ lkRX10_161 imX10_rest seX10_rest rfl rfl (by omega) (by omega) hM0 rfl (Nat.le_of_ble_eq_true rfl) (Nat.zero_le _) (Nat.zero_le _) (c_kRest (F := (xa_uF (xa_uF F 14 T1) 15 Q1)) (s := (xa_upf (xa_upf (xa_upf s 14 pu) 20 (if jo = 1 then 1 else 3)) 23 x1)) ho ⟨hM0, hM1, hM2, hM3, hM4, hM5, hM6, hM7, hM8, hM9, hM10, hM11, hM12, hM13, hM14, hM15, hM16, by omega, by omega⟩) (fun r h' hq => ?_)
            obtain ⟨rfl, hq⟩ := hq
            have hq := hq.symm
            subst hq
            refine xa_istorew (pc := 54) [some (xa_r k), some (xa_i turn), some (xa_i ((ii : Nat) : Int)), some (xa_i v1), some (xa_i (mE jo wa sr (cf_rest pa))), none, none, none, none, none, none] dX10_soon_54 (by decide) (Nat.le_of_ble_eq_true rfl) rfl rfl ?_
            refine xa_iload_n (pc := 56) dX10_soon_56 rfl ?_
            refine xa_istorew (pc := 57) [some (xa_r k), some (xa_i turn), some (xa_i ((ii : Nat) : Int)), some (xa_i v1), some (xa_i (mE jo wa sr (cf_rest pa))), some (xa_i turn), none, none, none, none, none] dX10_soon_57 (by decide) (Nat.le_of_ble_eq_true rfl) rfl rfl ?_
            refine xa_iconst (pc := 59) dX10_soon_59 ?_
            refine xa_istorew (pc := 60) [some (xa_r k), some (xa_i turn), some (xa_i ((ii : Nat) : Int)), some (xa_i v1), some (xa_i (mE jo wa sr (cf_rest pa))), some (xa_i turn), some (xa_i 0), none, none, none, none] dX10_soon_60 (by decide) (Nat.le_of_ble_eq_true rfl) rfl rfl ?_
            refine xa_iconst (pc := 62) dX10_soon_62 ?_
            refine xa_istorew (pc := 63) [some (xa_r k), some (xa_i turn), some (xa_i ((ii : Nat) : Int)), some (xa_i v1), some (xa_i (mE jo wa sr (cf_rest pa))), some (xa_i turn), some (xa_i 0), some (xa_i 0), none, none, none] dX10_soon_63 (by decide) (Nat.le_of_ble_eq_true rfl) rfl rfl ?_
            refine xa_wmono ?_ (c_mSoon_out (pu := pu) (F := xa_uF (xa_uF F 14 T1) 15 Q1) (s := xa_upf (xa_upf (xa_upf s 14 pu) 20 (if jo = 1 then 1 else 3)) 23 x1) (vv := v1.toNat) (ii := ii) rfl ho hT1 (by omega) (by omega) ⟨hM0, hM1, hM2, hM3, hM4, hM5, hM6, hM7, hM8, hM9, hM10, hM11, hM12, hM13, hM14, hM15, hM16, by omega, by omega⟩ (ii + 3) 0 (cf_rest pa) turn 0 _ _ _ (by omega) (by omega) (Or.inl ⟨by omega, cf_rest_ok ho.1, by omega, ?_, fun r hr => hr⟩))
            · rintro r h1 ⟨⟨r0, e1, e2⟩, e3⟩
              subst e3
              exact ⟨⟨r0, xa_uF (xa_uF F 14 T1) 15 Q1, xa_upf (xa_upf (xa_upf s 14 pu) 20 (if jo = 1 then 1 else 3)) 23 x1, e1, Or.inr ⟨by omega, v1, htk1, Or.inr ⟨by omega, e2⟩⟩, mSim_l F T1 Q1 ⟨rfl, rfl⟩, hl1, ⟨hM0, hM1, hM2, hM3, hM4, hM5, hM6, hM7, hM8, hM9, hM10, hM11, hM12, hM13, hM14, hM15, hM16, by omega, by omega⟩⟩, hn, fr⟩
            · show T1 (sx jo wa sr (cf_rest pa) turn) = _
              omega
          · skip
            refine xa_iload_n (pc := 39) dX10_soon_39 rfl ?_
            refine xa_if_ge (pc := 40) (tgt := 47) dX10_soon_40 (by decide) ⟨by omega, by omega⟩ (fun c_40 => ?_) (fun c_40 => ?_)
            · skip
              refine xa_bipush (pc := 47) dX10_soon_47 rfl ?_
              refine xa_ireturn (pc := 49) dX10_soon_49 rfl trivial ?_
              exact ⟨⟨_, xa_uF (xa_uF F 14 T1) 15 Q1, xa_upf (xa_upf (xa_upf s 14 pu) 20 (if jo = 1 then 1 else 3)) 23 x1, rfl, Or.inr ⟨by omega, v1, htk1, Or.inl ⟨by omega, by first | (rw [if_pos (by omega)]; done) | (rw [if_neg (by omega)]; done)⟩⟩, mSim_l F T1 Q1 ⟨rfl, rfl⟩, hl1, ⟨hM0, hM1, hM2, hM3, hM4, hM5, hM6, hM7, hM8, hM9, hM10, hM11, hM12, hM13, hM14, hM15, hM16, by omega, by omega⟩⟩, hn, fr⟩
            · skip
              refine xa_iload_n (pc := 43) dX10_soon_43 rfl ?_
              refine xa_goto (pc := 44) (tgt := 49) dX10_soon_44 (by decide) ?_
              refine xa_ireturn (pc := 49) dX10_soon_49 rfl trivial ?_
              exact ⟨⟨_, xa_uF (xa_uF F 14 T1) 15 Q1, xa_upf (xa_upf (xa_upf s 14 pu) 20 (if jo = 1 then 1 else 3)) 23 x1, rfl, Or.inr ⟨by omega, v1, htk1, Or.inl ⟨by omega, by first | (rw [if_pos (by omega)]; done) | (rw [if_neg (by omega)]; done)⟩⟩, mSim_l F T1 Q1 ⟨rfl, rfl⟩, hl1, ⟨hM0, hM1, hM2, hM3, hM4, hM5, hM6, hM7, hM8, hM9, hM10, hM11, hM12, hM13, hM14, hM15, hM16, by omega, by omega⟩⟩, hn, fr⟩
    · skip
      refine xa_iconst (pc := 12) dX10_soon_12 ?_
      refine xa_ireturn (pc := 13) dX10_soon_13 rfl trivial ?_
      exact ⟨⟨_, F, s, rfl, Or.inl ⟨by omega, rfl⟩, ⟨fun _ _ _ => rfl, rfl, rfl⟩, hl, ⟨hM0, hM1, hM2, hM3, hM4, hM5, hM6, hM7, hM8, hM9, hM10, hM11, hM12, hM13, hM14, hM15, hM16, by omega, by omega⟩⟩, hn, fr⟩
theorem c_mSave_loop {G : xa_G} {h0 : xa_H} {k mm : Nat} {H : Int} {TT : Nat → Int} {F : Nat → Nat → Int} {s : Nat → Int} {ld dg : Nat → Int} {pa jo : Nat} {wa sr pu ri : Int} (hk : 2 ≤ k) (hH : 0 ≤ H ∧ H ≤ 100000) (hm1 : ((mm : Nat) : Int) * mm ≤ H) (hm2 : H < (((mm : Nat) : Int) + 1) * (((mm : Nat) : Int) + 1)) (ho : mOk F ld dg pa jo wa sr pu ri) (hTT : ∀ t : Nat, t < 360 → tk_is ld dg pa jo wa sr pu ri (if jo = 1 then 1 else 3) ((t : Nat) : Int) (TT t)) : ∀ (d : Nat) (e : Nat) (F1 : Nat → Nat → Int) (s1 : Nat → Int) (g4 : Option xa_V) (h : xa_H), 360 - e < d → (e ≤ 360) → (F1 = xa_uF (xa_uF F 14 (F1 14)) 15 (F1 15)) → (s1 0 = s 0 ∧ s1 13 = s 13) → (mLi F1 s1 ld dg pa jo wa sr pu ri) → (h.2 = h0.2) → (k + 16 < h.2) → (h.1 k = xa_o 10 [xa_i (s1 0), xa_r (k + 1), xa_r (k + 2), xa_r (k + 3), xa_r (k + 4), xa_r (k + 5), xa_r (k + 6), xa_r (k + 7), xa_r (k + 8), xa_r (k + 9), xa_r (k + 10), xa_r (k + 11), xa_r (k + 12), xa_i (s1 13), xa_i (s1 14), xa_i (s1 15), xa_r (k + 13), xa_i (s1 17), xa_i (s1 18), xa_i (s1 19), xa_i (s1 20), xa_r (k + 14), xa_r (k + 15), xa_i (s1 23), xa_r (k + 16)]) → (h.1 (k + 1) = xa_a 120 (F1 1)) → (h.1 (k + 2) = xa_a 2 (F1 2)) → (h.1 (k + 3) = xa_a 18 (F1 3)) → (h.1 (k + 4) = xa_a 2 (F1 4)) → (h.1 (k + 5) = xa_a 4 (F1 5)) → (h.1 (k + 6) = xa_a 4 (F1 6)) → (h.1 (k + 7) = xa_a 2 (F1 7)) → (h.1 (k + 8) = xa_a 2 (F1 8)) → (h.1 (k + 9) = xa_a 12 (F1 9)) → (h.1 (k + 10) = xa_a 720 (F1 10)) → (h.1 (k + 11) = xa_a 3 (F1 11)) → (h.1 (k + 12) = xa_a 360 (F1 12)) → (h.1 (k + 13) = xa_a 3 (F1 13)) → (h.1 (k + 14) = xa_a 583200 (F1 14)) → (h.1 (k + 15) = xa_a 583200 (F1 15)) → (h.1 (k + 16) = xa_a 4 (F1 16)) → (∀ i, (i < k ∨ k + 17 ≤ i) → h.1 i = h0.1 i) → xa_W G mX10_saved (xa_Z G (fun r h' => (∃ (F' : Nat → Nat → Int) (s' : Nat → Int), r = some (xa_i ((ct_n (fun (t : Nat) => decide (0 ≤ TT t ∧ TT t ≤ ((mm : Nat) : Int))) 360 : Nat) : Int)) ∧ F' = xa_uF (xa_uF F 14 (F' 14)) 15 (F' 15) ∧ (s' 0 = s 0 ∧ s' 13 = s 13) ∧ mLi F' s' ld dg pa jo wa sr pu ri ∧ xM h' k F' s') ∧ h'.2 = h0.2 ∧ ∀ i, (i < k ∨ k + 17 ≤ i) → h'.1 i = h0.1 i)) 13 [some (xa_r k), some (xa_i H), some (xa_i ((ct_n (fun (t : Nat) => decide (0 ≤ TT t ∧ TT t ≤ ((mm : Nat) : Int))) e : Nat) : Int)), some (xa_i ((e : Nat) : Int)), g4] [] h 0 0 := by
  intro d
  induction d with
  | zero => intros; exfalso; omega
  | succ d ih =>
    intro e F1 s1 g4 h hd he hF hs1 hl hn0 hkn hM0 hM1 hM2 hM3 hM4 hM5 hM6 hM7 hM8 hM9 hM10 hM11 hM12 hM13 hM14 hM15 hM16 fr0
    have hn : h.2 = h.2 := rfl
    have fr : ∀ i, (i < k ∨ k + 17 ≤ i) → h.1 i = h.1 i := fun _ _ => rfl
    have hce := ct_le (fun (t : Nat) => decide (0 ≤ TT t ∧ TT t ≤ ((mm : Nat) : Int))) e
    have ho1 : mOk F1 ld dg pa jo wa sr pu ri := by rw [hF]; exact ho
    have hsh1 : sm_shapes F1 = sm_shapes F := by rw [hF]; rfl
    refine xa_iload_n (pc := 13) dX10_saved_13 rfl ?_
    refine xa_sipush (pc := 14) dX10_saved_14 rfl ?_
    refine xa_icmp_ge (pc := 17) (tgt := 61) dX10_saved_17 (by decide) ⟨by omega, by omega⟩ (by decide) (fun c_17 => ?_) (fun c_17 => ?_)
    · skip
      refine xa_iload_n (pc := 61) dX10_saved_61 rfl ?_
      refine xa_ireturn (pc := 62) dX10_saved_62 rfl trivial ?_
      have he3 : e = 360 := by omega
      subst he3
      exact ⟨⟨F1, s1, rfl, hF, hs1, hl, ⟨hM0, hM1, hM2, hM3, hM4, hM5, hM6, hM7, hM8, hM9, hM10, hM11, hM12, hM13, hM14, hM15, hM16, by omega, by omega⟩⟩, by omega, fun i hi => (fr i hi).trans (fr0 i hi)⟩
    · skip
      refine xa_aload_n (pc := 20) dX10_saved_20 rfl ?_
      refine xa_aload_n (pc := 21) dX10_saved_21 rfl ?_
      refine xa_callV (pc := 22) (as := []) (rest := [xa_r k]) dX10_saved_22 ⟨qX10_allJoints.1, qX10_allJoints.2.1, qX10_allJoints.2.2, by decide, by decide⟩ lkRX10_228 imX10_allJoints seX10_allJoints rfl rfl (by omega) (by omega) hM0 rfl (Nat.le_of_ble_eq_true rfl) (Nat.zero_le _) (Nat.zero_le _) (c_mAll _ F1 s1 ld dg pa jo wa sr pu ri ho1 ⟨hM0, hM1, hM2, hM3, hM4, hM5, hM6, hM7, hM8, hM9, hM10, hM11, hM12, hM13, hM14, hM15, hM16, by omega, by omega⟩) (fun r h' hq => ?_)
      obtain ⟨rfl, hq⟩ := hq
      have hq := hq.symm
      subst hq
      refine xa_iload_n (pc := 25) dX10_saved_25 rfl ?_
      refine xa_callV (pc := 26) (as := [xa_i (if jo = 1 then 1 else 3), xa_i ((e : Nat) : Int)]) (rest := []) dX10_saved_26 ⟨qX10_soonBy.1, qX10_soonBy.2.1, qX10_soonBy.2.2, by decide, by decide⟩ lkRX10_231 imX10_soonBy seX10_soonBy rfl rfl (by omega) (by omega) hM0 rfl (Nat.le_of_ble_eq_true rfl) (Nat.zero_le _) (Nat.zero_le _) (c_mSoonBy _ (if jo = 1 then 1 else 3) ((e : Nat) : Int) F1 s1 ld dg pa jo wa sr pu ri (allj jo) (by omega) ho1 hl ⟨hM0, hM1, hM2, hM3, hM4, hM5, hM6, hM7, hM8, hM9, hM10, hM11, hM12, hM13, hM14, hM15, hM16, by omega, by omega⟩) (fun r h' hq => ?_)
      obtain ⟨⟨T9, Q9, x9, rfl, hT9, hM⟩, hqn, hqf⟩ := hq
      have htk9 := mT_tk ho1.1 ho1.2.1 hT9 (t := ((e : Nat) : Int)) (by omega)
      have hve9 := tk_u htk9 (hTT e (by omega))
      have hTe9 : TT e = -4 ∨ 0 ≤ TT e ∧ TT e ≤ 200 := by rw [← hve9]; split <;> omega
      refine xa_top (y := TT e) hve9 ?_
      obtain ⟨hM0, hM1, hM2, hM3, hM4, hM5, hM6, hM7, hM8, hM9, hM10, hM11, hM12, hM13, hM14, hM15, hM16, hMk, hMn⟩ := hM
      have hM0 : h'.1 k = xa_o 10 [xa_i (s1 0), xa_r (k + 1), xa_r (k + 2), xa_r (k + 3), xa_r (k + 4), xa_r (k + 5), xa_r (k + 6), xa_r (k + 7), xa_r (k + 8), xa_r (k + 9), xa_r (k + 10), xa_r (k + 11), xa_r (k + 12), xa_i (s1 13), xa_i pu, xa_i (s1 15), xa_r (k + 13), xa_i (s1 17), xa_i (s1 18), xa_i (s1 19), xa_i (if jo = 1 then 1 else 3), xa_r (k + 14), xa_r (k + 15), xa_i x9, xa_r (k + 16)] := hM0
      have hM1 : h'.1 (k + 1) = xa_a 120 (F1 1) := hM1
      have hM2 : h'.1 (k + 2) = xa_a 2 (F1 2) := hM2
      have hM3 : h'.1 (k + 3) = xa_a 18 (F1 3) := hM3
      have hM4 : h'.1 (k + 4) = xa_a 2 (F1 4) := hM4
      have hM5 : h'.1 (k + 5) = xa_a 4 (F1 5) := hM5
      have hM6 : h'.1 (k + 6) = xa_a 4 (F1 6) := hM6
      have hM7 : h'.1 (k + 7) = xa_a 2 (F1 7) := hM7
      have hM8 : h'.1 (k + 8) = xa_a 2 (F1 8) := hM8
      have hM9 : h'.1 (k + 9) = xa_a 12 (F1 9) := hM9
      have hM10 : h'.1 (k + 10) = xa_a 720 (F1 10) := hM10
      have hM11 : h'.1 (k + 11) = xa_a 3 (F1 11) := hM11
      have hM12 : h'.1 (k + 12) = xa_a 360 (F1 12) := hM12
      have hM13 : h'.1 (k + 13) = xa_a 3 (F1 13) := hM13
      have hM14 : h'.1 (k + 14) = xa_a 583200 T9 := hM14
      have hM15 : h'.1 (k + 15) = xa_a 583200 Q9 := hM15
      have hM16 : h'.1 (k + 16) = xa_a 4 (F1 16) := hM16
      have hn : h'.2 = h.2 := hqn.trans hn
      have fr : ∀ i, (i < k ∨ k + 17 ≤ i) → h'.1 i = h.1 i := fun i hi => (hqf i (by omega)).trans (fr i hi)
      have hl9 : mLi (xa_uF (xa_uF F1 14 T9) 15 Q9) (xa_upf (xa_upf (xa_upf s1 14 pu) 20 (if jo = 1 then 1 else 3)) 23 x9) ld dg pa jo wa sr pu ri := ⟨by show xa_ok (if jo = 1 then 1 else 3); split <;> decide, fun J2 h1 h2 => by have h2 : (if jo = 1 then 1 else 3) = J2 := h2; rw [← h2]; exact hT9⟩
      refine xa_istorew (pc := 29) [some (xa_r k), some (xa_i H), some (xa_i ((ct_n (fun (t : Nat) => decide (0 ≤ TT t ∧ TT t ≤ ((mm : Nat) : Int))) e : Nat) : Int)), some (xa_i ((e : Nat) : Int)), some (xa_i (TT e))] dX10_saved_29 (by decide) (Nat.le_of_ble_eq_true rfl) rfl rfl ?_
      refine xa_iload_n (pc := 31) dX10_saved_31 rfl ?_
      refine xa_iload (pc := 32) dX10_saved_32 rfl ?_
      refine xa_bipush (pc := 34) dX10_saved_34 rfl ?_
      refine xa_icmp_eq (pc := 36) (tgt := 52) dX10_saved_36 (by decide) ⟨by omega, by omega⟩ (by decide) (fun c_36 => ?_) (fun c_36 => ?_)
      · skip
        refine xa_iconst (pc := 52) dX10_saved_52 ?_
        refine xa_iadd (pc := 53) dX10_saved_53 ?_
        refine xa_istoren (pc := 54) [some (xa_r k), some (xa_i H), some (xa_i (((ct_n (fun (t : Nat) => decide (0 ≤ TT t ∧ TT t ≤ ((mm : Nat) : Int))) e : Nat) : Int) + 0)), some (xa_i ((e : Nat) : Int)), some (xa_i (TT e))] dX10_saved_54 (by decide) (Nat.le_of_ble_eq_true rfl) rfl rfl ?_
        refine xa_iincw (pc := 55) (y := ((e + 1 : Nat) : Int)) [some (xa_r k), some (xa_i H), some (xa_i (((ct_n (fun (t : Nat) => decide (0 ≤ TT t ∧ TT t ≤ ((mm : Nat) : Int))) e : Nat) : Int) + 0)), some (xa_i ((e + 1 : Nat) : Int)), some (xa_i (TT e))] dX10_saved_55 (by decide) rfl rfl (by omega) rfl ?_
        refine xa_goto (pc := 58) (tgt := 13) dX10_saved_58 (by decide) ?_
        have ec : ((ct_n (fun (t : Nat) => decide (0 ≤ TT t ∧ TT t ≤ ((mm : Nat) : Int))) e : Nat) : Int) + 0 = ((ct_n (fun (t : Nat) => decide (0 ≤ TT t ∧ TT t ≤ ((mm : Nat) : Int))) (e + 1) : Nat) : Int) := by
          show ((ct_n (fun (t : Nat) => decide (0 ≤ TT t ∧ TT t ≤ ((mm : Nat) : Int))) e : Nat) : Int) + 0 = ((ct_n (fun (t : Nat) => decide (0 ≤ TT t ∧ TT t ≤ ((mm : Nat) : Int))) e + (if (fun (t : Nat) => decide (0 ≤ TT t ∧ TT t ≤ ((mm : Nat) : Int))) e = true then 1 else 0) : Nat) : Int)
          rw [if_neg (by simp only [decide_eq_true_eq]; omega)]
          all_goals omega
        rw [ec]
        exact ih (e + 1) (xa_uF (xa_uF F1 14 T9) 15 Q9) (xa_upf (xa_upf (xa_upf s1 14 pu) 20 (if jo = 1 then 1 else 3)) 23 x9) _ _ (by omega) (by omega) (uF_sim hF T9 Q9) hs1 hl9 (by omega) (by omega) hM0 hM1 hM2 hM3 hM4 hM5 hM6 hM7 hM8 hM9 hM10 hM11 hM12 hM13 hM14 hM15 hM16 (fun i hi => (fr i hi).trans (fr0 i hi))
      · skip
        refine xa_iload (pc := 39) dX10_saved_39 rfl ?_
        refine xa_iload_n (pc := 41) dX10_saved_41 rfl ?_
        refine xa_callS (pc := 42) (as := [xa_i H]) (rest := [xa_i (TT e), xa_i ((ct_n (fun (t : Nat) => decide (0 ≤ TT t ∧ TT t ≤ ((mm : Nat) : Int))) e : Nat) : Int)]) dX10_saved_42 ⟨qX10_fallOf.1, qX10_fallOf.2.1, qX10_fallOf.2.2, by decide, by decide⟩ lkRX10_239 smX10_fallOf rfl rfl (Nat.le_of_ble_eq_true rfl) (Nat.zero_le _) (Nat.zero_le _) (c_fallOf _ (by omega)) (fun r h' hq => ?_)
        obtain ⟨⟨m9, rfl, f1, f2⟩, hq⟩ := hq
        have e9 := sp_fall_1 hm1 hm2 f1 f2
        subst e9
        have hq := hq.symm
        subst hq
        have hmm9 := fall_b (by omega) hm1 hH.2
        refine xa_icmp_gt (pc := 45) (tgt := 52) dX10_saved_45 (by decide) ⟨by omega, by omega⟩ ⟨by omega, by omega⟩ (fun c_45 => ?_) (fun c_45 => ?_)
        · skip
          refine xa_iconst (pc := 52) dX10_saved_52 ?_
          refine xa_iadd (pc := 53) dX10_saved_53 ?_
          refine xa_istoren (pc := 54) [some (xa_r k), some (xa_i H), some (xa_i (((ct_n (fun (t : Nat) => decide (0 ≤ TT t ∧ TT t ≤ ((mm : Nat) : Int))) e : Nat) : Int) + 0)), some (xa_i ((e : Nat) : Int)), some (xa_i (TT e))] dX10_saved_54 (by decide) (Nat.le_of_ble_eq_true rfl) rfl rfl ?_
          refine xa_iincw (pc := 55) (y := ((e + 1 : Nat) : Int)) [some (xa_r k), some (xa_i H), some (xa_i (((ct_n (fun (t : Nat) => decide (0 ≤ TT t ∧ TT t ≤ ((mm : Nat) : Int))) e : Nat) : Int) + 0)), some (xa_i ((e + 1 : Nat) : Int)), some (xa_i (TT e))] dX10_saved_55 (by decide) rfl rfl (by omega) rfl ?_
          refine xa_goto (pc := 58) (tgt := 13) dX10_saved_58 (by decide) ?_
          have ec : ((ct_n (fun (t : Nat) => decide (0 ≤ TT t ∧ TT t ≤ ((mm : Nat) : Int))) e : Nat) : Int) + 0 = ((ct_n (fun (t : Nat) => decide (0 ≤ TT t ∧ TT t ≤ ((mm : Nat) : Int))) (e + 1) : Nat) : Int) := by
            show ((ct_n (fun (t : Nat) => decide (0 ≤ TT t ∧ TT t ≤ ((mm : Nat) : Int))) e : Nat) : Int) + 0 = ((ct_n (fun (t : Nat) => decide (0 ≤ TT t ∧ TT t ≤ ((mm : Nat) : Int))) e + (if (fun (t : Nat) => decide (0 ≤ TT t ∧ TT t ≤ ((mm : Nat) : Int))) e = true then 1 else 0) : Nat) : Int)
            rw [if_neg (by simp only [decide_eq_true_eq]; omega)]
            all_goals omega
          rw [ec]
          exact ih (e + 1) (xa_uF (xa_uF F1 14 T9) 15 Q9) (xa_upf (xa_upf (xa_upf s1 14 pu) 20 (if jo = 1 then 1 else 3)) 23 x9) _ _ (by omega) (by omega) (uF_sim hF T9 Q9) hs1 hl9 (by omega) (by omega) hM0 hM1 hM2 hM3 hM4 hM5 hM6 hM7 hM8 hM9 hM10 hM11 hM12 hM13 hM14 hM15 hM16 (fun i hi => (fr i hi).trans (fr0 i hi))
        · skip
          refine xa_iconst (pc := 48) dX10_saved_48 ?_
          refine xa_goto (pc := 49) (tgt := 53) dX10_saved_49 (by decide) ?_
          refine xa_iadd (pc := 53) dX10_saved_53 ?_
          refine xa_istoren (pc := 54) [some (xa_r k), some (xa_i H), some (xa_i (((ct_n (fun (t : Nat) => decide (0 ≤ TT t ∧ TT t ≤ ((mm : Nat) : Int))) e : Nat) : Int) + 1)), some (xa_i ((e : Nat) : Int)), some (xa_i (TT e))] dX10_saved_54 (by decide) (Nat.le_of_ble_eq_true rfl) rfl rfl ?_
          refine xa_iincw (pc := 55) (y := ((e + 1 : Nat) : Int)) [some (xa_r k), some (xa_i H), some (xa_i (((ct_n (fun (t : Nat) => decide (0 ≤ TT t ∧ TT t ≤ ((mm : Nat) : Int))) e : Nat) : Int) + 1)), some (xa_i ((e + 1 : Nat) : Int)), some (xa_i (TT e))] dX10_saved_55 (by decide) rfl rfl (by omega) rfl ?_
          refine xa_goto (pc := 58) (tgt := 13) dX10_saved_58 (by decide) ?_
          have ec : ((ct_n (fun (t : Nat) => decide (0 ≤ TT t ∧ TT t ≤ ((mm : Nat) : Int))) e : Nat) : Int) + 1 = ((ct_n (fun (t : Nat) => decide (0 ≤ TT t ∧ TT t ≤ ((mm : Nat) : Int))) (e + 1) : Nat) : Int) := by
            show ((ct_n (fun (t : Nat) => decide (0 ≤ TT t ∧ TT t ≤ ((mm : Nat) : Int))) e : Nat) : Int) + 1 = ((ct_n (fun (t : Nat) => decide (0 ≤ TT t ∧ TT t ≤ ((mm : Nat) : Int))) e + (if (fun (t : Nat) => decide (0 ≤ TT t ∧ TT t ≤ ((mm : Nat) : Int))) e = true then 1 else 0) : Nat) : Int)
            rw [if_pos (by simp only [decide_eq_true_eq]; omega)]
            all_goals omega
          rw [ec]
          exact ih (e + 1) (xa_uF (xa_uF F1 14 T9) 15 Q9) (xa_upf (xa_upf (xa_upf s1 14 pu) 20 (if jo = 1 then 1 else 3)) 23 x9) _ _ (by omega) (by omega) (uF_sim hF T9 Q9) hs1 hl9 (by omega) (by omega) hM0 hM1 hM2 hM3 hM4 hM5 hM6 hM7 hM8 hM9 hM10 hM11 hM12 hM13 hM14 hM15 hM16 (fun i hi => (fr i hi).trans (fr0 i hi))
/-- the answer of soonBy, as a function -/
theorem tk_ex (ld dg : Nat → Int) (pa jo : Nat) (wa sr pu ri J t : Int) : ∃ r, tk_is ld dg pa jo wa sr pu ri J t r := by
  have key : ∀ n : Nat, (∃ l, l ≤ n ∧ gd ld dg pa jo wa sr pu ri J l (cf_rest pa) t ∧ ∀ l', l' < l → ¬ gd ld dg pa jo wa sr pu ri J l' (cf_rest pa) t) ∨ ∀ l, l ≤ n → ¬ gd ld dg pa jo wa sr pu ri J l (cf_rest pa) t := by
    intro n
    induction n with
    | zero =>
      by_cases h : gd ld dg pa jo wa sr pu ri J 0 (cf_rest pa) t
      · exact Or.inl ⟨0, Nat.le_refl _, h, fun l' hl => absurd hl (Nat.not_lt_zero _)⟩
      · exact Or.inr (fun l hl => by rw [show l = 0 by omega]; exact h)
    | succ n ih =>
      rcases ih with ⟨l, h1, h2, h3⟩ | ih
      · exact Or.inl ⟨l, by omega, h2, h3⟩
      · by_cases h : gd ld dg pa jo wa sr pu ri J (n + 1) (cf_rest pa) t
        · exact Or.inl ⟨n + 1, Nat.le_refl _, h, fun l' hl => ih l' (by omega)⟩
        · exact Or.inr (fun l hl => if e : l = n + 1 then (by rw [e]; exact h) else ih l (by omega))
  rcases key 200 with ⟨l, h1, h2, h3⟩ | h
  · exact ⟨(l : Int), Or.inl ⟨l, h1, rfl, h2, h3⟩⟩
  · exact ⟨-4, Or.inr ⟨rfl, h⟩⟩
theorem fall_ex (H : Int) (hH : 0 ≤ H) : ∃ m : Nat, ((m : Nat) : Int) * m ≤ H ∧ H < (((m : Nat) : Int) + 1) * (((m : Nat) : Int) + 1) := by
  have key : ∀ n : Nat, (n : Int) ≤ H → ∃ m : Nat, ((m : Nat) : Int) * m ≤ n ∧ (n : Int) < (((m : Nat) : Int) + 1) * (((m : Nat) : Int) + 1) := by
    intro n
    induction n with
    | zero => intro _; exact ⟨0, by decide, by decide⟩
    | succ n ih =>
      intro h
      obtain ⟨m, h1, h2⟩ := ih (by omega)
      by_cases e : ((n + 1 : Nat) : Int) < (((m : Nat) : Int) + 1) * (((m : Nat) : Int) + 1)
      · exact ⟨m, by omega, e⟩
      · refine ⟨m + 1, ?_, ?_⟩
        · rw [show ((m + 1 : Nat) : Int) = (m : Int) + 1 by omega]
          omega
        · rw [show ((m + 1 : Nat) : Int) = (m : Int) + 1 by omega]
          have z : ((m : Int) + 1 + 1) * ((m : Int) + 1 + 1) = ((m : Int) + 1) * ((m : Int) + 1) + 2 * ((m : Int) + 1) + 1 := by
            rw [Int.add_mul ((m : Int) + 1) 1, Int.mul_add ((m : Int) + 1) ((m : Int) + 1) 1]
            omega
          omega
  obtain ⟨m, h1, h2⟩ := key H.toNat (by omega)
  rw [show ((H.toNat : Nat) : Int) = H by omega] at h1 h2
  exact ⟨m, h1, h2⟩
theorem c_mSaved {G : xa_G} {h : xa_H} (k : Nat) (H : Int) (F : Nat → Nat → Int) (s : Nat → Int) (ld dg : Nat → Int) (pa jo : Nat) (wa sr pu ri : Int) (h1 : xa_ok H) (ho : mOk F ld dg pa jo wa sr pu ri) (hl : mLi F s ld dg pa jo wa sr pu ri) (hM : xM h k F s)  : xa_M G mX10_saved [xa_r k, xa_i H] h 0 0 (fun r h' => (∃ (r0 : Int) (F' : Nat → Nat → Int) (s' : Nat → Int), r = some (xa_i r0) ∧ sq_saved ld dg pa jo wa sr pu ri H r0 ∧ mSim F F' s s' ∧ mLi F' s' ld dg pa jo wa sr pu ri ∧ xM h' k F' s') ∧ h'.2 = h.2 ∧ ∀ i, (i < k ∨ k + 17 ≤ i) → h'.1 i = h.1 i) := by
  refine xa_enter (by decide +kernel) (Nat.le_of_ble_eq_true rfl) ?_
  refine xa_locals (ls' := [some (xa_r k), some (xa_i H), none, none, none]) rfl ?_
  have hn : h.2 = h.2 := rfl
  have fr : ∀ i, (i < k ∨ k + 17 ≤ i) → h.1 i = h.1 i := fun _ _ => rfl
  obtain ⟨hM0, hM1, hM2, hM3, hM4, hM5, hM6, hM7, hM8, hM9, hM10, hM11, hM12, hM13, hM14, hM15, hM16, hMk, hMn⟩ := hM
  refine xa_iload_n (pc := 0) dX10_saved_0 rfl ?_
  refine xa_callS (pc := 1) (as := [xa_i H]) (rest := []) dX10_saved_1 ⟨qX10_isHeight.1, qX10_isHeight.2.1, qX10_isHeight.2.2, by decide, by decide⟩ lkRX10_236 smX10_isHeight rfl rfl (Nat.le_of_ble_eq_true rfl) (Nat.zero_le _) (Nat.zero_le _) (c_mHeight _ ⟨by omega, by omega⟩) (fun r h' hq => ?_)
  obtain ⟨rfl, hq⟩ := hq
  have hq := hq.symm
  subst hq
  refine xa_if_ne (pc := 4) (tgt := 9) dX10_saved_4 (by decide) xa_okb (fun c_4 => ?_) (fun c_4 => ?_)
  · have c_4 := xa_b1.mp c_4
    refine xa_iconst (pc := 9) dX10_saved_9 ?_
    refine xa_istoren (pc := 10) [some (xa_r k), some (xa_i H), some (xa_i 0), none, none] dX10_saved_10 (by decide) (Nat.le_of_ble_eq_true rfl) rfl rfl ?_
    refine xa_iconst (pc := 11) dX10_saved_11 ?_
    refine xa_istoren (pc := 12) [some (xa_r k), some (xa_i H), some (xa_i 0), some (xa_i 0), none] dX10_saved_12 (by decide) (Nat.le_of_ble_eq_true rfl) rfl rfl ?_
    obtain ⟨mm, m1, m2⟩ := fall_ex H (by omega)
    have hTT : ∀ t : Nat, tk_is ld dg pa jo wa sr pu ri (if jo = 1 then 1 else 3) ((t : Nat) : Int) (Classical.choose (tk_ex ld dg pa jo wa sr pu ri (if jo = 1 then 1 else 3) ((t : Nat) : Int))) := fun t => Classical.choose_spec (tk_ex ld dg pa jo wa sr pu ri (if jo = 1 then 1 else 3) ((t : Nat) : Int))
    refine xa_wmono ?_ (c_mSave_loop (F := F) (s := s) (mm := mm) (TT := fun t => Classical.choose (tk_ex ld dg pa jo wa sr pu ri (if jo = 1 then 1 else 3) ((t : Nat) : Int))) hMk (by omega) m1 m2 ho (fun t _ => hTT t) 361 0 F s _ _ (by omega) (by omega) (uF_id F) ⟨rfl, rfl⟩ hl (by omega) (by omega) hM0 hM1 hM2 hM3 hM4 hM5 hM6 hM7 hM8 hM9 hM10 hM11 hM12 hM13 hM14 hM15 hM16 fr)
    rintro r h1 ⟨⟨F1, s1, e1, e2, e3, e4, e5⟩, e6⟩
    refine ⟨⟨_, F1, s1, e1, Or.inr ⟨by omega, mm, _, ⟨m1, m2⟩, fun t ht => ?_, rfl⟩, ⟨fun i i1 i2 => by rw [e2]; unfold xa_uF; rw [if_neg i2, if_neg i1], e3⟩, e4, e5⟩, e6⟩
    have hv := hTT t
    generalize Classical.choose (tk_ex ld dg pa jo wa sr pu ri (if jo = 1 then 1 else 3) ((t : Nat) : Int)) = v at hv ⊢
    rw [decide_eq_true_iff]
    rcases hv with ⟨l, a1, a2, a3, a4⟩ | ⟨a1, a2⟩
    · constructor
      · intro z
        exact ⟨l, a1, by omega, a3⟩
      · rintro ⟨l', b1, b2, b3⟩
        by_cases q : l' < l
        · exact absurd b3 (a4 l' q)
        · omega
    · constructor
      · intro z
        omega
      · rintro ⟨l', b1, b2, b3⟩
        exact absurd b3 (a2 l' b1)
  · have c_4 := xa_b0.mp c_4
    refine xa_iconst (pc := 7) dX10_saved_7 ?_
    refine xa_ireturn (pc := 8) dX10_saved_8 rfl trivial ?_
    exact ⟨⟨_, F, s, rfl, Or.inl ⟨by omega, rfl⟩, ⟨fun _ _ _ => rfl, rfl, rfl⟩, hl, ⟨hM0, hM1, hM2, hM3, hM4, hM5, hM6, hM7, hM8, hM9, hM10, hM11, hM12, hM13, hM14, hM15, hM16, by omega, by omega⟩⟩, hn, fr⟩
theorem c_mWorth {G : xa_G} {h : xa_H} (k : Nat) (j turn : Int) (F : Nat → Nat → Int) (s : Nat → Int) (ld dg : Nat → Int) (pa jo : Nat) (wa sr pu ri : Int) (h1 : xa_ok j) (h2 : xa_ok turn) (ho : mOk F ld dg pa jo wa sr pu ri) (hl : mLi F s ld dg pa jo wa sr pu ri) (hM : xM h k F s)  : xa_M G mX10_worth [xa_r k, xa_i j, xa_i turn] h 0 0 (fun r h' => (∃ (r0 : Int) (F' : Nat → Nat → Int) (s' : Nat → Int), r = some (xa_i r0) ∧ sq_worth ld dg pa jo wa sr pu ri j turn r0 ∧ mSim F F' s s' ∧ mLi F' s' ld dg pa jo wa sr pu ri ∧ xM h' k F' s') ∧ h'.2 = h.2 ∧ ∀ i, (i < k ∨ k + 17 ≤ i) → h'.1 i = h.1 i) := by
  refine xa_enter (by decide +kernel) (Nat.le_of_ble_eq_true rfl) ?_
  refine xa_locals (ls' := [some (xa_r k), some (xa_i j), some (xa_i turn), none, none]) rfl ?_
  have hn : h.2 = h.2 := rfl
  have fr : ∀ i, (i < k ∨ k + 17 ≤ i) → h.1 i = h.1 i := fun _ _ => rfl
  obtain ⟨hM0, hM1, hM2, hM3, hM4, hM5, hM6, hM7, hM8, hM9, hM10, hM11, hM12, hM13, hM14, hM15, hM16, hMk, hMn⟩ := hM
  have hpa := ho.1.1
  have hR := ho.2.1.2.1
  refine xa_aload_n (pc := 0) dX10_worth_0 rfl ?_
  refine xa_iload_n (pc := 1) dX10_worth_1 rfl ?_
  refine xa_callV (pc := 2) (as := [xa_i j]) (rest := []) dX10_worth_2 ⟨qX10_isJoint.1, qX10_isJoint.2.1, qX10_isJoint.2.2, by decide, by decide⟩ lkRX10_120 imX10_isJoint seX10_isJoint rfl rfl (by omega) (by omega) hM0 rfl (Nat.le_of_ble_eq_true rfl) (Nat.zero_le _) (Nat.zero_le _) (c_mJoint _ F s _ ⟨by omega, by omega⟩ ⟨hM0, hM1, hM2, hM3, hM4, hM5, hM6, hM7, hM8, hM9, hM10, hM11, hM12, hM13, hM14, hM15, hM16, by omega, by omega⟩ ho.hv) (fun r h' hq => ?_)
  obtain ⟨rfl, hq⟩ := hq
  have hq := hq.symm
  subst hq
  refine xa_if_eq (pc := 5) (tgt := 15) dX10_worth_5 (by decide) xa_okb (fun c_5 => ?_) (fun c_5 => ?_)
  · have c_5 := xa_b0.mp c_5
    refine xa_iconst (pc := 15) dX10_worth_15 ?_
    refine xa_ireturn (pc := 16) dX10_worth_16 rfl trivial ?_
    exact ⟨⟨_, F, s, rfl, Or.inl ⟨by omega, rfl⟩, ⟨fun _ _ _ => rfl, rfl, rfl⟩, hl, ⟨hM0, hM1, hM2, hM3, hM4, hM5, hM6, hM7, hM8, hM9, hM10, hM11, hM12, hM13, hM14, hM15, hM16, by omega, by omega⟩⟩, hn, fr⟩
  · have c_5 := xa_b1.mp c_5
    refine xa_iload_n (pc := 8) dX10_worth_8 rfl ?_
    refine xa_callS (pc := 9) (as := [xa_i turn]) (rest := []) dX10_worth_9 ⟨qX10_isTurn.1, qX10_isTurn.2.1, qX10_isTurn.2.2, by decide, by decide⟩ lkRX10_182 smX10_isTurn rfl rfl (Nat.le_of_ble_eq_true rfl) (Nat.zero_le _) (Nat.zero_le _) (c_mTurn _ ⟨by omega, by omega⟩) (fun r h' hq => ?_)
    obtain ⟨rfl, hq⟩ := hq
    have hq := hq.symm
    subst hq
    refine xa_if_ne (pc := 12) (tgt := 17) dX10_worth_12 (by decide) xa_okb (fun c_12 => ?_) (fun c_12 => ?_)
    · have c_12 := xa_b1.mp c_12
      refine xa_aload_n (pc := 17) dX10_worth_17 rfl ?_
      refine xa_aload_n (pc := 18) dX10_worth_18 rfl ?_
      refine xa_callV (pc := 19) (as := []) (rest := [xa_r k]) dX10_worth_19 ⟨qX10_allJoints.1, qX10_allJoints.2.1, qX10_allJoints.2.2, by decide, by decide⟩ lkRX10_228 imX10_allJoints seX10_allJoints rfl rfl (by omega) (by omega) hM0 rfl (Nat.le_of_ble_eq_true rfl) (Nat.zero_le _) (Nat.zero_le _) (c_mAll _ F s ld dg pa jo wa sr pu ri ho ⟨hM0, hM1, hM2, hM3, hM4, hM5, hM6, hM7, hM8, hM9, hM10, hM11, hM12, hM13, hM14, hM15, hM16, by omega, by omega⟩) (fun r h' hq => ?_)
      obtain ⟨rfl, hq⟩ := hq
      have hq := hq.symm
      subst hq
      refine xa_iconst (pc := 22) dX10_worth_22 ?_
      refine xa_iload_n (pc := 23) dX10_worth_23 rfl ?_
      refine xa_ishl (pc := 24) dX10_worth_24 ?_
      refine xa_iconst (pc := 25) dX10_worth_25 ?_
      refine xa_ixor (pc := 26) dX10_worth_26 ?_
      refine xa_iand (pc := 27) dX10_worth_27 ?_
      refine xa_top (y := (if jo = 1 then 0 else if j = 0 then 2 else 1)) (by have := ho.1.1; rcases (show jo = 1 ∨ jo = 2 by omega) with rfl | rfl <;> rcases (show j = 0 ∨ j = 1 by omega) with rfl | rfl <;> first | (exfalso; omega) | decide +kernel) ?_
      refine xa_iload_n (pc := 28) dX10_worth_28 rfl ?_
      refine xa_callV (pc := 29) (as := [xa_i (if jo = 1 then 0 else if j = 0 then 2 else 1), xa_i turn]) (rest := []) dX10_worth_29 ⟨qX10_soonBy.1, qX10_soonBy.2.1, qX10_soonBy.2.2, by decide, by decide⟩ lkRX10_231 imX10_soonBy seX10_soonBy rfl rfl (by omega) (by omega) hM0 rfl (Nat.le_of_ble_eq_true rfl) (Nat.zero_le _) (Nat.zero_le _) (c_mSoonBy _ (if jo = 1 then 0 else if j = 0 then 2 else 1) turn F s ld dg pa jo wa sr pu ri (wj_ok jo j) (by omega) ho hl ⟨hM0, hM1, hM2, hM3, hM4, hM5, hM6, hM7, hM8, hM9, hM10, hM11, hM12, hM13, hM14, hM15, hM16, by omega, by omega⟩) (fun r h' hq => ?_)
      obtain ⟨⟨T1, Q1, x1, rfl, hT1, hM⟩, hqn, hqf⟩ := hq
      have htk1 := mT_tk ho.1 ho.2.1 hT1 (t := turn) (by omega)
      have hTe1 : (if 0 ≤ T1 (sx jo wa sr (cf_rest pa) turn) ∧ T1 (sx jo wa sr (cf_rest pa) turn) ≤ 200 then T1 (sx jo wa sr (cf_rest pa) turn) else -4) = -4 ∨ 0 ≤ (if 0 ≤ T1 (sx jo wa sr (cf_rest pa) turn) ∧ T1 (sx jo wa sr (cf_rest pa) turn) ≤ 200 then T1 (sx jo wa sr (cf_rest pa) turn) else -4) ∧ (if 0 ≤ T1 (sx jo wa sr (cf_rest pa) turn) ∧ T1 (sx jo wa sr (cf_rest pa) turn) ≤ 200 then T1 (sx jo wa sr (cf_rest pa) turn) else -4) ≤ 200 ∧ T1 (sx jo wa sr (cf_rest pa) turn) = (if 0 ≤ T1 (sx jo wa sr (cf_rest pa) turn) ∧ T1 (sx jo wa sr (cf_rest pa) turn) ≤ 200 then T1 (sx jo wa sr (cf_rest pa) turn) else -4) := by split <;> omega
      generalize hve1 : (if 0 ≤ T1 (sx jo wa sr (cf_rest pa) turn) ∧ T1 (sx jo wa sr (cf_rest pa) turn) ≤ 200 then T1 (sx jo wa sr (cf_rest pa) turn) else -4) = v1 at htk1 hTe1 ⊢
      obtain ⟨hM0, hM1, hM2, hM3, hM4, hM5, hM6, hM7, hM8, hM9, hM10, hM11, hM12, hM13, hM14, hM15, hM16, hMk, hMn⟩ := hM
      have hM0 : h'.1 k = xa_o 10 [xa_i (s 0), xa_r (k + 1), xa_r (k + 2), xa_r (k + 3), xa_r (k + 4), xa_r (k + 5), xa_r (k + 6), xa_r (k + 7), xa_r (k + 8), xa_r (k + 9), xa_r (k + 10), xa_r (k + 11), xa_r (k + 12), xa_i (s 13), xa_i pu, xa_i (s 15), xa_r (k + 13), xa_i (s 17), xa_i (s 18), xa_i (s 19), xa_i (if jo = 1 then 0 else if j = 0 then 2 else 1), xa_r (k + 14), xa_r (k + 15), xa_i x1, xa_r (k + 16)] := hM0
      have hM1 : h'.1 (k + 1) = xa_a 120 (F 1) := hM1
      have hM2 : h'.1 (k + 2) = xa_a 2 (F 2) := hM2
      have hM3 : h'.1 (k + 3) = xa_a 18 (F 3) := hM3
      have hM4 : h'.1 (k + 4) = xa_a 2 (F 4) := hM4
      have hM5 : h'.1 (k + 5) = xa_a 4 (F 5) := hM5
      have hM6 : h'.1 (k + 6) = xa_a 4 (F 6) := hM6
      have hM7 : h'.1 (k + 7) = xa_a 2 (F 7) := hM7
      have hM8 : h'.1 (k + 8) = xa_a 2 (F 8) := hM8
      have hM9 : h'.1 (k + 9) = xa_a 12 (F 9) := hM9
      have hM10 : h'.1 (k + 10) = xa_a 720 (F 10) := hM10
      have hM11 : h'.1 (k + 11) = xa_a 3 (F 11) := hM11
      have hM12 : h'.1 (k + 12) = xa_a 360 (F 12) := hM12
      have hM13 : h'.1 (k + 13) = xa_a 3 (F 13) := hM13
      have hM14 : h'.1 (k + 14) = xa_a 583200 T1 := hM14
      have hM15 : h'.1 (k + 15) = xa_a 583200 Q1 := hM15
      have hM16 : h'.1 (k + 16) = xa_a 4 (F 16) := hM16
      have hn : h'.2 = h.2 := hqn.trans hn
      have fr : ∀ i, (i < k ∨ k + 17 ≤ i) → h'.1 i = h.1 i := fun i hi => (hqf i (by omega)).trans (fr i hi)
      have hl1 : mLi (xa_uF (xa_uF F 14 T1) 15 Q1) (xa_upf (xa_upf (xa_upf s 14 pu) 20 (if jo = 1 then 0 else if j = 0 then 2 else 1)) 23 x1) ld dg pa jo wa sr pu ri := ⟨by show xa_ok (if jo = 1 then 0 else if j = 0 then 2 else 1); exact ⟨by omega, by omega⟩, fun J2 h1 h2 => by have h2 : (if jo = 1 then 0 else if j = 0 then 2 else 1) = J2 := h2; rw [← h2]; exact hT1⟩
      refine xa_istoren (pc := 32) [some (xa_r k), some (xa_i j), some (xa_i turn), some (xa_i v1), none] dX10_worth_32 (by decide) (Nat.le_of_ble_eq_true rfl) rfl rfl ?_
      refine xa_aload_n (pc := 33) dX10_worth_33 rfl ?_
      refine xa_aload_n (pc := 34) dX10_worth_34 rfl ?_
      refine xa_callV (pc := 35) (as := []) (rest := [xa_r k]) dX10_worth_35 ⟨qX10_allJoints.1, qX10_allJoints.2.1, qX10_allJoints.2.2, by decide, by decide⟩ lkRX10_228 imX10_allJoints seX10_allJoints rfl rfl (by omega) (by omega) hM0 rfl (Nat.le_of_ble_eq_true rfl) (Nat.zero_le _) (Nat.zero_le _) (c_mAll _ (xa_uF (xa_uF F 14 T1) 15 Q1) (xa_upf (xa_upf (xa_upf s 14 pu) 20 (if jo = 1 then 0 else if j = 0 then 2 else 1)) 23 x1) ld dg pa jo wa sr pu ri ho ⟨hM0, hM1, hM2, hM3, hM4, hM5, hM6, hM7, hM8, hM9, hM10, hM11, hM12, hM13, hM14, hM15, hM16, by omega, by omega⟩) (fun r h' hq => ?_)
      obtain ⟨rfl, hq⟩ := hq
      have hq := hq.symm
      subst hq
      refine xa_iload_n (pc := 38) dX10_worth_38 rfl ?_
      refine xa_callV (pc := 39) (as := [xa_i (if jo = 1 then 1 else 3), xa_i turn]) (rest := []) dX10_worth_39 ⟨qX10_soonBy.1, qX10_soonBy.2.1, qX10_soonBy.2.2, by decide, by decide⟩ lkRX10_231 imX10_soonBy seX10_soonBy rfl rfl (by omega) (by omega) hM0 rfl (Nat.le_of_ble_eq_true rfl) (Nat.zero_le _) (Nat.zero_le _) (c_mSoonBy _ (if jo = 1 then 1 else 3) turn (xa_uF (xa_uF F 14 T1) 15 Q1) (xa_upf (xa_upf (xa_upf s 14 pu) 20 (if jo = 1 then 0 else if j = 0 then 2 else 1)) 23 x1) ld dg pa jo wa sr pu ri (allj jo) (by omega) ho hl1 ⟨hM0, hM1, hM2, hM3, hM4, hM5, hM6, hM7, hM8, hM9, hM10, hM11, hM12, hM13, hM14, hM15, hM16, by omega, by omega⟩) (fun r h' hq => ?_)
      obtain ⟨⟨T2, Q2, x2, rfl, hT2, hM⟩, hqn, hqf⟩ := hq
      have htk2 := mT_tk ho.1 ho.2.1 hT2 (t := turn) (by omega)
      have hTe2 : (if 0 ≤ T2 (sx jo wa sr (cf_rest pa) turn) ∧ T2 (sx jo wa sr (cf_rest pa) turn) ≤ 200 then T2 (sx jo wa sr (cf_rest pa) turn) else -4) = -4 ∨ 0 ≤ (if 0 ≤ T2 (sx jo wa sr (cf_rest pa) turn) ∧ T2 (sx jo wa sr (cf_rest pa) turn) ≤ 200 then T2 (sx jo wa sr (cf_rest pa) turn) else -4) ∧ (if 0 ≤ T2 (sx jo wa sr (cf_rest pa) turn) ∧ T2 (sx jo wa sr (cf_rest pa) turn) ≤ 200 then T2 (sx jo wa sr (cf_rest pa) turn) else -4) ≤ 200 ∧ T2 (sx jo wa sr (cf_rest pa) turn) = (if 0 ≤ T2 (sx jo wa sr (cf_rest pa) turn) ∧ T2 (sx jo wa sr (cf_rest pa) turn) ≤ 200 then T2 (sx jo wa sr (cf_rest pa) turn) else -4) := by split <;> omega
      generalize hve2 : (if 0 ≤ T2 (sx jo wa sr (cf_rest pa) turn) ∧ T2 (sx jo wa sr (cf_rest pa) turn) ≤ 200 then T2 (sx jo wa sr (cf_rest pa) turn) else -4) = v2 at htk2 hTe2 ⊢
      obtain ⟨hM0, hM1, hM2, hM3, hM4, hM5, hM6, hM7, hM8, hM9, hM10, hM11, hM12, hM13, hM14, hM15, hM16, hMk, hMn⟩ := hM
      have hM0 : h'.1 k = xa_o 10 [xa_i (s 0), xa_r (k + 1), xa_r (k + 2), xa_r (k + 3), xa_r (k + 4), xa_r (k + 5), xa_r (k + 6), xa_r (k + 7), xa_r (k + 8), xa_r (k + 9), xa_r (k + 10), xa_r (k + 11), xa_r (k + 12), xa_i (s 13), xa_i pu, xa_i (s 15), xa_r (k + 13), xa_i (s 17), xa_i (s 18), xa_i (s 19), xa_i (if jo = 1 then 1 else 3), xa_r (k + 14), xa_r (k + 15), xa_i x2, xa_r (k + 16)] := hM0
      have hM1 : h'.1 (k + 1) = xa_a 120 (F 1) := hM1
      have hM2 : h'.1 (k + 2) = xa_a 2 (F 2) := hM2
      have hM3 : h'.1 (k + 3) = xa_a 18 (F 3) := hM3
      have hM4 : h'.1 (k + 4) = xa_a 2 (F 4) := hM4
      have hM5 : h'.1 (k + 5) = xa_a 4 (F 5) := hM5
      have hM6 : h'.1 (k + 6) = xa_a 4 (F 6) := hM6
      have hM7 : h'.1 (k + 7) = xa_a 2 (F 7) := hM7
      have hM8 : h'.1 (k + 8) = xa_a 2 (F 8) := hM8
      have hM9 : h'.1 (k + 9) = xa_a 12 (F 9) := hM9
      have hM10 : h'.1 (k + 10) = xa_a 720 (F 10) := hM10
      have hM11 : h'.1 (k + 11) = xa_a 3 (F 11) := hM11
      have hM12 : h'.1 (k + 12) = xa_a 360 (F 12) := hM12
      have hM13 : h'.1 (k + 13) = xa_a 3 (F 13) := hM13
      have hM14 : h'.1 (k + 14) = xa_a 583200 T2 := hM14
      have hM15 : h'.1 (k + 15) = xa_a 583200 Q2 := hM15
      have hM16 : h'.1 (k + 16) = xa_a 4 (F 16) := hM16
      have hn : h'.2 = h.2 := hqn.trans hn
      have fr : ∀ i, (i < k ∨ k + 17 ≤ i) → h'.1 i = h.1 i := fun i hi => (hqf i (by omega)).trans (fr i hi)
      have hl2 : mLi (xa_uF (xa_uF F 14 T2) 15 Q2) (xa_upf (xa_upf (xa_upf s 14 pu) 20 (if jo = 1 then 1 else 3)) 23 x2) ld dg pa jo wa sr pu ri := ⟨by show xa_ok (if jo = 1 then 1 else 3); exact ⟨by omega, by omega⟩, fun J2 h1 h2 => by have h2 : (if jo = 1 then 1 else 3) = J2 := h2; rw [← h2]; exact hT2⟩
      refine xa_istorew (pc := 42) [some (xa_r k), some (xa_i j), some (xa_i turn), some (xa_i v1), some (xa_i v2)] dX10_worth_42 (by decide) (Nat.le_of_ble_eq_true rfl) rfl rfl ?_
      refine xa_iload_n (pc := 44) dX10_worth_44 rfl ?_
      refine xa_bipush (pc := 45) dX10_worth_45 rfl ?_
      refine xa_icmp_eq (pc := 47) (tgt := 57) dX10_worth_47 (by decide) ⟨by omega, by omega⟩ (by decide) (fun c_47 => ?_) (fun c_47 => ?_)
      · skip
        refine xa_bipush (pc := 57) dX10_worth_57 rfl ?_
        refine xa_goto (pc := 59) (tgt := 66) dX10_worth_59 (by decide) ?_
        refine xa_ireturn (pc := 66) dX10_worth_66 rfl trivial ?_
        exact ⟨⟨_, xa_uF (xa_uF F 14 T2) 15 Q2, xa_upf (xa_upf (xa_upf s 14 pu) 20 (if jo = 1 then 1 else 3)) 23 x2, rfl, Or.inr ⟨by omega, v2, v1, htk2, htk1, by first | (rw [if_pos (by omega)]; done) | (rw [if_neg (by omega)]; done)⟩, ⟨fun i i1 i2 => by unfold xa_uF; simp only [if_neg i1, if_neg i2], rfl, rfl⟩, hl2, ⟨hM0, hM1, hM2, hM3, hM4, hM5, hM6, hM7, hM8, hM9, hM10, hM11, hM12, hM13, hM14, hM15, hM16, by omega, by omega⟩⟩, hn, fr⟩
      · skip
        refine xa_iload (pc := 50) dX10_worth_50 rfl ?_
        refine xa_bipush (pc := 52) dX10_worth_52 rfl ?_
        refine xa_icmp_ne (pc := 54) (tgt := 62) dX10_worth_54 (by decide) ⟨by omega, by omega⟩ (by decide) (fun c_54 => ?_) (fun c_54 => ?_)
        · skip
          refine xa_iload_n (pc := 62) dX10_worth_62 rfl ?_
          refine xa_iload (pc := 63) dX10_worth_63 rfl ?_
          refine xa_isub (pc := 65) dX10_worth_65 ?_
          refine xa_ireturn (pc := 66) dX10_worth_66 rfl trivial ?_
          exact ⟨⟨_, xa_uF (xa_uF F 14 T2) 15 Q2, xa_upf (xa_upf (xa_upf s 14 pu) 20 (if jo = 1 then 1 else 3)) 23 x2, rfl, Or.inr ⟨by omega, v2, v1, htk2, htk1, by first | (rw [if_pos (by omega)]; done) | (rw [if_neg (by omega)]; done)⟩, ⟨fun i i1 i2 => by unfold xa_uF; simp only [if_neg i1, if_neg i2], rfl, rfl⟩, hl2, ⟨hM0, hM1, hM2, hM3, hM4, hM5, hM6, hM7, hM8, hM9, hM10, hM11, hM12, hM13, hM14, hM15, hM16, by omega, by omega⟩⟩, hn, fr⟩
        · skip
          refine xa_bipush (pc := 57) dX10_worth_57 rfl ?_
          refine xa_goto (pc := 59) (tgt := 66) dX10_worth_59 (by decide) ?_
          refine xa_ireturn (pc := 66) dX10_worth_66 rfl trivial ?_
          exact ⟨⟨_, xa_uF (xa_uF F 14 T2) 15 Q2, xa_upf (xa_upf (xa_upf s 14 pu) 20 (if jo = 1 then 1 else 3)) 23 x2, rfl, Or.inr ⟨by omega, v2, v1, htk2, htk1, by first | (rw [if_pos (by omega)]; done) | (rw [if_neg (by omega)]; done)⟩, ⟨fun i i1 i2 => by unfold xa_uF; simp only [if_neg i1, if_neg i2], rfl, rfl⟩, hl2, ⟨hM0, hM1, hM2, hM3, hM4, hM5, hM6, hM7, hM8, hM9, hM10, hM11, hM12, hM13, hM14, hM15, hM16, by omega, by omega⟩⟩, hn, fr⟩
    · have c_12 := xa_b0.mp c_12
      refine xa_iconst (pc := 15) dX10_worth_15 ?_
      refine xa_ireturn (pc := 16) dX10_worth_16 rfl trivial ?_
      exact ⟨⟨_, F, s, rfl, Or.inl ⟨by omega, rfl⟩, ⟨fun _ _ _ => rfl, rfl, rfl⟩, hl, ⟨hM0, hM1, hM2, hM3, hM4, hM5, hM6, hM7, hM8, hM9, hM10, hM11, hM12, hM13, hM14, hM15, hM16, by omega, by omega⟩⟩, hn, fr⟩
