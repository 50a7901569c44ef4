/-! The model: all who are met ahead of a state -/
theorem ma_ok2 {N : Nat} {v : Int} {q : xTQ} {l : List Nat} (h : mq_ok N q) (hv : 0 ≤ v ∧ v ≤ q.2.2) (hl : ∀ x ∈ l, x < N) : mq_ok N (mq_meets v q l) ∧ q.2.2 ≤ (mq_meets v q l).2.2 := by
  obtain ⟨a, b, -⟩ := mq_meets_spec l q h hv hl
  exact ⟨a, b⟩
theorem cf_pk_b {pa jo : Nat} {wa sr : Int} {c : xCf} (hc : cf_ok pa jo wa sr c) (k : Nat) : 0 ≤ cf_pk c k ∧ cf_pk c k ≤ 2 := by
  obtain ⟨c1, c2, c3, -⟩ := hc
  unfold cf_pk
  repeat' split
  all_goals omega
theorem cf_sp_ok {ld dg : Nat → Int} {pa jo : Nat} {wa sr pu ri : Int} {c : xCf} (hB : vB ld dg pa jo wa sr pu ri) (hc : cf_ok pa jo wa sr c) {kk p : Nat} (hk : kk < pa) (hp : p < 3) : cf_ok pa jo wa sr (cf_sp c kk ((p : Nat) : Int)) := by
  have h0 := hB.1
  obtain ⟨c1, c2, c3, c4, c5⟩ := hc
  rcases (show kk = 0 ∨ kk = 1 ∨ kk = 2 by omega) with rfl | rfl | rfl
  · exact ⟨by show 0 ≤ ((p : Nat) : Int) ∧ ((p : Nat) : Int) ≤ 2; omega, c2, c3, c4, c5⟩
  · exact ⟨c1, by show 0 ≤ ((p : Nat) : Int) ∧ ((p : Nat) : Int) ≤ 2; omega, c3, c4, c5⟩
  · exact ⟨c1, c2, by show 0 ≤ ((p : Nat) : Int) ∧ ((p : Nat) : Int) ≤ 2 ∧ (pa = 2 → ((p : Nat) : Int) = 0); omega, c4, c5⟩
theorem ma_p_s {ld dg : Nat → Int} {pa jo : Nat} {wa sr pu J : Int} {c : xCf} {t : Int} {kk p : Nat} (hp : p < 3) (h : ((p : Nat) : Int) ≠ cf_pk c kk) : ma_p ld dg pa jo wa sr pu J c t (3 * kk + (p + 1)) = ma_p ld dg pa jo wa sr pu J c t (3 * kk + p) ++ [sx jo wa sr (cf_sp c kk ((p : Nat) : Int)) ((t - cf_turn ld dg pa pu c 10) % 360)] := by
  show ma_p ld dg pa jo wa sr pu J c t (3 * kk + p) ++ (if (((3 * kk + p) % 3 : Nat) : Int) ≠ cf_pk c ((3 * kk + p) / 3) then [sx jo wa sr (cf_sp c ((3 * kk + p) / 3) (((3 * kk + p) % 3 : Nat) : Int)) ((t - cf_turn ld dg pa pu c 10) % 360)] else []) = _
  rw [show (3 * kk + p) % 3 = p by omega, show (3 * kk + p) / 3 = kk by omega, if_pos h]
theorem ma_p_n {ld dg : Nat → Int} {pa jo : Nat} {wa sr pu J : Int} {c : xCf} {t : Int} {kk p : Nat} (hp : p < 3) (h : ((p : Nat) : Int) = cf_pk c kk) : ma_p ld dg pa jo wa sr pu J c t (3 * kk + (p + 1)) = ma_p ld dg pa jo wa sr pu J c t (3 * kk + p) := by
  show ma_p ld dg pa jo wa sr pu J c t (3 * kk + p) ++ (if (((3 * kk + p) % 3 : Nat) : Int) ≠ cf_pk c ((3 * kk + p) / 3) then [sx jo wa sr (cf_sp c ((3 * kk + p) / 3) (((3 * kk + p) % 3 : Nat) : Int)) ((t - cf_turn ld dg pa pu c 10) % 360)] else []) = _
  rw [show (3 * kk + p) % 3 = p by omega, show (3 * kk + p) / 3 = kk by omega, if_neg (fun z => z h), List.append_nil]
theorem ma_m_s {ld dg : Nat → Int} {pa jo : Nat} {wa sr pu J : Int} {c c1 : xCf} {t : Int} {n : Nat} (h1 : J = 3 ∨ J = ((n / 2 : Nat) : Int) + 1) (h2 : n / 2 < jo) (h3 : cf_move pa jo wa sr c (cf_inv c ((n + 1 : Nat) : Int)) = some c1) : ma_m ld dg pa jo wa sr pu J c t (n + 1) = ma_m ld dg pa jo wa sr pu J c t n ++ [sx jo wa sr c1 ((t - cf_turn ld dg pa pu c ((n + 1 : Nat) : Int)) % 360)] := by
  show ma_m ld dg pa jo wa sr pu J c t n ++ (if (J = 3 ∨ J = ((n / 2 : Nat) : Int) + 1) ∧ n / 2 < jo then (match cf_move pa jo wa sr c (cf_inv c ((n + 1 : Nat) : Int)) with | some c1 => [sx jo wa sr c1 ((t - cf_turn ld dg pa pu c ((n + 1 : Nat) : Int)) % 360)] | none => []) else []) = _
  rw [if_pos ⟨h1, h2⟩, h3]
theorem ma_m_n {ld dg : Nat → Int} {pa jo : Nat} {wa sr pu J : Int} {c : xCf} {t : Int} {n : Nat} (h : ¬ ((J = 3 ∨ J = ((n / 2 : Nat) : Int) + 1) ∧ n / 2 < jo) ∨ cf_move pa jo wa sr c (cf_inv c ((n + 1 : Nat) : Int)) = none) : ma_m ld dg pa jo wa sr pu J c t (n + 1) = ma_m ld dg pa jo wa sr pu J c t n := by
  show ma_m ld dg pa jo wa sr pu J c t n ++ (if (J = 3 ∨ J = ((n / 2 : Nat) : Int) + 1) ∧ n / 2 < jo then (match cf_move pa jo wa sr c (cf_inv c ((n + 1 : Nat) : Int)) with | some c1 => [sx jo wa sr c1 ((t - cf_turn ld dg pa pu c ((n + 1 : Nat) : Int)) % 360)] | none => []) else []) = _
  rcases h with h | h
  · rw [if_neg h, List.append_nil]
  · rw [h]
    split
    · exact List.append_nil _
    · exact List.append_nil _
theorem c_mAhead_p {G : xa_G} {h0 : xa_H} {k : Nat} {c : xCf} {t J v : Int} {q : xTQ} {F : Nat → Nat → Int} {s : Nat → Int} {ld dg : Nat → Int} {pa jo : Nat} {wa sr pu ri : Int} (hk : 2 ≤ k) (hc : cf_ok pa jo wa sr c) (ht : 0 ≤ t ∧ t < 360) (hJ : J = 0 ∨ J = 1 ∨ J = 2 ∨ J = 3) (ho : mOk F ld dg pa jo wa sr pu ri) (hpu : -9999 ≤ pu ∧ pu ≤ 9999) (hqo : mq_ok (360 * sm_shapes F).toNat q) (hv : 0 ≤ v ∧ v ≤ q.2.2) : ∀ (d : Nat) (kk p : Nat) (g7 : Option xa_V) (h : xa_H), 4 * (pa - kk) + 3 - p < d → (kk < pa) → (p ≤ 3) → (h.2 = h0.2) → (k + 16 < h.2) → (h.1 k = xa_o 10 [xa_i (s 0), xa_r (k + 1), xa_r (k + 2), xa_r (k + 3), xa_r (k + 4), xa_r (k + 5), xa_r (k + 6), xa_r (k + 7), xa_r (k + 8), xa_r (k + 9), xa_r (k + 10), xa_r (k + 11), xa_r (k + 12), xa_i (s 13), xa_i pu, xa_i (s 15), xa_r (k + 13), xa_i (s 17), xa_i (s 18), xa_i (s 19), xa_i (s 20), xa_r (k + 14), xa_r (k + 15), xa_i (((mq_meets v q (ma_p ld dg pa jo wa sr pu J c t (3 * kk + p))).2.2 : Nat) : Int), xa_r (k + 16)]) → (h.1 (k + 1) = xa_a 120 (F 1)) → (h.1 (k + 2) = xa_a 2 (F 2)) → (h.1 (k + 3) = xa_a 18 (F 3)) → (h.1 (k + 4) = xa_a 2 (F 4)) → (h.1 (k + 5) = xa_a 4 (F 5)) → (h.1 (k + 6) = xa_a 4 (F 6)) → (h.1 (k + 7) = xa_a 2 (F 7)) → (h.1 (k + 8) = xa_a 2 (F 8)) → (h.1 (k + 9) = xa_a 12 (F 9)) → (h.1 (k + 10) = xa_a 720 (F 10)) → (h.1 (k + 11) = xa_a 3 (F 11)) → (h.1 (k + 12) = xa_a 360 (F 12)) → (h.1 (k + 13) = xa_a 3 (F 13)) → (h.1 (k + 14) = xa_a 583200 ((mq_meets v q (ma_p ld dg pa jo wa sr pu J c t (3 * kk + p))).1)) → (h.1 (k + 15) = xa_a 583200 ((mq_meets v q (ma_p ld dg pa jo wa sr pu J c t (3 * kk + p))).2.1)) → (h.1 (k + 16) = xa_a 4 (F 16)) → (∀ i, (i < k ∨ k + 17 ≤ i) → h.1 i = h0.1 i) → xa_W G mX10_meetAhead (xa_Z G (fun r h' => (r = none ∧ xMq h' k F (xa_upf s 14 pu) (mq_meets v q (ma_p ld dg pa jo wa sr pu J c t (3 * pa)))) ∧ h'.2 = h0.2 ∧ ∀ i, (i < k ∨ k + 17 ≤ i) → h'.1 i = h0.1 i)) 122 [some (xa_r k), some (xa_i (mE jo wa sr c)), some (xa_i t), some (xa_i J), some (xa_i v), some (xa_i ((kk : Nat) : Int)), some (xa_i ((p : Nat) : Int)), g7] [] h 0 0 := by
  intro d
  induction d with
  | zero => intros; exfalso; omega
  | succ d ih =>
    intro kk p g7 h hd hkk hp hn0 hkn hM0 hM1 hM2 hM3 hM4 hM5 hM6 hM7 hM8 hM9 hM10 hM11 hM12 hM13 hM14 hM15 hM16 fr0
    have hn : h.2 = h.2 := rfl
    have fr : ∀ i, (i < k ∨ k + 17 ≤ i) → h.1 i = h.1 i := fun _ _ => rfl
    have hpa := ho.1.1
    have hR := ho.2.1.1
    have hR2 := ho.2.1.2.1
    have hmb := mE_9 ho.1 ho.2.1 hc
    refine xa_iload (pc := 122) dX10_meetAhead_122 rfl ?_
    refine xa_iconst (pc := 124) dX10_meetAhead_124 ?_
    refine xa_icmp_ge (pc := 125) (tgt := 170) dX10_meetAhead_125 (by decide) ⟨by omega, by omega⟩ (by decide) (fun c_125 => ?_) (fun c_125 => ?_)
    · skip
      refine xa_iincw (pc := 170) (y := ((kk + 1 : Nat) : Int)) [some (xa_r k), some (xa_i (mE jo wa sr c)), some (xa_i t), some (xa_i J), some (xa_i v), some (xa_i ((kk + 1 : Nat) : Int)), some (xa_i ((p : Nat) : Int)), g7] dX10_meetAhead_170 (by decide) rfl rfl (by omega) rfl ?_
      refine xa_goto (pc := 173) (tgt := 108) dX10_meetAhead_173 (by decide) ?_
      refine xa_iload (pc := 108) dX10_meetAhead_108 rfl ?_
      refine xa_aload_n (pc := 110) dX10_meetAhead_110 rfl ?_
      refine xa_getfield (pc := 111) dX10_meetAhead_111 flRX10_13 (by omega) (by omega) hM0 rfl ?_
      refine xa_iconst (pc := 114) dX10_meetAhead_114 ?_
      refine xa_ialdw (pc := 115) 0 dX10_meetAhead_115 (by omega) hM2 (by omega) (by omega) rfl ?_
      refine xa_icmp_ge (pc := 116) (tgt := 176) dX10_meetAhead_116 (by decide) ⟨by omega, by omega⟩ ⟨by omega, by omega⟩ (fun c_116 => ?_) (fun c_116 => ?_)
      · skip
        refine xa_return (pc := 176) dX10_meetAhead_176 rfl ?_
        have hke : 3 * pa = 3 * kk + p := by omega
        rw [hke]
        exact ⟨⟨rfl, ⟨hM0, hM1, hM2, hM3, hM4, hM5, hM6, hM7, hM8, hM9, hM10, hM11, hM12, hM13, hM14, hM15, hM16, by omega, by omega⟩⟩, by omega, fun i hi => (fr i hi).trans (fr0 i hi)⟩
      · skip
        refine xa_iconst (pc := 119) dX10_meetAhead_119 ?_
        refine xa_istorew (pc := 120) [some (xa_r k), some (xa_i (mE jo wa sr c)), some (xa_i t), some (xa_i J), some (xa_i v), some (xa_i ((kk + 1 : Nat) : Int)), some (xa_i 0), g7] dX10_meetAhead_120 (by decide) (Nat.le_of_ble_eq_true rfl) rfl rfl ?_
        have e3 : 3 * kk + p = 3 * (kk + 1) + 0 := by omega
        rw [e3] at hM0 hM14 hM15
        exact ih (kk + 1) 0 _ _ (by omega) (by omega) (by omega) (by omega) (by omega) hM0 hM1 hM2 hM3 hM4 hM5 hM6 hM7 hM8 hM9 hM10 hM11 hM12 hM13 hM14 hM15 hM16 (fun i hi => (fr i hi).trans (fr0 i hi))
    · skip
      refine xa_iload (pc := 128) dX10_meetAhead_128 rfl ?_
      refine xa_aload_n (pc := 130) dX10_meetAhead_130 rfl ?_
      refine xa_iload_n (pc := 131) dX10_meetAhead_131 rfl ?_
      refine xa_iload (pc := 132) dX10_meetAhead_132 rfl ?_
      refine xa_callV (pc := 134) (as := [xa_i (mE jo wa sr c), xa_i ((kk : Nat) : Int)]) (rest := [xa_i ((p : Nat) : Int)]) dX10_meetAhead_134 ⟨qX10_poseOf.1, qX10_poseOf.2.1, qX10_poseOf.2.2, by decide, by decide⟩ lkRX10_136 imX10_poseOf seX10_poseOf rfl rfl (by omega) (by omega) hM0 rfl (Nat.le_of_ble_eq_true rfl) (Nat.zero_le _) (Nat.zero_le _) (c_kPose (F := (xa_uF (xa_uF F 14 ((mq_meets v q (ma_p ld dg pa jo wa sr pu J c t (3 * kk + p))).1)) 15 ((mq_meets v q (ma_p ld dg pa jo wa sr pu J c t (3 * kk + p))).2.1))) (s := (xa_upf (xa_upf s 14 pu) 23 (((mq_meets v q (ma_p ld dg pa jo wa sr pu J c t (3 * kk + p))).2.2 : Nat) : Int))) ho ⟨hM0, hM1, hM2, hM3, hM4, hM5, hM6, hM7, hM8, hM9, hM10, hM11, hM12, hM13, hM14, hM15, hM16, by omega, by omega⟩ hc kk (by omega)) (fun r h' hq => ?_)
      obtain ⟨rfl, hq⟩ := hq
      have hq := hq.symm
      subst hq
      have pb := cf_pk_b hc kk
      refine xa_icmp_eq (pc := 137) (tgt := 164) dX10_meetAhead_137 (by decide) ⟨by omega, by omega⟩ ⟨by omega, by omega⟩ (fun c_137 => ?_) (fun c_137 => ?_)
      · skip
        refine xa_iincw (pc := 164) (y := ((p + 1 : Nat) : Int)) [some (xa_r k), some (xa_i (mE jo wa sr c)), some (xa_i t), some (xa_i J), some (xa_i v), some (xa_i ((kk : Nat) : Int)), some (xa_i ((p + 1 : Nat) : Int)), g7] dX10_meetAhead_164 (by decide) rfl rfl (by omega) rfl ?_
        refine xa_goto (pc := 167) (tgt := 122) dX10_meetAhead_167 (by decide) ?_
        rw [← ma_p_n (ld := ld) (dg := dg) (pa := pa) (jo := jo) (wa := wa) (sr := sr) (pu := pu) (J := J) (c := c) (t := t) (kk := kk) (p := p) (by omega) (by omega)] at hM0 hM14 hM15
        exact ih kk (p + 1) _ _ (by omega) (by omega) (by omega) (by omega) (by omega) hM0 hM1 hM2 hM3 hM4 hM5 hM6 hM7 hM8 hM9 hM10 hM11 hM12 hM13 hM14 hM15 hM16 (fun i hi => (fr i hi).trans (fr0 i hi))
      · skip
        refine xa_aload_n (pc := 140) dX10_meetAhead_140 rfl ?_
        refine xa_aload_n (pc := 141) dX10_meetAhead_141 rfl ?_
        refine xa_iload_n (pc := 142) dX10_meetAhead_142 rfl ?_
        refine xa_iload (pc := 143) dX10_meetAhead_143 rfl ?_
        refine xa_iload (pc := 145) dX10_meetAhead_145 rfl ?_
        refine xa_callV (pc := 147) (as := [xa_i (mE jo wa sr c), xa_i ((kk : Nat) : Int), xa_i ((p : Nat) : Int)]) (rest := [xa_r k]) dX10_meetAhead_147 ⟨qX10_posed.1, qX10_posed.2.1, qX10_posed.2.2, by decide, by decide⟩ lkRX10_143 imX10_posed seX10_posed rfl rfl (by omega) (by omega) hM0 rfl (Nat.le_of_ble_eq_true rfl) (Nat.zero_le _) (Nat.zero_le _) (c_kPosed (F := (xa_uF (xa_uF F 14 ((mq_meets v q (ma_p ld dg pa jo wa sr pu J c t (3 * kk + p))).1)) 15 ((mq_meets v q (ma_p ld dg pa jo wa sr pu J c t (3 * kk + p))).2.1))) (s := (xa_upf (xa_upf s 14 pu) 23 (((mq_meets v q (ma_p ld dg pa jo wa sr pu J c t (3 * kk + p))).2.2 : Nat) : Int))) ho ⟨hM0, hM1, hM2, hM3, hM4, hM5, hM6, hM7, hM8, hM9, hM10, hM11, hM12, hM13, hM14, hM15, hM16, by omega, by omega⟩ hc kk (by omega) _) (fun r h' hq => ?_)
        obtain ⟨rfl, hq⟩ := hq
        have hq := hq.symm
        subst hq
        refine xa_iload_n (pc := 150) dX10_meetAhead_150 rfl ?_
        refine xa_aload_n (pc := 151) dX10_meetAhead_151 rfl ?_
        refine xa_iload_n (pc := 152) dX10_meetAhead_152 rfl ?_
        refine xa_bipush (pc := 153) dX10_meetAhead_153 rfl ?_
        refine xa_callV (pc := 155) (as := [xa_i (mE jo wa sr c), xa_i 10]) (rest := [xa_i t, xa_i (mE jo wa sr (cf_sp c kk ((p : Nat) : Int))), xa_r k]) dX10_meetAhead_155 ⟨qX10_turnedBy.1, qX10_turnedBy.2.1, qX10_turnedBy.2.2, by decide, by decide⟩ lkRX10_176 imX10_turnedBy seX10_turnedBy rfl rfl (by omega) (by omega) hM0 rfl (Nat.le_of_ble_eq_true rfl) (Nat.zero_le _) (Nat.zero_le _) (c_kTurned (F := (xa_uF (xa_uF F 14 ((mq_meets v q (ma_p ld dg pa jo wa sr pu J c t (3 * kk + p))).1)) 15 ((mq_meets v q (ma_p ld dg pa jo wa sr pu J c t (3 * kk + p))).2.1))) (s := (xa_upf (xa_upf s 14 pu) 23 (((mq_meets v q (ma_p ld dg pa jo wa sr pu J c t (3 * kk + p))).2.2 : Nat) : Int))) ho ⟨hM0, hM1, hM2, hM3, hM4, hM5, hM6, hM7, hM8, hM9, hM10, hM11, hM12, hM13, hM14, hM15, hM16, by omega, by omega⟩ hc 10 (by omega) (by omega) hpu) (fun r h' hq => ?_)
        obtain ⟨rfl, hq⟩ := hq
        have hq := hq.symm
        subst hq
        refine xa_top (y := cf_turn ld dg pa pu c 10) rfl ?_
        have tb := cf_turn_b ho.1 hc hpu 10
        refine xa_isub (pc := 158) dX10_meetAhead_158 ?_
        refine xa_iload (pc := 159) dX10_meetAhead_159 rfl ?_
        refine xa_callV (pc := 161) (as := [xa_i (mE jo wa sr (cf_sp c kk ((p : Nat) : Int))), xa_i (t - (cf_turn ld dg pa pu c 10)), xa_i v]) (rest := []) dX10_meetAhead_161 ⟨qX10_meet.1, qX10_meet.2.1, qX10_meet.2.2, by decide, by decide⟩ lkRX10_209 imX10_meet seX10_meet rfl rfl (by omega) (by omega) hM0 rfl (Nat.le_of_ble_eq_true rfl) (Nat.zero_le _) (Nat.zero_le _) (c_mMeet (c := (cf_sp c kk ((p : Nat) : Int))) (q := (mq_meets v q (ma_p ld dg pa jo wa sr pu J c t (3 * kk + p)))) (N := (360 * sm_shapes F).toNat) _ (sx jo wa sr (cf_sp c kk ((p : Nat) : Int)) ((t - cf_turn ld dg pa pu c 10) % 360)) (t - (cf_turn ld dg pa pu c 10)) v F (xa_upf s 14 pu) ld dg pa jo wa sr pu ri (mE_9 ho.1 ho.2.1 (cf_sp_ok (kk := kk) (p := p) ho.1 hc (by omega) (by omega))) (by omega) (by have := (sx_lt ho.1 ho.2.1 (cf_sp_ok (kk := kk) (p := p) ho.1 hc (by omega) (by omega)) (t := (t - (cf_turn ld dg pa pu c 10)) % 360) (by omega)).2; omega) (sx_lt ho.1 ho.2.1 (cf_sp_ok (kk := kk) (p := p) ho.1 hc (by omega) (by omega)) (t := (t - (cf_turn ld dg pa pu c 10)) % 360) (by omega)).1 (by have := sm_shapes_b ho.1 ho.2.1; omega) (ma_ok2 hqo hv (fun x hx => (ma_p_ok ho.1 ho.2.1 hc ht (3 * kk + p) (by omega) x hx).1)).1 ⟨hM0, hM1, hM2, hM3, hM4, hM5, hM6, hM7, hM8, hM9, hM10, hM11, hM12, hM13, hM14, hM15, hM16, by omega, by omega⟩) (fun r h' hq => ?_)
        obtain ⟨⟨rfl, hM⟩, hqn, hqf⟩ := hq
        have hM : xMq h' k F (xa_upf s 14 pu) (mq_meets v q (ma_p ld dg pa jo wa sr pu J c t (3 * kk + (p + 1)))) := by rw [ma_p_s (by omega) (by omega), mq_app]; exact hM
        obtain ⟨hM0, hM1, hM2, hM3, hM4, hM5, hM6, hM7, hM8, hM9, hM10, hM11, hM12, hM13, hM14, hM15, hM16, hMk, hMn⟩ := hM
        have hM0 : h'.1 k = xa_o 10 [xa_i (s 0), xa_r (k + 1), xa_r (k + 2), xa_r (k + 3), xa_r (k + 4), xa_r (k + 5), xa_r (k + 6), xa_r (k + 7), xa_r (k + 8), xa_r (k + 9), xa_r (k + 10), xa_r (k + 11), xa_r (k + 12), xa_i (s 13), xa_i pu, xa_i (s 15), xa_r (k + 13), xa_i (s 17), xa_i (s 18), xa_i (s 19), xa_i (s 20), xa_r (k + 14), xa_r (k + 15), xa_i (((mq_meets v q (ma_p ld dg pa jo wa sr pu J c t (3 * kk + (p + 1)))).2.2 : Nat) : Int), xa_r (k + 16)] := hM0
        have hM1 : h'.1 (k + 1) = xa_a 120 (F 1) := hM1
        have hM2 : h'.1 (k + 2) = xa_a 2 (F 2) := hM2
        have hM3 : h'.1 (k + 3) = xa_a 18 (F 3) := hM3
        have hM4 : h'.1 (k + 4) = xa_a 2 (F 4) := hM4
        have hM5 : h'.1 (k + 5) = xa_a 4 (F 5) := hM5
        have hM6 : h'.1 (k + 6) = xa_a 4 (F 6) := hM6
        have hM7 : h'.1 (k + 7) = xa_a 2 (F 7) := hM7
        have hM8 : h'.1 (k + 8) = xa_a 2 (F 8) := hM8
        have hM9 : h'.1 (k + 9) = xa_a 12 (F 9) := hM9
        have hM10 : h'.1 (k + 10) = xa_a 720 (F 10) := hM10
        have hM11 : h'.1 (k + 11) = xa_a 3 (F 11) := hM11
        have hM12 : h'.1 (k + 12) = xa_a 360 (F 12) := hM12
        have hM13 : h'.1 (k + 13) = xa_a 3 (F 13) := hM13
        have hM14 : h'.1 (k + 14) = xa_a 583200 ((mq_meets v q (ma_p ld dg pa jo wa sr pu J c t (3 * kk + (p + 1)))).1) := hM14
        have hM15 : h'.1 (k + 15) = xa_a 583200 ((mq_meets v q (ma_p ld dg pa jo wa sr pu J c t (3 * kk + (p + 1)))).2.1) := hM15
        have hM16 : h'.1 (k + 16) = xa_a 4 (F 16) := hM16
        have hn : h'.2 = h.2 := hqn.trans hn
        have fr : ∀ i, (i < k ∨ k + 17 ≤ i) → h'.1 i = h.1 i := fun i hi => (hqf i (by omega)).trans (fr i hi)
        refine xa_iincw (pc := 164) (y := ((p + 1 : Nat) : Int)) [some (xa_r k), some (xa_i (mE jo wa sr c)), some (xa_i t), some (xa_i J), some (xa_i v), some (xa_i ((kk : Nat) : Int)), some (xa_i ((p + 1 : Nat) : Int)), g7] dX10_meetAhead_164 (by decide) rfl rfl (by omega) rfl ?_
        refine xa_goto (pc := 167) (tgt := 122) dX10_meetAhead_167 (by decide) ?_
        exact ih kk (p + 1) _ _ (by omega) (by omega) (by omega) (by omega) (by omega) hM0 hM1 hM2 hM3 hM4 hM5 hM6 hM7 hM8 hM9 hM10 hM11 hM12 hM13 hM14 hM15 hM16 (fun i hi => (fr i hi).trans (fr0 i hi))
theorem c_mAhead_m {G : xa_G} {h0 : xa_H} {k : Nat} {c : xCf} {t J v : Int} {q : xTQ} {F : Nat → Nat → Int} {s : Nat → Int} {ld dg : Nat → Int} {pa jo : Nat} {wa sr pu ri : Int} (hk : 2 ≤ k) (hc : cf_ok pa jo wa sr c) (ht : 0 ≤ t ∧ t < 360) (hJ : J = 0 ∨ J = 1 ∨ J = 2 ∨ J = 3) (ho : mOk F ld dg pa jo wa sr pu ri) (hpu : -9999 ≤ pu ∧ pu ≤ 9999) (hqo : mq_ok (360 * sm_shapes F).toNat q) (hv : 0 ≤ v ∧ v ≤ q.2.2) : ∀ (d : Nat) (n : Nat) (g6 g7 : Option xa_V) (h : xa_H), 4 - n < d → (n ≤ 4) → (h.2 = h0.2) → (k + 16 < h.2) → (h.1 k = xa_o 10 [xa_i (s 0), xa_r (k + 1), xa_r (k + 2), xa_r (k + 3), xa_r (k + 4), xa_r (k + 5), xa_r (k + 6), xa_r (k + 7), xa_r (k + 8), xa_r (k + 9), xa_r (k + 10), xa_r (k + 11), xa_r (k + 12), xa_i (s 13), xa_i pu, xa_i (s 15), xa_r (k + 13), xa_i (s 17), xa_i (s 18), xa_i (s 19), xa_i (s 20), xa_r (k + 14), xa_r (k + 15), xa_i (((mq_meets v q (ma_m ld dg pa jo wa sr pu J c t n)).2.2 : Nat) : Int), xa_r (k + 16)]) → (h.1 (k + 1) = xa_a 120 (F 1)) → (h.1 (k + 2) = xa_a 2 (F 2)) → (h.1 (k + 3) = xa_a 18 (F 3)) → (h.1 (k + 4) = xa_a 2 (F 4)) → (h.1 (k + 5) = xa_a 4 (F 5)) → (h.1 (k + 6) = xa_a 4 (F 6)) → (h.1 (k + 7) = xa_a 2 (F 7)) → (h.1 (k + 8) = xa_a 2 (F 8)) → (h.1 (k + 9) = xa_a 12 (F 9)) → (h.1 (k + 10) = xa_a 720 (F 10)) → (h.1 (k + 11) = xa_a 3 (F 11)) → (h.1 (k + 12) = xa_a 360 (F 12)) → (h.1 (k + 13) = xa_a 3 (F 13)) → (h.1 (k + 14) = xa_a 583200 ((mq_meets v q (ma_m ld dg pa jo wa sr pu J c t n)).1)) → (h.1 (k + 15) = xa_a 583200 ((mq_meets v q (ma_m ld dg pa jo wa sr pu J c t n)).2.1)) → (h.1 (k + 16) = xa_a 4 (F 16)) → (∀ i, (i < k ∨ k + 17 ≤ i) → h.1 i = h0.1 i) → xa_W G mX10_meetAhead (xa_Z G (fun r h' => (r = none ∧ xMq h' k F (xa_upf s 14 pu) (mq_meets v q (ma_p ld dg pa jo wa sr pu J c t (3 * pa)))) ∧ h'.2 = h0.2 ∧ ∀ i, (i < k ∨ k + 17 ≤ i) → h'.1 i = h0.1 i)) 18 [some (xa_r k), some (xa_i (mE jo wa sr c)), some (xa_i t), some (xa_i J), some (xa_i v), some (xa_i ((n + 1 : Nat) : Int)), g6, g7] [] h 0 0 := by
  intro d
  induction d with
  | zero => intros; exfalso; omega
  | succ d ih =>
    intro n g6 g7 h hd hn4 hn0 hkn hM0 hM1 hM2 hM3 hM4 hM5 hM6 hM7 hM8 hM9 hM10 hM11 hM12 hM13 hM14 hM15 hM16 fr0
    have hn : h.2 = h.2 := rfl
    have fr : ∀ i, (i < k ∨ k + 17 ≤ i) → h.1 i = h.1 i := fun _ _ => rfl
    have hpa := ho.1.1
    have hR := ho.2.1.1
    have hR2 := ho.2.1.2.1
    have hmb := mE_9 ho.1 ho.2.1 hc
    refine xa_iload (pc := 18) dX10_meetAhead_18 rfl ?_
    refine xa_iconst (pc := 20) dX10_meetAhead_20 ?_
    refine xa_icmp_ge (pc := 21) (tgt := 105) dX10_meetAhead_21 (by decide) ⟨by omega, by omega⟩ (by decide) (fun c_21 => ?_) (fun c_21 => ?_)
    · skip
      refine xa_iconst (pc := 105) dX10_meetAhead_105 ?_
      refine xa_istorew (pc := 106) [some (xa_r k), some (xa_i (mE jo wa sr c)), some (xa_i t), some (xa_i J), some (xa_i v), some (xa_i 0), g6, g7] dX10_meetAhead_106 (by decide) (Nat.le_of_ble_eq_true rfl) rfl rfl ?_
      refine xa_iload (pc := 108) dX10_meetAhead_108 rfl ?_
      refine xa_aload_n (pc := 110) dX10_meetAhead_110 rfl ?_
      refine xa_getfield (pc := 111) dX10_meetAhead_111 flRX10_13 (by omega) (by omega) hM0 rfl ?_
      refine xa_iconst (pc := 114) dX10_meetAhead_114 ?_
      refine xa_ialdw (pc := 115) 0 dX10_meetAhead_115 (by omega) hM2 (by omega) (by omega) rfl ?_
      refine xa_icmp_ge (pc := 116) (tgt := 176) dX10_meetAhead_116 (by decide) (by decide) ⟨by omega, by omega⟩ (fun c_116 => ?_) (fun c_116 => ?_)
      · skip
        refine xa_return (pc := 176) dX10_meetAhead_176 rfl ?_
        exfalso; omega
      · skip
        refine xa_iconst (pc := 119) dX10_meetAhead_119 ?_
        refine xa_istorew (pc := 120) [some (xa_r k), some (xa_i (mE jo wa sr c)), some (xa_i t), some (xa_i J), some (xa_i v), some (xa_i 0), some (xa_i 0), g7] dX10_meetAhead_120 (by decide) (Nat.le_of_ble_eq_true rfl) rfl rfl ?_
        have hn5 : n = 4 := by omega
        subst hn5
        exact c_mAhead_p hk hc ht hJ ho hpu hqo hv (4 * pa + 4) 0 0 _ _ (by omega) (by omega) (by omega) (by omega) (by omega) hM0 hM1 hM2 hM3 hM4 hM5 hM6 hM7 hM8 hM9 hM10 hM11 hM12 hM13 hM14 hM15 hM16 (fun i hi => (fr i hi).trans (fr0 i hi))
    · skip
      refine xa_iload (pc := 24) dX10_meetAhead_24 rfl ?_
      refine xa_iconst (pc := 26) dX10_meetAhead_26 ?_
      refine xa_isub (pc := 27) dX10_meetAhead_27 ?_
      refine xa_iconst (pc := 28) dX10_meetAhead_28 ?_
      refine xa_idivn (pc := 29) dX10_meetAhead_29 ⟨by omega, by omega⟩ (by decide) (by omega) (by omega) ?_
      refine xa_top (y := ((n / 2 : Nat) : Int)) (by omega) ?_
      refine xa_istorew (pc := 30) [some (xa_r k), some (xa_i (mE jo wa sr c)), some (xa_i t), some (xa_i J), some (xa_i v), some (xa_i ((n + 1 : Nat) : Int)), some (xa_i ((n / 2 : Nat) : Int)), g7] dX10_meetAhead_30 (by decide) (Nat.le_of_ble_eq_true rfl) rfl rfl ?_
      refine xa_aload_n (pc := 32) dX10_meetAhead_32 rfl ?_
      refine xa_iload (pc := 33) dX10_meetAhead_33 rfl ?_
      refine xa_callV (pc := 35) (as := [xa_i ((n / 2 : Nat) : Int)]) (rest := []) dX10_meetAhead_35 ⟨qX10_isJoint.1, qX10_isJoint.2.1, qX10_isJoint.2.2, by decide, by decide⟩ lkRX10_120 imX10_isJoint seX10_isJoint rfl rfl (by omega) (by omega) hM0 rfl (Nat.le_of_ble_eq_true rfl) (Nat.zero_le _) (Nat.zero_le _) (c_mJoint _ (xa_uF (xa_uF F 14 ((mq_meets v q (ma_m ld dg pa jo wa sr pu J c t n)).1)) 15 ((mq_meets v q (ma_m ld dg pa jo wa sr pu J c t n)).2.1)) (xa_upf (xa_upf s 14 pu) 23 (((mq_meets v q (ma_m ld dg pa jo wa sr pu J c t n)).2.2 : Nat) : Int)) _ ⟨by omega, by omega⟩ ⟨hM0, hM1, hM2, hM3, hM4, hM5, hM6, hM7, hM8, hM9, hM10, hM11, hM12, hM13, hM14, hM15, hM16, by omega, by omega⟩ ho.hv) (fun r h' hq => ?_)
      obtain ⟨rfl, hq⟩ := hq
      have hq := hq.symm
      subst hq
      refine xa_top (y := xa_b (0 ≤ ((n / 2 : Nat) : Int) ∧ ((n / 2 : Nat) : Int) ≤ F 4 0 - 1)) rfl ?_
      refine xa_if_eq (pc := 38) (tgt := 73) dX10_meetAhead_38 (by decide) xa_okb (fun c_38 => ?_) (fun c_38 => ?_)
      · have c_38 := xa_b0.mp c_38
        refine xa_bipush (pc := 73) dX10_meetAhead_73 rfl ?_
        refine xa_istorew (pc := 75) [some (xa_r k), some (xa_i (mE jo wa sr c)), some (xa_i t), some (xa_i J), some (xa_i v), some (xa_i ((n + 1 : Nat) : Int)), some (xa_i ((n / 2 : Nat) : Int)), some (xa_i (-4))] dX10_meetAhead_75 (by decide) (Nat.le_of_ble_eq_true rfl) rfl rfl ?_
        refine xa_iload (pc := 77) dX10_meetAhead_77 rfl ?_
        refine xa_if_lt (pc := 79) (tgt := 99) dX10_meetAhead_79 (by decide) (by decide) (fun c_79 => ?_) (fun c_79 => ?_)
        · skip
          refine xa_iincw (pc := 99) (y := ((n + 1 + 1 : Nat) : Int)) [some (xa_r k), some (xa_i (mE jo wa sr c)), some (xa_i t), some (xa_i J), some (xa_i v), some (xa_i ((n + 1 + 1 : Nat) : Int)), some (xa_i ((n / 2 : Nat) : Int)), some (xa_i (-4))] dX10_meetAhead_99 (by decide) rfl rfl (by omega) rfl ?_
          refine xa_goto (pc := 102) (tgt := 18) dX10_meetAhead_102 (by decide) ?_
          rw [← ma_m_n (ld := ld) (dg := dg) (pa := pa) (jo := jo) (wa := wa) (sr := sr) (pu := pu) (J := J) (c := c) (t := t) (n := n) (by first | exact Or.inr hcm | exact Or.inl (by omega))] at hM0 hM14 hM15
          exact ih (n + 1) _ _ _ (by omega) (by omega) (by omega) (by omega) hM0 hM1 hM2 hM3 hM4 hM5 hM6 hM7 hM8 hM9 hM10 hM11 hM12 hM13 hM14 hM15 hM16 (fun i hi => (fr i hi).trans (fr0 i hi))
        · skip
          exfalso; omega
      · have c_38 := xa_b1.mp c_38
        refine xa_iload_n (pc := 41) dX10_meetAhead_41 rfl ?_
        refine xa_iload (pc := 42) dX10_meetAhead_42 rfl ?_
        refine xa_callS (pc := 44) (as := [xa_i J, xa_i ((n / 2 : Nat) : Int)]) (rest := []) dX10_meetAhead_44 ⟨qX10_has.1, qX10_has.2.1, qX10_has.2.2, by decide, by decide⟩ lkRX10_202 smX10_has rfl rfl (Nat.le_of_ble_eq_true rfl) (Nat.zero_le _) (Nat.zero_le _) (c_has _ _ (by omega) (by omega)) (fun r h' hq => ?_)
        obtain ⟨rfl, hq⟩ := hq
        have hq := hq.symm
        subst hq
        refine xa_if_eq (pc := 47) (tgt := 73) dX10_meetAhead_47 (by decide) xa_okb (fun c_47 => ?_) (fun c_47 => ?_)
        · have c_47 := xa_b0.mp c_47
          refine xa_bipush (pc := 73) dX10_meetAhead_73 rfl ?_
          refine xa_istorew (pc := 75) [some (xa_r k), some (xa_i (mE jo wa sr c)), some (xa_i t), some (xa_i J), some (xa_i v), some (xa_i ((n + 1 : Nat) : Int)), some (xa_i ((n / 2 : Nat) : Int)), some (xa_i (-4))] dX10_meetAhead_75 (by decide) (Nat.le_of_ble_eq_true rfl) rfl rfl ?_
          refine xa_iload (pc := 77) dX10_meetAhead_77 rfl ?_
          refine xa_if_lt (pc := 79) (tgt := 99) dX10_meetAhead_79 (by decide) (by decide) (fun c_79 => ?_) (fun c_79 => ?_)
          · skip
            refine xa_iincw (pc := 99) (y := ((n + 1 + 1 : Nat) : Int)) [some (xa_r k), some (xa_i (mE jo wa sr c)), some (xa_i t), some (xa_i J), some (xa_i v), some (xa_i ((n + 1 + 1 : Nat) : Int)), some (xa_i ((n / 2 : Nat) : Int)), some (xa_i (-4))] dX10_meetAhead_99 (by decide) rfl rfl (by omega) rfl ?_
            refine xa_goto (pc := 102) (tgt := 18) dX10_meetAhead_102 (by decide) ?_
            rw [← ma_m_n (ld := ld) (dg := dg) (pa := pa) (jo := jo) (wa := wa) (sr := sr) (pu := pu) (J := J) (c := c) (t := t) (n := n) (by first | exact Or.inr hcm | exact Or.inl (by omega))] at hM0 hM14 hM15
            exact ih (n + 1) _ _ _ (by omega) (by omega) (by omega) (by omega) hM0 hM1 hM2 hM3 hM4 hM5 hM6 hM7 hM8 hM9 hM10 hM11 hM12 hM13 hM14 hM15 hM16 (fun i hi => (fr i hi).trans (fr0 i hi))
          · skip
            exfalso; omega
        · have c_47 := xa_b1.mp c_47
          refine xa_aload_n (pc := 50) dX10_meetAhead_50 rfl ?_
          refine xa_iload_n (pc := 51) dX10_meetAhead_51 rfl ?_
          refine xa_iload (pc := 52) dX10_meetAhead_52 rfl ?_
          refine xa_iload (pc := 54) dX10_meetAhead_54 rfl ?_
          refine xa_iconst (pc := 56) dX10_meetAhead_56 ?_
          refine xa_iremn (pc := 57) dX10_meetAhead_57 ⟨by omega, by omega⟩ (by decide) (by omega) (by omega) ?_
          refine xa_iconst (pc := 58) dX10_meetAhead_58 ?_
          refine xa_icmp_ne (pc := 59) (tgt := 66) dX10_meetAhead_59 (by decide) ⟨by omega, by omega⟩ (by decide) (fun c_59 => ?_) (fun c_59 => ?_)
          · skip
            refine xa_iconst (pc := 66) dX10_meetAhead_66 ?_
            refine xa_callV (pc := 67) (as := [xa_i (mE jo wa sr c), xa_i ((n / 2 : Nat) : Int), xa_i 1]) (rest := []) dX10_meetAhead_67 ⟨qX10_bent.1, qX10_bent.2.1, qX10_bent.2.2, by decide, by decide⟩ lkRX10_139 imX10_bent seX10_bent rfl rfl (by omega) (by omega) hM0 rfl (Nat.le_of_ble_eq_true rfl) (Nat.zero_le _) (Nat.zero_le _) (c_kBent (F := (xa_uF (xa_uF F 14 ((mq_meets v q (ma_m ld dg pa jo wa sr pu J c t n)).1)) 15 ((mq_meets v q (ma_m ld dg pa jo wa sr pu J c t n)).2.1))) (s := (xa_upf (xa_upf s 14 pu) 23 (((mq_meets v q (ma_m ld dg pa jo wa sr pu J c t n)).2.2 : Nat) : Int))) ho ⟨hM0, hM1, hM2, hM3, hM4, hM5, hM6, hM7, hM8, hM9, hM10, hM11, hM12, hM13, hM14, hM15, hM16, by omega, by omega⟩ hc n (by omega) (by have := ho.2.1.2.1; omega) 1 (by first | (rw [if_pos (by omega)]; done) | (rw [if_neg (by omega)]; done))) (fun r h' hq => ?_)
            obtain ⟨hq2, hq⟩ := hq
            have hq := hq.symm
            subst hq
            have hq := hq2
            rcases hq with ⟨c1, hcm, hc1, rfl⟩ | ⟨hcm, rfl⟩
            · skip
              have mE1 := mE_9 ho.1 ho.2.1 hc1
              refine xa_goto (pc := 70) (tgt := 75) dX10_meetAhead_70 (by decide) ?_
              refine xa_istorew (pc := 75) [some (xa_r k), some (xa_i (mE jo wa sr c)), some (xa_i t), some (xa_i J), some (xa_i v), some (xa_i ((n + 1 : Nat) : Int)), some (xa_i ((n / 2 : Nat) : Int)), some (xa_i (mE jo wa sr c1))] dX10_meetAhead_75 (by decide) (Nat.le_of_ble_eq_true rfl) rfl rfl ?_
              refine xa_iload (pc := 77) dX10_meetAhead_77 rfl ?_
              refine xa_if_lt (pc := 79) (tgt := 99) dX10_meetAhead_79 (by decide) ⟨by omega, by omega⟩ (fun c_79 => ?_) (fun c_79 => ?_)
              · skip
                refine xa_iincw (pc := 99) (y := ((n + 1 + 1 : Nat) : Int)) [some (xa_r k), some (xa_i (mE jo wa sr c)), some (xa_i t), some (xa_i J), some (xa_i v), some (xa_i ((n + 1 + 1 : Nat) : Int)), some (xa_i ((n / 2 : Nat) : Int)), some (xa_i (mE jo wa sr c1))] dX10_meetAhead_99 (by decide) rfl rfl (by omega) rfl ?_
                refine xa_goto (pc := 102) (tgt := 18) dX10_meetAhead_102 (by decide) ?_
                rw [← ma_m_n (ld := ld) (dg := dg) (pa := pa) (jo := jo) (wa := wa) (sr := sr) (pu := pu) (J := J) (c := c) (t := t) (n := n) (by first | exact Or.inr hcm | exact Or.inl (by omega))] at hM0 hM14 hM15
                exact ih (n + 1) _ _ _ (by omega) (by omega) (by omega) (by omega) hM0 hM1 hM2 hM3 hM4 hM5 hM6 hM7 hM8 hM9 hM10 hM11 hM12 hM13 hM14 hM15 hM16 (fun i hi => (fr i hi).trans (fr0 i hi))
              · skip
                refine xa_aload_n (pc := 82) dX10_meetAhead_82 rfl ?_
                refine xa_iload (pc := 83) dX10_meetAhead_83 rfl ?_
                refine xa_iload_n (pc := 85) dX10_meetAhead_85 rfl ?_
                refine xa_aload_n (pc := 86) dX10_meetAhead_86 rfl ?_
                refine xa_iload_n (pc := 87) dX10_meetAhead_87 rfl ?_
                refine xa_iload (pc := 88) dX10_meetAhead_88 rfl ?_
                refine xa_callV (pc := 90) (as := [xa_i (mE jo wa sr c), xa_i ((n + 1 : Nat) : Int)]) (rest := [xa_i t, xa_i (mE jo wa sr c1), xa_r k]) dX10_meetAhead_90 ⟨qX10_turnedBy.1, qX10_turnedBy.2.1, qX10_turnedBy.2.2, by decide, by decide⟩ lkRX10_176 imX10_turnedBy seX10_turnedBy rfl rfl (by omega) (by omega) hM0 rfl (Nat.le_of_ble_eq_true rfl) (Nat.zero_le _) (Nat.zero_le _) (c_kTurned (F := (xa_uF (xa_uF F 14 ((mq_meets v q (ma_m ld dg pa jo wa sr pu J c t n)).1)) 15 ((mq_meets v q (ma_m ld dg pa jo wa sr pu J c t n)).2.1))) (s := (xa_upf (xa_upf s 14 pu) 23 (((mq_meets v q (ma_m ld dg pa jo wa sr pu J c t n)).2.2 : Nat) : Int))) ho ⟨hM0, hM1, hM2, hM3, hM4, hM5, hM6, hM7, hM8, hM9, hM10, hM11, hM12, hM13, hM14, hM15, hM16, by omega, by omega⟩ hc ((n + 1 : Nat) : Int) (by omega) (cf_move_j (by have hbk := cf_move_back ho.1 hc hcm; rw [cf_inv2 c c (by omega)] at hbk; exact hbk)) hpu) (fun r h' hq => ?_)
                obtain ⟨rfl, hq⟩ := hq
                have hq := hq.symm
                subst hq
                refine xa_top (y := cf_turn ld dg pa pu c ((n + 1 : Nat) : Int)) rfl ?_
                have tb := cf_turn_b ho.1 hc hpu ((n + 1 : Nat) : Int)
                refine xa_isub (pc := 93) dX10_meetAhead_93 ?_
                refine xa_iload (pc := 94) dX10_meetAhead_94 rfl ?_
                refine xa_callV (pc := 96) (as := [xa_i (mE jo wa sr c1), xa_i (t - (cf_turn ld dg pa pu c ((n + 1 : Nat) : Int))), xa_i v]) (rest := []) dX10_meetAhead_96 ⟨qX10_meet.1, qX10_meet.2.1, qX10_meet.2.2, by decide, by decide⟩ lkRX10_209 imX10_meet seX10_meet rfl rfl (by omega) (by omega) hM0 rfl (Nat.le_of_ble_eq_true rfl) (Nat.zero_le _) (Nat.zero_le _) (c_mMeet (c := c1) (q := (mq_meets v q (ma_m ld dg pa jo wa sr pu J c t n))) (N := (360 * sm_shapes F).toNat) _ (sx jo wa sr c1 ((t - cf_turn ld dg pa pu c ((n + 1 : Nat) : Int)) % 360)) (t - (cf_turn ld dg pa pu c ((n + 1 : Nat) : Int))) v F (xa_upf s 14 pu) ld dg pa jo wa sr pu ri (mE_9 ho.1 ho.2.1 hc1) (by omega) (by have := (sx_lt ho.1 ho.2.1 hc1 (t := (t - (cf_turn ld dg pa pu c ((n + 1 : Nat) : Int))) % 360) (by omega)).2; omega) (sx_lt ho.1 ho.2.1 hc1 (t := (t - (cf_turn ld dg pa pu c ((n + 1 : Nat) : Int))) % 360) (by omega)).1 (by have := sm_shapes_b ho.1 ho.2.1; omega) (ma_ok2 hqo hv (fun x hx => (ma_m_ok ho.1 ho.2.1 hc ht n (by omega) x hx).1)).1 ⟨hM0, hM1, hM2, hM3, hM4, hM5, hM6, hM7, hM8, hM9, hM10, hM11, hM12, hM13, hM14, hM15, hM16, by omega, by omega⟩) (fun r h' hq => ?_)
                obtain ⟨⟨rfl, hM⟩, hqn, hqf⟩ := hq
                have hM : xMq h' k F (xa_upf s 14 pu) (mq_meets v q (ma_m ld dg pa jo wa sr pu J c t (n + 1))) := by rw [ma_m_s (by omega) (by omega) hcm, mq_app]; exact hM
                obtain ⟨hM0, hM1, hM2, hM3, hM4, hM5, hM6, hM7, hM8, hM9, hM10, hM11, hM12, hM13, hM14, hM15, hM16, hMk, hMn⟩ := hM
                have hM0 : h'.1 k = xa_o 10 [xa_i (s 0), xa_r (k + 1), xa_r (k + 2), xa_r (k + 3), xa_r (k + 4), xa_r (k + 5), xa_r (k + 6), xa_r (k + 7), xa_r (k + 8), xa_r (k + 9), xa_r (k + 10), xa_r (k + 11), xa_r (k + 12), xa_i (s 13), xa_i pu, xa_i (s 15), xa_r (k + 13), xa_i (s 17), xa_i (s 18), xa_i (s 19), xa_i (s 20), xa_r (k + 14), xa_r (k + 15), xa_i (((mq_meets v q (ma_m ld dg pa jo wa sr pu J c t (n + 1))).2.2 : Nat) : Int), xa_r (k + 16)] := hM0
                have hM1 : h'.1 (k + 1) = xa_a 120 (F 1) := hM1
                have hM2 : h'.1 (k + 2) = xa_a 2 (F 2) := hM2
                have hM3 : h'.1 (k + 3) = xa_a 18 (F 3) := hM3
                have hM4 : h'.1 (k + 4) = xa_a 2 (F 4) := hM4
                have hM5 : h'.1 (k + 5) = xa_a 4 (F 5) := hM5
                have hM6 : h'.1 (k + 6) = xa_a 4 (F 6) := hM6
                have hM7 : h'.1 (k + 7) = xa_a 2 (F 7) := hM7
                have hM8 : h'.1 (k + 8) = xa_a 2 (F 8) := hM8
                have hM9 : h'.1 (k + 9) = xa_a 12 (F 9) := hM9
                have hM10 : h'.1 (k + 10) = xa_a 720 (F 10) := hM10
                have hM11 : h'.1 (k + 11) = xa_a 3 (F 11) := hM11
                have hM12 : h'.1 (k + 12) = xa_a 360 (F 12) := hM12
                have hM13 : h'.1 (k + 13) = xa_a 3 (F 13) := hM13
                have hM14 : h'.1 (k + 14) = xa_a 583200 ((mq_meets v q (ma_m ld dg pa jo wa sr pu J c t (n + 1))).1) := hM14
                have hM15 : h'.1 (k + 15) = xa_a 583200 ((mq_meets v q (ma_m ld dg pa jo wa sr pu J c t (n + 1))).2.1) := hM15
                have hM16 : h'.1 (k + 16) = xa_a 4 (F 16) := hM16
                have hn : h'.2 = h.2 := hqn.trans hn
                have fr : ∀ i, (i < k ∨ k + 17 ≤ i) → h'.1 i = h.1 i := fun i hi => (hqf i (by omega)).trans (fr i hi)
                refine xa_iincw (pc := 99) (y := ((n + 1 + 1 : Nat) : Int)) [some (xa_r k), some (xa_i (mE jo wa sr c)), some (xa_i t), some (xa_i J), some (xa_i v), some (xa_i ((n + 1 + 1 : Nat) : Int)), some (xa_i ((n / 2 : Nat) : Int)), some (xa_i (mE jo wa sr c1))] dX10_meetAhead_99 (by decide) rfl rfl (by omega) rfl ?_
                refine xa_goto (pc := 102) (tgt := 18) dX10_meetAhead_102 (by decide) ?_
                exact ih (n + 1) _ _ _ (by omega) (by omega) (by omega) (by omega) hM0 hM1 hM2 hM3 hM4 hM5 hM6 hM7 hM8 hM9 hM10 hM11 hM12 hM13 hM14 hM15 hM16 (fun i hi => (fr i hi).trans (fr0 i hi))
            · skip
              refine xa_goto (pc := 70) (tgt := 75) dX10_meetAhead_70 (by decide) ?_
              refine xa_istorew (pc := 75) [some (xa_r k), some (xa_i (mE jo wa sr c)), some (xa_i t), some (xa_i J), some (xa_i v), some (xa_i ((n + 1 : Nat) : Int)), some (xa_i ((n / 2 : Nat) : Int)), some (xa_i (-4))] dX10_meetAhead_75 (by decide) (Nat.le_of_ble_eq_true rfl) rfl rfl ?_
              refine xa_iload (pc := 77) dX10_meetAhead_77 rfl ?_
              refine xa_if_lt (pc := 79) (tgt := 99) dX10_meetAhead_79 (by decide) (by decide) (fun c_79 => ?_) (fun c_79 => ?_)
              · skip
                refine xa_iincw (pc := 99) (y := ((n + 1 + 1 : Nat) : Int)) [some (xa_r k), some (xa_i (mE jo wa sr c)), some (xa_i t), some (xa_i J), some (xa_i v), some (xa_i ((n + 1 + 1 : Nat) : Int)), some (xa_i ((n / 2 : Nat) : Int)), some (xa_i (-4))] dX10_meetAhead_99 (by decide) rfl rfl (by omega) rfl ?_
                refine xa_goto (pc := 102) (tgt := 18) dX10_meetAhead_102 (by decide) ?_
                rw [← ma_m_n (ld := ld) (dg := dg) (pa := pa) (jo := jo) (wa := wa) (sr := sr) (pu := pu) (J := J) (c := c) (t := t) (n := n) (by first | exact Or.inr hcm | exact Or.inl (by omega))] at hM0 hM14 hM15
                exact ih (n + 1) _ _ _ (by omega) (by omega) (by omega) (by omega) hM0 hM1 hM2 hM3 hM4 hM5 hM6 hM7 hM8 hM9 hM10 hM11 hM12 hM13 hM14 hM15 hM16 (fun i hi => (fr i hi).trans (fr0 i hi))
              · skip
                exfalso; omega
          · skip
            refine xa_iconst (pc := 62) dX10_meetAhead_62 ?_
            refine xa_goto (pc := 63) (tgt := 67) dX10_meetAhead_63 (by decide) ?_
            refine xa_callV (pc := 67) (as := [xa_i (mE jo wa sr c), xa_i ((n / 2 : Nat) : Int), xa_i (-1)]) (rest := []) dX10_meetAhead_67 ⟨qX10_bent.1, qX10_bent.2.1, qX10_bent.2.2, by decide, by decide⟩ lkRX10_139 imX10_bent seX10_bent rfl rfl (by omega) (by omega) hM0 rfl (Nat.le_of_ble_eq_true rfl) (Nat.zero_le _) (Nat.zero_le _) (c_kBent (F := (xa_uF (xa_uF F 14 ((mq_meets v q (ma_m ld dg pa jo wa sr pu J c t n)).1)) 15 ((mq_meets v q (ma_m ld dg pa jo wa sr pu J c t n)).2.1))) (s := (xa_upf (xa_upf s 14 pu) 23 (((mq_meets v q (ma_m ld dg pa jo wa sr pu J c t n)).2.2 : Nat) : Int))) ho ⟨hM0, hM1, hM2, hM3, hM4, hM5, hM6, hM7, hM8, hM9, hM10, hM11, hM12, hM13, hM14, hM15, hM16, by omega, by omega⟩ hc n (by omega) (by have := ho.2.1.2.1; omega) (-1) (by first | (rw [if_pos (by omega)]; done) | (rw [if_neg (by omega)]; done))) (fun r h' hq => ?_)
            obtain ⟨hq2, hq⟩ := hq
            have hq := hq.symm
            subst hq
            have hq := hq2
            rcases hq with ⟨c1, hcm, hc1, rfl⟩ | ⟨hcm, rfl⟩
            · skip
              have mE1 := mE_9 ho.1 ho.2.1 hc1
              refine xa_goto (pc := 70) (tgt := 75) dX10_meetAhead_70 (by decide) ?_
              refine xa_istorew (pc := 75) [some (xa_r k), some (xa_i (mE jo wa sr c)), some (xa_i t), some (xa_i J), some (xa_i v), some (xa_i ((n + 1 : Nat) : Int)), some (xa_i ((n / 2 : Nat) : Int)), some (xa_i (mE jo wa sr c1))] dX10_meetAhead_75 (by decide) (Nat.le_of_ble_eq_true rfl) rfl rfl ?_
              refine xa_iload (pc := 77) dX10_meetAhead_77 rfl ?_
              refine xa_if_lt (pc := 79) (tgt := 99) dX10_meetAhead_79 (by decide) ⟨by omega, by omega⟩ (fun c_79 => ?_) (fun c_79 => ?_)
              · skip
                refine xa_iincw (pc := 99) (y := ((n + 1 + 1 : Nat) : Int)) [some (xa_r k), some (xa_i (mE jo wa sr c)), some (xa_i t), some (xa_i J), some (xa_i v), some (xa_i ((n + 1 + 1 : Nat) : Int)), some (xa_i ((n / 2 : Nat) : Int)), some (xa_i (mE jo wa sr c1))] dX10_meetAhead_99 (by decide) rfl rfl (by omega) rfl ?_
                refine xa_goto (pc := 102) (tgt := 18) dX10_meetAhead_102 (by decide) ?_
                rw [← ma_m_n (ld := ld) (dg := dg) (pa := pa) (jo := jo) (wa := wa) (sr := sr) (pu := pu) (J := J) (c := c) (t := t) (n := n) (by first | exact Or.inr hcm | exact Or.inl (by omega))] at hM0 hM14 hM15
                exact ih (n + 1) _ _ _ (by omega) (by omega) (by omega) (by omega) hM0 hM1 hM2 hM3 hM4 hM5 hM6 hM7 hM8 hM9 hM10 hM11 hM12 hM13 hM14 hM15 hM16 (fun i hi => (fr i hi).trans (fr0 i hi))
              · skip
                refine xa_aload_n (pc := 82) dX10_meetAhead_82 rfl ?_
                refine xa_iload (pc := 83) dX10_meetAhead_83 rfl ?_
                refine xa_iload_n (pc := 85) dX10_meetAhead_85 rfl ?_
                refine xa_aload_n (pc := 86) dX10_meetAhead_86 rfl ?_
                refine xa_iload_n (pc := 87) dX10_meetAhead_87 rfl ?_
                refine xa_iload (pc := 88) dX10_meetAhead_88 rfl ?_
                refine xa_callV (pc := 90) (as := [xa_i (mE jo wa sr c), xa_i ((n + 1 : Nat) : Int)]) (rest := [xa_i t, xa_i (mE jo wa sr c1), xa_r k]) dX10_meetAhead_90 ⟨qX10_turnedBy.1, qX10_turnedBy.2.1, qX10_turnedBy.2.2, by decide, by decide⟩ lkRX10_176 imX10_turnedBy seX10_turnedBy rfl rfl (by omega) (by omega) hM0 rfl (Nat.le_of_ble_eq_true rfl) (Nat.zero_le _) (Nat.zero_le _) (c_kTurned (F := (xa_uF (xa_uF F 14 ((mq_meets v q (ma_m ld dg pa jo wa sr pu J c t n)).1)) 15 ((mq_meets v q (ma_m ld dg pa jo wa sr pu J c t n)).2.1))) (s := (xa_upf (xa_upf s 14 pu) 23 (((mq_meets v q (ma_m ld dg pa jo wa sr pu J c t n)).2.2 : Nat) : Int))) ho ⟨hM0, hM1, hM2, hM3, hM4, hM5, hM6, hM7, hM8, hM9, hM10, hM11, hM12, hM13, hM14, hM15, hM16, by omega, by omega⟩ hc ((n + 1 : Nat) : Int) (by omega) (cf_move_j (by have hbk := cf_move_back ho.1 hc hcm; rw [cf_inv2 c c (by omega)] at hbk; exact hbk)) hpu) (fun r h' hq => ?_)
                obtain ⟨rfl, hq⟩ := hq
                have hq := hq.symm
                subst hq
                refine xa_top (y := cf_turn ld dg pa pu c ((n + 1 : Nat) : Int)) rfl ?_
                have tb := cf_turn_b ho.1 hc hpu ((n + 1 : Nat) : Int)
                refine xa_isub (pc := 93) dX10_meetAhead_93 ?_
                refine xa_iload (pc := 94) dX10_meetAhead_94 rfl ?_
                refine xa_callV (pc := 96) (as := [xa_i (mE jo wa sr c1), xa_i (t - (cf_turn ld dg pa pu c ((n + 1 : Nat) : Int))), xa_i v]) (rest := []) dX10_meetAhead_96 ⟨qX10_meet.1, qX10_meet.2.1, qX10_meet.2.2, by decide, by decide⟩ lkRX10_209 imX10_meet seX10_meet rfl rfl (by omega) (by omega) hM0 rfl (Nat.le_of_ble_eq_true rfl) (Nat.zero_le _) (Nat.zero_le _) (c_mMeet (c := c1) (q := (mq_meets v q (ma_m ld dg pa jo wa sr pu J c t n))) (N := (360 * sm_shapes F).toNat) _ (sx jo wa sr c1 ((t - cf_turn ld dg pa pu c ((n + 1 : Nat) : Int)) % 360)) (t - (cf_turn ld dg pa pu c ((n + 1 : Nat) : Int))) v F (xa_upf s 14 pu) ld dg pa jo wa sr pu ri (mE_9 ho.1 ho.2.1 hc1) (by omega) (by have := (sx_lt ho.1 ho.2.1 hc1 (t := (t - (cf_turn ld dg pa pu c ((n + 1 : Nat) : Int))) % 360) (by omega)).2; omega) (sx_lt ho.1 ho.2.1 hc1 (t := (t - (cf_turn ld dg pa pu c ((n + 1 : Nat) : Int))) % 360) (by omega)).1 (by have := sm_shapes_b ho.1 ho.2.1; omega) (ma_ok2 hqo hv (fun x hx => (ma_m_ok ho.1 ho.2.1 hc ht n (by omega) x hx).1)).1 ⟨hM0, hM1, hM2, hM3, hM4, hM5, hM6, hM7, hM8, hM9, hM10, hM11, hM12, hM13, hM14, hM15, hM16, by omega, by omega⟩) (fun r h' hq => ?_)
                obtain ⟨⟨rfl, hM⟩, hqn, hqf⟩ := hq
                have hM : xMq h' k F (xa_upf s 14 pu) (mq_meets v q (ma_m ld dg pa jo wa sr pu J c t (n + 1))) := by rw [ma_m_s (by omega) (by omega) hcm, mq_app]; exact hM
                obtain ⟨hM0, hM1, hM2, hM3, hM4, hM5, hM6, hM7, hM8, hM9, hM10, hM11, hM12, hM13, hM14, hM15, hM16, hMk, hMn⟩ := hM
                have hM0 : h'.1 k = xa_o 10 [xa_i (s 0), xa_r (k + 1), xa_r (k + 2), xa_r (k + 3), xa_r (k + 4), xa_r (k + 5), xa_r (k + 6), xa_r (k + 7), xa_r (k + 8), xa_r (k + 9), xa_r (k + 10), xa_r (k + 11), xa_r (k + 12), xa_i (s 13), xa_i pu, xa_i (s 15), xa_r (k + 13), xa_i (s 17), xa_i (s 18), xa_i (s 19), xa_i (s 20), xa_r (k + 14), xa_r (k + 15), xa_i (((mq_meets v q (ma_m ld dg pa jo wa sr pu J c t (n + 1))).2.2 : Nat) : Int), xa_r (k + 16)] := hM0
                have hM1 : h'.1 (k + 1) = xa_a 120 (F 1) := hM1
                have hM2 : h'.1 (k + 2) = xa_a 2 (F 2) := hM2
                have hM3 : h'.1 (k + 3) = xa_a 18 (F 3) := hM3
                have hM4 : h'.1 (k + 4) = xa_a 2 (F 4) := hM4
                have hM5 : h'.1 (k + 5) = xa_a 4 (F 5) := hM5
                have hM6 : h'.1 (k + 6) = xa_a 4 (F 6) := hM6
                have hM7 : h'.1 (k + 7) = xa_a 2 (F 7) := hM7
                have hM8 : h'.1 (k + 8) = xa_a 2 (F 8) := hM8
                have hM9 : h'.1 (k + 9) = xa_a 12 (F 9) := hM9
                have hM10 : h'.1 (k + 10) = xa_a 720 (F 10) := hM10
                have hM11 : h'.1 (k + 11) = xa_a 3 (F 11) := hM11
                have hM12 : h'.1 (k + 12) = xa_a 360 (F 12) := hM12
                have hM13 : h'.1 (k + 13) = xa_a 3 (F 13) := hM13
                have hM14 : h'.1 (k + 14) = xa_a 583200 ((mq_meets v q (ma_m ld dg pa jo wa sr pu J c t (n + 1))).1) := hM14
                have hM15 : h'.1 (k + 15) = xa_a 583200 ((mq_meets v q (ma_m ld dg pa jo wa sr pu J c t (n + 1))).2.1) := hM15
                have hM16 : h'.1 (k + 16) = xa_a 4 (F 16) := hM16
                have hn : h'.2 = h.2 := hqn.trans hn
                have fr : ∀ i, (i < k ∨ k + 17 ≤ i) → h'.1 i = h.1 i := fun i hi => (hqf i (by omega)).trans (fr i hi)
                refine xa_iincw (pc := 99) (y := ((n + 1 + 1 : Nat) : Int)) [some (xa_r k), some (xa_i (mE jo wa sr c)), some (xa_i t), some (xa_i J), some (xa_i v), some (xa_i ((n + 1 + 1 : Nat) : Int)), some (xa_i ((n / 2 : Nat) : Int)), some (xa_i (mE jo wa sr c1))] dX10_meetAhead_99 (by decide) rfl rfl (by omega) rfl ?_
                refine xa_goto (pc := 102) (tgt := 18) dX10_meetAhead_102 (by decide) ?_
                exact ih (n + 1) _ _ _ (by omega) (by omega) (by omega) (by omega) hM0 hM1 hM2 hM3 hM4 hM5 hM6 hM7 hM8 hM9 hM10 hM11 hM12 hM13 hM14 hM15 hM16 (fun i hi => (fr i hi).trans (fr0 i hi))
            · skip
              refine xa_goto (pc := 70) (tgt := 75) dX10_meetAhead_70 (by decide) ?_
              refine xa_istorew (pc := 75) [some (xa_r k), some (xa_i (mE jo wa sr c)), some (xa_i t), some (xa_i J), some (xa_i v), some (xa_i ((n + 1 : Nat) : Int)), some (xa_i ((n / 2 : Nat) : Int)), some (xa_i (-4))] dX10_meetAhead_75 (by decide) (Nat.le_of_ble_eq_true rfl) rfl rfl ?_
              refine xa_iload (pc := 77) dX10_meetAhead_77 rfl ?_
              refine xa_if_lt (pc := 79) (tgt := 99) dX10_meetAhead_79 (by decide) (by decide) (fun c_79 => ?_) (fun c_79 => ?_)
              · skip
                refine xa_iincw (pc := 99) (y := ((n + 1 + 1 : Nat) : Int)) [some (xa_r k), some (xa_i (mE jo wa sr c)), some (xa_i t), some (xa_i J), some (xa_i v), some (xa_i ((n + 1 + 1 : Nat) : Int)), some (xa_i ((n / 2 : Nat) : Int)), some (xa_i (-4))] dX10_meetAhead_99 (by decide) rfl rfl (by omega) rfl ?_
                refine xa_goto (pc := 102) (tgt := 18) dX10_meetAhead_102 (by decide) ?_
                rw [← ma_m_n (ld := ld) (dg := dg) (pa := pa) (jo := jo) (wa := wa) (sr := sr) (pu := pu) (J := J) (c := c) (t := t) (n := n) (by first | exact Or.inr hcm | exact Or.inl (by omega))] at hM0 hM14 hM15
                exact ih (n + 1) _ _ _ (by omega) (by omega) (by omega) (by omega) hM0 hM1 hM2 hM3 hM4 hM5 hM6 hM7 hM8 hM9 hM10 hM11 hM12 hM13 hM14 hM15 hM16 (fun i hi => (fr i hi).trans (fr0 i hi))
              · skip
                exfalso; omega
theorem c_mAhead {G : xa_G} {h : xa_H} {c : xCf} {q : xTQ} (k : Nat) (t J v : Int) (F : Nat → Nat → Int) (s : Nat → Int) (ld dg : Nat → Int) (pa jo : Nat) (wa sr pu ri : Int) (hc : cf_ok pa jo wa sr c) (ht : 0 ≤ t ∧ t < 360) (hJ : J = 0 ∨ J = 1 ∨ J = 2 ∨ J = 3) (ho : mOk F ld dg pa jo wa sr pu ri) (hpu : -9999 ≤ pu ∧ pu ≤ 9999) (hqo : mq_ok (360 * sm_shapes F).toNat q) (hv : 0 ≤ v ∧ v ≤ q.2.2) (hM : xMq h k F (xa_upf s 14 pu) q)  : xa_M G mX10_meetAhead [xa_r k, xa_i (mE jo wa sr c), xa_i t, xa_i J, xa_i v] h 0 0 (fun r h' => (r = none ∧ xMq h' k F (xa_upf s 14 pu) (mq_meets v q (ma_p ld dg pa jo wa sr pu J c t (3 * pa)))) ∧ h'.2 = h.2 ∧ ∀ i, (i < k ∨ k + 17 ≤ i) → h'.1 i = h.1 i) := by
  refine xa_enter (by decide +kernel) (Nat.le_of_ble_eq_true rfl) ?_
  refine xa_locals (ls' := [some (xa_r k), some (xa_i (mE jo wa sr c)), some (xa_i t), some (xa_i J), some (xa_i v), none, none, none]) rfl ?_
  have hn : h.2 = h.2 := rfl
  have fr : ∀ i, (i < k ∨ k + 17 ≤ i) → h.1 i = h.1 i := fun _ _ => rfl
  obtain ⟨hM0, hM1, hM2, hM3, hM4, hM5, hM6, hM7, hM8, hM9, hM10, hM11, hM12, hM13, hM14, hM15, hM16, hMk, hMn⟩ := hM
  have hM0 : h.1 k = xa_o 10 [xa_i (s 0), xa_r (k + 1), xa_r (k + 2), xa_r (k + 3), xa_r (k + 4), xa_r (k + 5), xa_r (k + 6), xa_r (k + 7), xa_r (k + 8), xa_r (k + 9), xa_r (k + 10), xa_r (k + 11), xa_r (k + 12), xa_i (s 13), xa_i pu, xa_i (s 15), xa_r (k + 13), xa_i (s 17), xa_i (s 18), xa_i (s 19), xa_i (s 20), xa_r (k + 14), xa_r (k + 15), xa_i ((q.2.2 : Nat) : Int), xa_r (k + 16)] := hM0
  have hM1 : h.1 (k + 1) = xa_a 120 (F 1) := hM1
  have hM2 : h.1 (k + 2) = xa_a 2 (F 2) := hM2
  have hM3 : h.1 (k + 3) = xa_a 18 (F 3) := hM3
  have hM4 : h.1 (k + 4) = xa_a 2 (F 4) := hM4
  have hM5 : h.1 (k + 5) = xa_a 4 (F 5) := hM5
  have hM6 : h.1 (k + 6) = xa_a 4 (F 6) := hM6
  have hM7 : h.1 (k + 7) = xa_a 2 (F 7) := hM7
  have hM8 : h.1 (k + 8) = xa_a 2 (F 8) := hM8
  have hM9 : h.1 (k + 9) = xa_a 12 (F 9) := hM9
  have hM10 : h.1 (k + 10) = xa_a 720 (F 10) := hM10
  have hM11 : h.1 (k + 11) = xa_a 3 (F 11) := hM11
  have hM12 : h.1 (k + 12) = xa_a 360 (F 12) := hM12
  have hM13 : h.1 (k + 13) = xa_a 3 (F 13) := hM13
  have hM14 : h.1 (k + 14) = xa_a 583200 q.1 := hM14
  have hM15 : h.1 (k + 15) = xa_a 583200 q.2.1 := hM15
  have hM16 : h.1 (k + 16) = xa_a 4 (F 16) := hM16
  have hmb := mE_9 ho.1 ho.2.1 hc
  refine xa_aload_n (pc := 0) dX10_meetAhead_0 rfl ?_
  refine xa_iload_n (pc := 1) dX10_meetAhead_1 rfl ?_
  refine xa_iload_n (pc := 2) dX10_meetAhead_2 rfl ?_
  refine xa_aload_n (pc := 3) dX10_meetAhead_3 rfl ?_
  refine xa_iload_n (pc := 4) dX10_meetAhead_4 rfl ?_
  refine xa_iconst (pc := 5) dX10_meetAhead_5 ?_
  refine xa_callV (pc := 6) (as := [xa_i (mE jo wa sr c), xa_i 0]) (rest := [xa_i t, xa_i (mE jo wa sr c), xa_r k]) dX10_meetAhead_6 ⟨qX10_turnedBy.1, qX10_turnedBy.2.1, qX10_turnedBy.2.2, by decide, by decide⟩ lkRX10_176 imX10_turnedBy seX10_turnedBy rfl rfl (by omega) (by omega) hM0 rfl (Nat.le_of_ble_eq_true rfl) (Nat.zero_le _) (Nat.zero_le _) (c_kTurned (F := (xa_uF (xa_uF F 14 q.1) 15 q.2.1)) (s := (xa_upf (xa_upf s 14 pu) 23 ((q.2.2 : Nat) : Int))) ho ⟨hM0, hM1, hM2, hM3, hM4, hM5, hM6, hM7, hM8, hM9, hM10, hM11, hM12, hM13, hM14, hM15, hM16, by omega, by omega⟩ hc 0 (by omega) (by omega) hpu) (fun r h' hq => ?_)
  obtain ⟨rfl, hq⟩ := hq
  have hq := hq.symm
  subst hq
  refine xa_top (y := cf_turn ld dg pa pu c 0) rfl ?_
  have tb := cf_turn_b ho.1 hc hpu 0
  refine xa_isub (pc := 9) dX10_meetAhead_9 ?_
  refine xa_iload (pc := 10) dX10_meetAhead_10 rfl ?_
  refine xa_callV (pc := 12) (as := [xa_i (mE jo wa sr c), xa_i (t - (cf_turn ld dg pa pu c 0)), xa_i v]) (rest := []) dX10_meetAhead_12 ⟨qX10_meet.1, qX10_meet.2.1, qX10_meet.2.2, by decide, by decide⟩ lkRX10_209 imX10_meet seX10_meet rfl rfl (by omega) (by omega) hM0 rfl (Nat.le_of_ble_eq_true rfl) (Nat.zero_le _) (Nat.zero_le _) (c_mMeet (c := c) (q := q) (N := (360 * sm_shapes F).toNat) _ (sx jo wa sr c ((t - cf_turn ld dg pa pu c 0) % 360)) (t - (cf_turn ld dg pa pu c 0)) v F (xa_upf s 14 pu) ld dg pa jo wa sr pu ri (mE_9 ho.1 ho.2.1 hc) (by omega) (by have := (sx_lt ho.1 ho.2.1 hc (t := (t - (cf_turn ld dg pa pu c 0)) % 360) (by omega)).2; omega) (sx_lt ho.1 ho.2.1 hc (t := (t - (cf_turn ld dg pa pu c 0)) % 360) (by omega)).1 (by have := sm_shapes_b ho.1 ho.2.1; omega) hqo ⟨hM0, hM1, hM2, hM3, hM4, hM5, hM6, hM7, hM8, hM9, hM10, hM11, hM12, hM13, hM14, hM15, hM16, by omega, by omega⟩) (fun r h' hq => ?_)
  obtain ⟨⟨rfl, hM⟩, hqn, hqf⟩ := hq
  have hM : xMq h' k F (xa_upf s 14 pu) (mq_meets v q (ma_m ld dg pa jo wa sr pu J c t 0)) := by rw [show mq_meets v q (ma_m ld dg pa jo wa sr pu J c t 0) = mq_meet v q (sx jo wa sr c ((t - cf_turn ld dg pa pu c 0) % 360)) from rfl]; exact hM
  obtain ⟨hM0, hM1, hM2, hM3, hM4, hM5, hM6, hM7, hM8, hM9, hM10, hM11, hM12, hM13, hM14, hM15, hM16, hMk, hMn⟩ := hM
  have hM0 : h'.1 k = xa_o 10 [xa_i (s 0), xa_r (k + 1), xa_r (k + 2), xa_r (k + 3), xa_r (k + 4), xa_r (k + 5), xa_r (k + 6), xa_r (k + 7), xa_r (k + 8), xa_r (k + 9), xa_r (k + 10), xa_r (k + 11), xa_r (k + 12), xa_i (s 13), xa_i pu, xa_i (s 15), xa_r (k + 13), xa_i (s 17), xa_i (s 18), xa_i (s 19), xa_i (s 20), xa_r (k + 14), xa_r (k + 15), xa_i (((mq_meets v q (ma_m ld dg pa jo wa sr pu J c t 0)).2.2 : Nat) : Int), xa_r (k + 16)] := hM0
  have hM1 : h'.1 (k + 1) = xa_a 120 (F 1) := hM1
  have hM2 : h'.1 (k + 2) = xa_a 2 (F 2) := hM2
  have hM3 : h'.1 (k + 3) = xa_a 18 (F 3) := hM3
  have hM4 : h'.1 (k + 4) = xa_a 2 (F 4) := hM4
  have hM5 : h'.1 (k + 5) = xa_a 4 (F 5) := hM5
  have hM6 : h'.1 (k + 6) = xa_a 4 (F 6) := hM6
  have hM7 : h'.1 (k + 7) = xa_a 2 (F 7) := hM7
  have hM8 : h'.1 (k + 8) = xa_a 2 (F 8) := hM8
  have hM9 : h'.1 (k + 9) = xa_a 12 (F 9) := hM9
  have hM10 : h'.1 (k + 10) = xa_a 720 (F 10) := hM10
  have hM11 : h'.1 (k + 11) = xa_a 3 (F 11) := hM11
  have hM12 : h'.1 (k + 12) = xa_a 360 (F 12) := hM12
  have hM13 : h'.1 (k + 13) = xa_a 3 (F 13) := hM13
  have hM14 : h'.1 (k + 14) = xa_a 583200 ((mq_meets v q (ma_m ld dg pa jo wa sr pu J c t 0)).1) := hM14
  have hM15 : h'.1 (k + 15) = xa_a 583200 ((mq_meets v q (ma_m ld dg pa jo wa sr pu J c t 0)).2.1) := hM15
  have hM16 : h'.1 (k + 16) = xa_a 4 (F 16) := hM16
  have hn : h'.2 = h.2 := hqn.trans hn
  have fr : ∀ i, (i < k ∨ k + 17 ≤ i) → h'.1 i = h.1 i := fun i hi => (hqf i (by omega)).trans (fr i hi)
  refine xa_iconst (pc := 15) dX10_meetAhead_15 ?_
  refine xa_istorew (pc := 16) [some (xa_r k), some (xa_i (mE jo wa sr c)), some (xa_i t), some (xa_i J), some (xa_i v), some (xa_i 1), none, none] dX10_meetAhead_16 (by decide) (Nat.le_of_ble_eq_true rfl) rfl rfl ?_
  exact c_mAhead_m hMk hc ht hJ ho hpu hqo hv 5 0 _ _ _ (by omega) (by omega) (by omega) (by omega) hM0 hM1 hM2 hM3 hM4 hM5 hM6 hM7 hM8 hM9 hM10 hM11 hM12 hM13 hM14 hM15 hM16 fr
