/-! The model: its ticks laid -/
theorem xa_fl_lt (f : Nat → Int) {i m : Nat} (v : Int) (h : i < m) : xa_fl f m v i = v := if_pos h
theorem c_mLay_3 {G : xa_G} {h0 : xa_H} {k : Nat} {J : Int} {F : Nat → Nat → Int} {s : Nat → Int} {ld dg : Nat → Int} {pa jo : Nat} {wa sr pu ri : Int} (hk : 2 ≤ k) (hJ : J = 0 ∨ J = 1 ∨ J = 2 ∨ J = 3) (ho : mOk F ld dg pa jo wa sr pu ri) : ∀ (d : Nat) (kk : Nat) (q : xTQ) (g4 : Option xa_V) (h : xa_H), (360 * sm_shapes F).toNat - kk < d → (mb_I (360 * sm_shapes F).toNat (sG pa jo wa sr ri) (sR ld dg pa jo wa sr pu J) q kk) → (h.2 = h0.2) → (k + 16 < h.2) → (h.1 k = xa_o 10 [xa_i (s 0), xa_r (k + 1), xa_r (k + 2), xa_r (k + 3), xa_r (k + 4), xa_r (k + 5), xa_r (k + 6), xa_r (k + 7), xa_r (k + 8), xa_r (k + 9), xa_r (k + 10), xa_r (k + 11), xa_r (k + 12), xa_i (s 13), xa_i pu, xa_i (s 15), xa_r (k + 13), xa_i (s 17), xa_i (s 18), xa_i (s 19), xa_i J, xa_r (k + 14), xa_r (k + 15), xa_i ((q.2.2 : Nat) : Int), xa_r (k + 16)]) → (h.1 (k + 1) = xa_a 120 (F 1)) → (h.1 (k + 2) = xa_a 2 (F 2)) → (h.1 (k + 3) = xa_a 18 (F 3)) → (h.1 (k + 4) = xa_a 2 (F 4)) → (h.1 (k + 5) = xa_a 4 (F 5)) → (h.1 (k + 6) = xa_a 4 (F 6)) → (h.1 (k + 7) = xa_a 2 (F 7)) → (h.1 (k + 8) = xa_a 2 (F 8)) → (h.1 (k + 9) = xa_a 12 (F 9)) → (h.1 (k + 10) = xa_a 720 (F 10)) → (h.1 (k + 11) = xa_a 3 (F 11)) → (h.1 (k + 12) = xa_a 360 (F 12)) → (h.1 (k + 13) = xa_a 3 (F 13)) → (h.1 (k + 14) = xa_a 583200 q.1) → (h.1 (k + 15) = xa_a 583200 q.2.1) → (h.1 (k + 16) = xa_a 4 (F 16)) → (∀ i, (i < k ∨ k + 17 ≤ i) → h.1 i = h0.1 i) → xa_W G mX10_layTicks (xa_Z G (fun r h' => (r = none ∧ ∃ (T Q : Nat → Int) (x : Int), mT (360 * sm_shapes F).toNat (sG pa jo wa sr ri) (sR ld dg pa jo wa sr pu J) T ∧ xM h' k (xa_uF (xa_uF F 14 T) 15 Q) (xa_upf (xa_upf (xa_upf s 14 pu) 20 J) 23 x)) ∧ h'.2 = h0.2 ∧ ∀ i, (i < k ∨ k + 17 ≤ i) → h'.1 i = h0.1 i)) 115 [some (xa_r k), some (xa_i J), some (xa_i (sm_shapes F)), some (xa_i ((kk : Nat) : Int)), g4] [] h 0 0 := by
  intro d
  induction d with
  | zero => intros; exfalso; omega
  | succ d ih =>
    intro kk q g4 h hd hI hn0 hkn hM0 hM1 hM2 hM3 hM4 hM5 hM6 hM7 hM8 hM9 hM10 hM11 hM12 hM13 hM14 hM15 hM16 fr0
    have hn : h.2 = h.2 := rfl
    have fr : ∀ i, (i < k ∨ k + 17 ≤ i) → h.1 i = h.1 i := fun _ _ => rfl
    have hsh := sm_shapes_b ho.1 ho.2.1
    have hpu := ho.1.2.2.2.2.2.2.1
    have hle := mq_le hI.1
    have hIk := hI.2.1
    refine xa_iload_n (pc := 115) dX10_layTicks_115 rfl ?_
    refine xa_aload_n (pc := 116) dX10_layTicks_116 rfl ?_
    refine xa_getfield (pc := 117) dX10_layTicks_117 flRX10_206 (by omega) (by omega) hM0 rfl ?_
    refine xa_icmp_ge (pc := 120) (tgt := 167) dX10_layTicks_120 (by decide) ⟨by omega, by omega⟩ ⟨by omega, by omega⟩ (fun c_120 => ?_) (fun c_120 => ?_)
    · skip
      refine xa_return (pc := 167) dX10_layTicks_167 rfl ?_
      have hke : kk = q.2.2 := by have := hI.2.1; omega
      subst hke
      exact ⟨⟨rfl, q.1, q.2.1, _, mb_end hI, ⟨hM0, hM1, hM2, hM3, hM4, hM5, hM6, hM7, hM8, hM9, hM10, hM11, hM12, hM13, hM14, hM15, hM16, by omega, by omega⟩⟩, by omega, fun i hi => (fr i hi).trans (fr0 i hi)⟩
    · skip
      obtain ⟨k1, k2, k3, k4⟩ := hI.1.1 kk (by omega)
      obtain ⟨c, hc, hcs, hxs⟩ := sx_dec ho.1 ho.2.1 (x := (q.2.1 kk).toNat) (by omega)
      rw [show (((q.2.1 kk).toNat : Nat) : Int) = q.2.1 kk by omega] at hcs hxs
      refine xa_aload_n (pc := 123) dX10_layTicks_123 rfl ?_
      refine xa_aload_n (pc := 124) dX10_layTicks_124 rfl ?_
      refine xa_getfield (pc := 125) dX10_layTicks_125 flRX10_57 (by omega) (by omega) hM0 rfl ?_
      refine xa_iload_n (pc := 128) dX10_layTicks_128 rfl ?_
      refine xa_ialdw (pc := 129) kk dX10_layTicks_129 (by omega) hM15 (by omega) (by omega) (Int.toNat_natCast _) ?_
      refine xa_sipush (pc := 130) dX10_layTicks_130 rfl ?_
      refine xa_idivn (pc := 133) dX10_layTicks_133 ⟨by omega, by omega⟩ (by decide) (by omega) (by omega) ?_
      refine xa_aload_n (pc := 134) dX10_layTicks_134 rfl ?_
      refine xa_getfield (pc := 135) dX10_layTicks_135 flRX10_57 (by omega) (by omega) hM0 rfl ?_
      refine xa_iload_n (pc := 138) dX10_layTicks_138 rfl ?_
      refine xa_ialdw (pc := 139) kk dX10_layTicks_139 (by omega) hM15 (by omega) (by omega) (Int.toNat_natCast _) ?_
      refine xa_sipush (pc := 140) dX10_layTicks_140 rfl ?_
      refine xa_iremn (pc := 143) dX10_layTicks_143 ⟨by omega, by omega⟩ (by decide) (by omega) (by omega) ?_
      refine xa_iload_n (pc := 144) dX10_layTicks_144 rfl ?_
      refine xa_aload_n (pc := 145) dX10_layTicks_145 rfl ?_
      refine xa_getfield (pc := 146) dX10_layTicks_146 flRX10_54 (by omega) (by omega) hM0 rfl ?_
      refine xa_aload_n (pc := 149) dX10_layTicks_149 rfl ?_
      refine xa_getfield (pc := 150) dX10_layTicks_150 flRX10_57 (by omega) (by omega) hM0 rfl ?_
      refine xa_iload_n (pc := 153) dX10_layTicks_153 rfl ?_
      refine xa_ialdw (pc := 154) kk dX10_layTicks_154 (by omega) hM15 (by omega) (by omega) (Int.toNat_natCast _) ?_
      refine xa_ialdw (pc := 155) ((q.2.1 kk).toNat) dX10_layTicks_155 (by omega) hM14 (by omega) (by omega) rfl ?_
      have tb_155 := mq_b hI.1 (show (q.2.1 kk).toNat < (360 * sm_shapes F).toNat by omega)
      refine xa_iconst (pc := 156) dX10_layTicks_156 ?_
      refine xa_iadd (pc := 157) dX10_layTicks_157 ?_
      refine xa_callV (pc := 158) (as := [xa_i ((q.2.1 kk) / 360), xa_i ((q.2.1 kk) % 360), xa_i J, xa_i ((q.1 ((q.2.1 kk).toNat)) + 1)]) (rest := []) dX10_layTicks_158 ⟨qX10_meetAhead.1, qX10_meetAhead.2.1, qX10_meetAhead.2.2, by decide, by decide⟩ lkRX10_218 imX10_meetAhead seX10_meetAhead rfl rfl (by omega) (by omega) hM0 rfl (Nat.le_of_ble_eq_true rfl) (Nat.zero_le _) (Nat.zero_le _) ((by have z := c_mAhead (G := G) (h := h) (c := c) (q := q) _ (q.2.1 kk % 360) J (q.1 (q.2.1 kk).toNat + 1) F (xa_upf (xa_upf s 14 pu) 20 J) ld dg pa jo wa sr pu ri hc (by omega) hJ ho hpu hI.1 (by omega) ⟨hM0, hM1, hM2, hM3, hM4, hM5, hM6, hM7, hM8, hM9, hM10, hM11, hM12, hM13, hM14, hM15, hM16, by omega, by omega⟩; rw [hcs] at z; exact z)) (fun r h' hq => ?_)
      obtain ⟨⟨rfl, hM⟩, hqn, hqf⟩ := hq
      have hI2 := mb_next hI (by omega) (l := ma_p ld dg pa jo wa sr pu J c (q.2.1 kk % 360) (3 * pa)) (fun x hx => by have := ma_p_ok ho.1 ho.2.1 hc (by omega) (3 * pa) (Nat.le_refl _) x hx; rw [← hxs] at this; exact this) (fun x hx hR => ma_p_all ho.1 ho.2.1 hc (by omega) (by rw [← hxs]; exact hR))
      generalize hq2 : mq_meets (q.1 (q.2.1 kk).toNat + 1) q (ma_p ld dg pa jo wa sr pu J c (q.2.1 kk % 360) (3 * pa)) = q2 at hI2 hM
      have hle2 : q.2.2 ≤ q2.2.2 := by rw [← hq2]; exact (mq_meets_spec _ q hI.1 (by omega) (fun x hx => (ma_p_ok ho.1 ho.2.1 hc (by omega) (3 * pa) (Nat.le_refl _) x hx).1)).2.1
      obtain ⟨hM0, hM1, hM2, hM3, hM4, hM5, hM6, hM7, hM8, hM9, hM10, hM11, hM12, hM13, hM14, hM15, hM16, hMk, hMn⟩ := hM
      have hM0 : h'.1 k = xa_o 10 [xa_i (s 0), xa_r (k + 1), xa_r (k + 2), xa_r (k + 3), xa_r (k + 4), xa_r (k + 5), xa_r (k + 6), xa_r (k + 7), xa_r (k + 8), xa_r (k + 9), xa_r (k + 10), xa_r (k + 11), xa_r (k + 12), xa_i (s 13), xa_i pu, xa_i (s 15), xa_r (k + 13), xa_i (s 17), xa_i (s 18), xa_i (s 19), xa_i J, xa_r (k + 14), xa_r (k + 15), xa_i ((q2.2.2 : Nat) : Int), xa_r (k + 16)] := hM0
      have hM1 : h'.1 (k + 1) = xa_a 120 (F 1) := hM1
      have hM2 : h'.1 (k + 2) = xa_a 2 (F 2) := hM2
      have hM3 : h'.1 (k + 3) = xa_a 18 (F 3) := hM3
      have hM4 : h'.1 (k + 4) = xa_a 2 (F 4) := hM4
      have hM5 : h'.1 (k + 5) = xa_a 4 (F 5) := hM5
      have hM6 : h'.1 (k + 6) = xa_a 4 (F 6) := hM6
      have hM7 : h'.1 (k + 7) = xa_a 2 (F 7) := hM7
      have hM8 : h'.1 (k + 8) = xa_a 2 (F 8) := hM8
      have hM9 : h'.1 (k + 9) = xa_a 12 (F 9) := hM9
      have hM10 : h'.1 (k + 10) = xa_a 720 (F 10) := hM10
      have hM11 : h'.1 (k + 11) = xa_a 3 (F 11) := hM11
      have hM12 : h'.1 (k + 12) = xa_a 360 (F 12) := hM12
      have hM13 : h'.1 (k + 13) = xa_a 3 (F 13) := hM13
      have hM14 : h'.1 (k + 14) = xa_a 583200 q2.1 := hM14
      have hM15 : h'.1 (k + 15) = xa_a 583200 q2.2.1 := hM15
      have hM16 : h'.1 (k + 16) = xa_a 4 (F 16) := hM16
      have hn : h'.2 = h.2 := hqn.trans hn
      have fr : ∀ i, (i < k ∨ k + 17 ≤ i) → h'.1 i = h.1 i := fun i hi => (hqf i (by omega)).trans (fr i hi)
      refine xa_iincw (pc := 161) (y := ((kk + 1 : Nat) : Int)) [some (xa_r k), some (xa_i J), some (xa_i (sm_shapes F)), some (xa_i ((kk + 1 : Nat) : Int)), g4] dX10_layTicks_161 (by decide) rfl rfl (by omega) rfl ?_
      refine xa_goto (pc := 164) (tgt := 115) dX10_layTicks_164 (by decide) ?_
      exact ih (kk + 1) q2 _ _ (by have := mq_le hI2.1; omega) hI2 (by omega) (by omega) hM0 hM1 hM2 hM3 hM4 hM5 hM6 hM7 hM8 hM9 hM10 hM11 hM12 hM13 hM14 hM15 hM16 (fun i hi => (fr i hi).trans (fr0 i hi))
theorem c_mLay_2 {G : xa_G} {h0 : xa_H} {k : Nat} {J : Int} {F : Nat → Nat → Int} {s : Nat → Int} {ld dg : Nat → Int} {pa jo : Nat} {wa sr pu ri : Int} (hk : 2 ≤ k) (hJ : J = 0 ∨ J = 1 ∨ J = 2 ∨ J = 3) (ho : mOk F ld dg pa jo wa sr pu ri) {T0 Q0 : Nat → Int} (hT0 : (∀ x, x < (360 * sm_shapes F).toNat → T0 x = -1)) : ∀ (d : Nat) (sn t : Nat) (l : List Nat) (h : xa_H), (361 * sm_shapes F).toNat - (361 * sn + t) < d → ((sn : Nat) : Int) < sm_shapes F → (t ≤ 360) → (∀ x ∈ l, x < (360 * sm_shapes F).toNat ∧ (sG pa jo wa sr ri) x) ∧ (∀ x, x < 360 * sn + t → (sG pa jo wa sr ri) x → x ∈ l) → (h.2 = h0.2) → (k + 16 < h.2) → (h.1 k = xa_o 10 [xa_i (s 0), xa_r (k + 1), xa_r (k + 2), xa_r (k + 3), xa_r (k + 4), xa_r (k + 5), xa_r (k + 6), xa_r (k + 7), xa_r (k + 8), xa_r (k + 9), xa_r (k + 10), xa_r (k + 11), xa_r (k + 12), xa_i (s 13), xa_i pu, xa_i (s 15), xa_r (k + 13), xa_i (s 17), xa_i (s 18), xa_i (s 19), xa_i J, xa_r (k + 14), xa_r (k + 15), xa_i (((mq_meets 0 (T0, Q0, 0) l).2.2 : Nat) : Int), xa_r (k + 16)]) → (h.1 (k + 1) = xa_a 120 (F 1)) → (h.1 (k + 2) = xa_a 2 (F 2)) → (h.1 (k + 3) = xa_a 18 (F 3)) → (h.1 (k + 4) = xa_a 2 (F 4)) → (h.1 (k + 5) = xa_a 4 (F 5)) → (h.1 (k + 6) = xa_a 4 (F 6)) → (h.1 (k + 7) = xa_a 2 (F 7)) → (h.1 (k + 8) = xa_a 2 (F 8)) → (h.1 (k + 9) = xa_a 12 (F 9)) → (h.1 (k + 10) = xa_a 720 (F 10)) → (h.1 (k + 11) = xa_a 3 (F 11)) → (h.1 (k + 12) = xa_a 360 (F 12)) → (h.1 (k + 13) = xa_a 3 (F 13)) → (h.1 (k + 14) = xa_a 583200 ((mq_meets 0 (T0, Q0, 0) l).1)) → (h.1 (k + 15) = xa_a 583200 ((mq_meets 0 (T0, Q0, 0) l).2.1)) → (h.1 (k + 16) = xa_a 4 (F 16)) → (∀ i, (i < k ∨ k + 17 ≤ i) → h.1 i = h0.1 i) → xa_W G mX10_layTicks (xa_Z G (fun r h' => (r = none ∧ ∃ (T Q : Nat → Int) (x : Int), mT (360 * sm_shapes F).toNat (sG pa jo wa sr ri) (sR ld dg pa jo wa sr pu J) T ∧ xM h' k (xa_uF (xa_uF F 14 T) 15 Q) (xa_upf (xa_upf (xa_upf s 14 pu) 20 J) 23 x)) ∧ h'.2 = h0.2 ∧ ∀ i, (i < k ∨ k + 17 ≤ i) → h'.1 i = h0.1 i)) 68 [some (xa_r k), some (xa_i J), some (xa_i (sm_shapes F)), some (xa_i ((sn : Nat) : Int)), some (xa_i ((t : Nat) : Int))] [] h 0 0 := by
  intro d
  induction d with
  | zero => intros; exfalso; omega
  | succ d ih =>
    intro sn t l h hd hsn ht hl hn0 hkn hM0 hM1 hM2 hM3 hM4 hM5 hM6 hM7 hM8 hM9 hM10 hM11 hM12 hM13 hM14 hM15 hM16 fr0
    have hn : h.2 = h.2 := rfl
    have fr : ∀ i, (i < k ∨ k + 17 ≤ i) → h.1 i = h.1 i := fun _ _ => rfl
    have hsh := sm_shapes_b ho.1 ho.2.1
    have hpu := ho.1.2.2.2.2.2.2.1
    have hqo := (mq_meets_spec (v := 0) l (T0, Q0, 0) (N := (360 * sm_shapes F).toNat) ⟨fun i hi => absurd hi (Nat.not_lt_zero _), fun i j _ hj => absurd hj (Nat.not_lt_zero _), fun x x1 x2 => by have e := hT0 x x1; have x2 : 0 ≤ T0 x := x2; omega, fun x x1 => by have e := hT0 x x1; show -1 ≤ T0 x; omega⟩ ⟨by omega, by omega⟩ (fun x hx => (hl.1 x hx).1)).1
    obtain ⟨c, hc, hcs⟩ := mE_dec ho.1 ho.2.1 (sh := ((sn : Nat) : Int)) (by omega)
    refine xa_iload (pc := 68) dX10_layTicks_68 rfl ?_
    refine xa_sipush (pc := 70) dX10_layTicks_70 rfl ?_
    refine xa_icmp_ge (pc := 73) (tgt := 107) dX10_layTicks_73 (by decide) ⟨by omega, by omega⟩ (by decide) (fun c_73 => ?_) (fun c_73 => ?_)
    · skip
      refine xa_iincw (pc := 107) (y := ((sn + 1 : Nat) : Int)) [some (xa_r k), some (xa_i J), some (xa_i (sm_shapes F)), some (xa_i ((sn + 1 : Nat) : Int)), some (xa_i ((t : Nat) : Int))] dX10_layTicks_107 (by decide) rfl rfl (by omega) rfl ?_
      refine xa_goto (pc := 110) (tgt := 60) dX10_layTicks_110 (by decide) ?_
      refine xa_iload_n (pc := 60) dX10_layTicks_60 rfl ?_
      refine xa_iload_n (pc := 61) dX10_layTicks_61 rfl ?_
      refine xa_icmp_ge (pc := 62) (tgt := 113) dX10_layTicks_62 (by decide) ⟨by omega, by omega⟩ ⟨by omega, by omega⟩ (fun c_62 => ?_) (fun c_62 => ?_)
      · skip
        refine xa_iconst (pc := 113) dX10_layTicks_113 ?_
        refine xa_istoren (pc := 114) [some (xa_r k), some (xa_i J), some (xa_i (sm_shapes F)), some (xa_i 0), some (xa_i ((t : Nat) : Int))] dX10_layTicks_114 (by decide) (Nat.le_of_ble_eq_true rfl) rfl rfl ?_
        exact c_mLay_3 hk hJ ho ((360 * sm_shapes F).toNat + 1) 0 (mq_meets 0 (T0, Q0, 0) l) _ _ (by omega) (mb_start hl.1 (fun x hx hg => hl.2 x (by omega) hg) T0 Q0 hT0) (by omega) (by omega) hM0 hM1 hM2 hM3 hM4 hM5 hM6 hM7 hM8 hM9 hM10 hM11 hM12 hM13 hM14 hM15 hM16 (fun i hi => (fr i hi).trans (fr0 i hi))
      · skip
        refine xa_iconst (pc := 65) dX10_layTicks_65 ?_
        refine xa_istorew (pc := 66) [some (xa_r k), some (xa_i J), some (xa_i (sm_shapes F)), some (xa_i ((sn + 1 : Nat) : Int)), some (xa_i 0)] dX10_layTicks_66 (by decide) (Nat.le_of_ble_eq_true rfl) rfl rfl ?_
        exact ih (sn + 1) 0 l _ (by omega) (by omega) (by omega) ⟨hl.1, fun x hx hg => hl.2 x (by omega) hg⟩ (by omega) (by omega) hM0 hM1 hM2 hM3 hM4 hM5 hM6 hM7 hM8 hM9 hM10 hM11 hM12 hM13 hM14 hM15 hM16 (fun i hi => (fr i hi).trans (fr0 i hi))
    · skip
      refine xa_aload_n (pc := 76) dX10_layTicks_76 rfl ?_
      refine xa_iload_n (pc := 77) dX10_layTicks_77 rfl ?_
      refine xa_callV (pc := 78) (as := [xa_i ((sn : Nat) : Int)]) (rest := []) dX10_layTicks_78 ⟨qX10_isStraight.1, qX10_isStraight.2.1, qX10_isStraight.2.2, by decide, by decide⟩ lkRX10_197 imX10_isStraight seX10_isStraight rfl rfl (by omega) (by omega) hM0 rfl (Nat.le_of_ble_eq_true rfl) (Nat.zero_le _) (Nat.zero_le _) ((by have z := c_kStraight (G := G) (h := h) (F := (xa_uF (xa_uF F 14 ((mq_meets 0 (T0, Q0, 0) l).1)) 15 ((mq_meets 0 (T0, Q0, 0) l).2.1))) (s := (xa_upf (xa_upf (xa_upf s 14 pu) 20 J) 23 (((mq_meets 0 (T0, Q0, 0) l).2.2 : Nat) : Int))) ho ⟨hM0, hM1, hM2, hM3, hM4, hM5, hM6, hM7, hM8, hM9, hM10, hM11, hM12, hM13, hM14, hM15, hM16, by omega, by omega⟩ hc; rw [hcs] at z; exact z)) (fun r h' hq => ?_)
      obtain ⟨rfl, hq⟩ := hq
      have hq := hq.symm
      subst hq
      refine xa_if_eq (pc := 81) (tgt := 107) dX10_layTicks_81 (by decide) xa_okb (fun c_81 => ?_) (fun c_81 => ?_)
      · have c_81 := xa_b0.mp c_81
        refine xa_iincw (pc := 107) (y := ((sn + 1 : Nat) : Int)) [some (xa_r k), some (xa_i J), some (xa_i (sm_shapes F)), some (xa_i ((sn + 1 : Nat) : Int)), some (xa_i ((t : Nat) : Int))] dX10_layTicks_107 (by decide) rfl rfl (by omega) rfl ?_
        refine xa_goto (pc := 110) (tgt := 60) dX10_layTicks_110 (by decide) ?_
        refine xa_iload_n (pc := 60) dX10_layTicks_60 rfl ?_
        refine xa_iload_n (pc := 61) dX10_layTicks_61 rfl ?_
        refine xa_icmp_ge (pc := 62) (tgt := 113) dX10_layTicks_62 (by decide) ⟨by omega, by omega⟩ ⟨by omega, by omega⟩ (fun c_62 => ?_) (fun c_62 => ?_)
        · skip
          refine xa_iconst (pc := 113) dX10_layTicks_113 ?_
          refine xa_istoren (pc := 114) [some (xa_r k), some (xa_i J), some (xa_i (sm_shapes F)), some (xa_i 0), some (xa_i ((t : Nat) : Int))] dX10_layTicks_114 (by decide) (Nat.le_of_ble_eq_true rfl) rfl rfl ?_
          have hgs : ∀ x, 360 * sn + t ≤ x → x < 360 * (sn + 1) → (sG pa jo wa sr ri) x → False := fun x x1 x2 ⟨d, u, d1, d2, d3, d4, d5⟩ => by
            have hx9 : sx jo wa sr c ((x : Int) - 360 * sn) = x := by have := (sx_lt ho.1 ho.2.1 hc (t := (x : Int) - 360 * sn) (by omega)).2; omega
            obtain ⟨e1, e2⟩ := sx_inj ho.1 ho.2.1 hc d1 (t := (x : Int) - 360 * sn) (by omega) d2 (hx9.trans d3)
            subst e1
            exact c_81 d4
          exact c_mLay_3 hk hJ ho ((360 * sm_shapes F).toNat + 1) 0 (mq_meets 0 (T0, Q0, 0) l) _ _ (by omega) (mb_start hl.1 (fun x hx hg => if q9 : x < 360 * sn + t then hl.2 x q9 hg else (hgs x (by omega) (by omega) hg).elim) T0 Q0 hT0) (by omega) (by omega) hM0 hM1 hM2 hM3 hM4 hM5 hM6 hM7 hM8 hM9 hM10 hM11 hM12 hM13 hM14 hM15 hM16 (fun i hi => (fr i hi).trans (fr0 i hi))
        · skip
          refine xa_iconst (pc := 65) dX10_layTicks_65 ?_
          refine xa_istorew (pc := 66) [some (xa_r k), some (xa_i J), some (xa_i (sm_shapes F)), some (xa_i ((sn + 1 : Nat) : Int)), some (xa_i 0)] dX10_layTicks_66 (by decide) (Nat.le_of_ble_eq_true rfl) rfl rfl ?_
          have hgs : ∀ x, 360 * sn + t ≤ x → x < 360 * (sn + 1) → (sG pa jo wa sr ri) x → False := fun x x1 x2 ⟨d, u, d1, d2, d3, d4, d5⟩ => by
            have hx9 : sx jo wa sr c ((x : Int) - 360 * sn) = x := by have := (sx_lt ho.1 ho.2.1 hc (t := (x : Int) - 360 * sn) (by omega)).2; omega
            obtain ⟨e1, e2⟩ := sx_inj ho.1 ho.2.1 hc d1 (t := (x : Int) - 360 * sn) (by omega) d2 (hx9.trans d3)
            subst e1
            exact c_81 d4
          exact ih (sn + 1) 0 l _ (by omega) (by omega) (by omega) ⟨hl.1, fun x hx hg => if q9 : x < 360 * sn + t then hl.2 x q9 hg else (hgs x (by omega) (by omega) hg).elim⟩ (by omega) (by omega) hM0 hM1 hM2 hM3 hM4 hM5 hM6 hM7 hM8 hM9 hM10 hM11 hM12 hM13 hM14 hM15 hM16 (fun i hi => (fr i hi).trans (fr0 i hi))
      · have c_81 := xa_b1.mp c_81
        refine xa_aload_n (pc := 84) dX10_layTicks_84 rfl ?_
        refine xa_iload (pc := 85) dX10_layTicks_85 rfl ?_
        refine xa_callV (pc := 87) (as := [xa_i ((t : Nat) : Int)]) (rest := []) dX10_layTicks_87 ⟨qX10_isRight.1, qX10_isRight.2.1, qX10_isRight.2.2, by decide, by decide⟩ lkRX10_215 imX10_isRight seX10_isRight rfl rfl (by omega) (by omega) hM0 rfl (Nat.le_of_ble_eq_true rfl) (Nat.zero_le _) (Nat.zero_le _) (c_mRight _ ((t : Nat) : Int) (xa_uF (xa_uF F 14 ((mq_meets 0 (T0, Q0, 0) l).1)) 15 ((mq_meets 0 (T0, Q0, 0) l).2.1)) (xa_upf (xa_upf (xa_upf s 14 pu) 20 J) 23 (((mq_meets 0 (T0, Q0, 0) l).2.2 : Nat) : Int)) ld dg pa jo wa sr pu ri (by omega) ho ⟨hM0, hM1, hM2, hM3, hM4, hM5, hM6, hM7, hM8, hM9, hM10, hM11, hM12, hM13, hM14, hM15, hM16, by omega, by omega⟩) (fun r h' hq => ?_)
        obtain ⟨rfl, hq⟩ := hq
        have hq := hq.symm
        subst hq
        refine xa_if_eq (pc := 90) (tgt := 101) dX10_layTicks_90 (by decide) xa_okb (fun c_90 => ?_) (fun c_90 => ?_)
        · have c_90 := xa_b0.mp c_90
          refine xa_iincw (pc := 101) (y := ((t + 1 : Nat) : Int)) [some (xa_r k), some (xa_i J), some (xa_i (sm_shapes F)), some (xa_i ((sn : Nat) : Int)), some (xa_i ((t + 1 : Nat) : Int))] dX10_layTicks_101 (by decide) rfl rfl (by omega) rfl ?_
          refine xa_goto (pc := 104) (tgt := 68) dX10_layTicks_104 (by decide) ?_
          have hg : (sG pa jo wa sr ri) (360 * sn + t) → (c.2.2.2.1 = 0 ∧ c.2.2.2.2 = 0) ∧ sp_off ((t : Nat) : Int) 0 ≤ ri := fun ⟨d, u, d1, d2, d3, d4, d5⟩ => by
            have hx9 : sx jo wa sr c ((t : Nat) : Int) = 360 * sn + t := by have := (sx_lt ho.1 ho.2.1 hc (t := ((t : Nat) : Int)) (by omega)).2; omega
            obtain ⟨e1, e2⟩ := sx_inj ho.1 ho.2.1 hc d1 (t := ((t : Nat) : Int)) (by omega) d2 (hx9.trans d3)
            subst e1
            rw [e2]
            exact ⟨d4, d5⟩
          have hl2 : (∀ x ∈ l, x < (360 * sm_shapes F).toNat ∧ (sG pa jo wa sr ri) x) ∧ (∀ x, x < 360 * sn + (t + 1) → (sG pa jo wa sr ri) x → x ∈ l) := ⟨hl.1, fun x hx hg2 => if q9 : x < 360 * sn + t then hl.2 x q9 hg2 else absurd (hg (by rw [show 360 * sn + t = x by omega]; exact hg2)).2 c_90⟩
          exact ih sn (t + 1) l _ (by omega) (by omega) (by omega) hl2 (by omega) (by omega) hM0 hM1 hM2 hM3 hM4 hM5 hM6 hM7 hM8 hM9 hM10 hM11 hM12 hM13 hM14 hM15 hM16 (fun i hi => (fr i hi).trans (fr0 i hi))
        · have c_90 := xa_b1.mp c_90
          refine xa_aload_n (pc := 93) dX10_layTicks_93 rfl ?_
          refine xa_iload_n (pc := 94) dX10_layTicks_94 rfl ?_
          refine xa_iload (pc := 95) dX10_layTicks_95 rfl ?_
          refine xa_iconst (pc := 97) dX10_layTicks_97 ?_
          refine xa_callV (pc := 98) (as := [xa_i ((sn : Nat) : Int), xa_i ((t : Nat) : Int), xa_i 0]) (rest := []) dX10_layTicks_98 ⟨qX10_meet.1, qX10_meet.2.1, qX10_meet.2.2, by decide, by decide⟩ lkRX10_209 imX10_meet seX10_meet rfl rfl (by omega) (by omega) hM0 rfl (Nat.le_of_ble_eq_true rfl) (Nat.zero_le _) (Nat.zero_le _) ((by have z := c_mMeet (G := G) (h := h) (c := c) (q := (mq_meets 0 (T0, Q0, 0) l)) (N := (360 * sm_shapes F).toNat) _ (360 * sn + t) ((t : Nat) : Int) 0 F (xa_upf (xa_upf s 14 pu) 20 J) ld dg pa jo wa sr pu ri (mE_9 ho.1 ho.2.1 hc) (by omega) (by omega) (by omega) (by omega) hqo ⟨hM0, hM1, hM2, hM3, hM4, hM5, hM6, hM7, hM8, hM9, hM10, hM11, hM12, hM13, hM14, hM15, hM16, by omega, by omega⟩; rw [hcs] at z; exact z)) (fun r h' hq => ?_)
          obtain ⟨⟨rfl, hM⟩, hqn, hqf⟩ := hq
          rw [← mq_app] at hM
          obtain ⟨hM0, hM1, hM2, hM3, hM4, hM5, hM6, hM7, hM8, hM9, hM10, hM11, hM12, hM13, hM14, hM15, hM16, hMk, hMn⟩ := hM
          have hM0 : h'.1 k = xa_o 10 [xa_i (s 0), xa_r (k + 1), xa_r (k + 2), xa_r (k + 3), xa_r (k + 4), xa_r (k + 5), xa_r (k + 6), xa_r (k + 7), xa_r (k + 8), xa_r (k + 9), xa_r (k + 10), xa_r (k + 11), xa_r (k + 12), xa_i (s 13), xa_i pu, xa_i (s 15), xa_r (k + 13), xa_i (s 17), xa_i (s 18), xa_i (s 19), xa_i J, xa_r (k + 14), xa_r (k + 15), xa_i (((mq_meets 0 (T0, Q0, 0) (l ++ [360 * sn + t])).2.2 : Nat) : Int), xa_r (k + 16)] := hM0
          have hM1 : h'.1 (k + 1) = xa_a 120 (F 1) := hM1
          have hM2 : h'.1 (k + 2) = xa_a 2 (F 2) := hM2
          have hM3 : h'.1 (k + 3) = xa_a 18 (F 3) := hM3
          have hM4 : h'.1 (k + 4) = xa_a 2 (F 4) := hM4
          have hM5 : h'.1 (k + 5) = xa_a 4 (F 5) := hM5
          have hM6 : h'.1 (k + 6) = xa_a 4 (F 6) := hM6
          have hM7 : h'.1 (k + 7) = xa_a 2 (F 7) := hM7
          have hM8 : h'.1 (k + 8) = xa_a 2 (F 8) := hM8
          have hM9 : h'.1 (k + 9) = xa_a 12 (F 9) := hM9
          have hM10 : h'.1 (k + 10) = xa_a 720 (F 10) := hM10
          have hM11 : h'.1 (k + 11) = xa_a 3 (F 11) := hM11
          have hM12 : h'.1 (k + 12) = xa_a 360 (F 12) := hM12
          have hM13 : h'.1 (k + 13) = xa_a 3 (F 13) := hM13
          have hM14 : h'.1 (k + 14) = xa_a 583200 ((mq_meets 0 (T0, Q0, 0) (l ++ [360 * sn + t])).1) := hM14
          have hM15 : h'.1 (k + 15) = xa_a 583200 ((mq_meets 0 (T0, Q0, 0) (l ++ [360 * sn + t])).2.1) := hM15
          have hM16 : h'.1 (k + 16) = xa_a 4 (F 16) := hM16
          have hn : h'.2 = h.2 := hqn.trans hn
          have fr : ∀ i, (i < k ∨ k + 17 ≤ i) → h'.1 i = h.1 i := fun i hi => (hqf i (by omega)).trans (fr i hi)
          refine xa_iincw (pc := 101) (y := ((t + 1 : Nat) : Int)) [some (xa_r k), some (xa_i J), some (xa_i (sm_shapes F)), some (xa_i ((sn : Nat) : Int)), some (xa_i ((t + 1 : Nat) : Int))] dX10_layTicks_101 (by decide) rfl rfl (by omega) rfl ?_
          refine xa_goto (pc := 104) (tgt := 68) dX10_layTicks_104 (by decide) ?_
          have hx9 : sx jo wa sr c ((t : Nat) : Int) = 360 * sn + t := by have := (sx_lt ho.1 ho.2.1 hc (t := ((t : Nat) : Int)) (by omega)).2; omega
          have hl2 : (∀ x ∈ l ++ [360 * sn + t], x < (360 * sm_shapes F).toNat ∧ (sG pa jo wa sr ri) x) ∧ (∀ x, x < 360 * sn + (t + 1) → (sG pa jo wa sr ri) x → x ∈ l ++ [360 * sn + t]) := ⟨fun x hx => by
              rcases List.mem_append.mp hx with hx | hx
              · exact hl.1 x hx
              · rw [List.mem_singleton] at hx
                rw [hx]
                exact ⟨by omega, c, ((t : Nat) : Int), hc, by omega, hx9.symm, c_81, c_90⟩, fun x hx hg => List.mem_append.mpr (if q9 : x < 360 * sn + t then Or.inl (hl.2 x q9 hg) else Or.inr (List.mem_singleton.mpr (by omega)))⟩
          exact ih sn (t + 1) (l ++ [360 * sn + t]) _ (by omega) (by omega) (by omega) hl2 (by omega) (by omega) hM0 hM1 hM2 hM3 hM4 hM5 hM6 hM7 hM8 hM9 hM10 hM11 hM12 hM13 hM14 hM15 hM16 (fun i hi => (fr i hi).trans (fr0 i hi))
theorem c_mLay_1 {G : xa_G} {h0 : xa_H} {k : Nat} {J : Int} {F : Nat → Nat → Int} {s : Nat → Int} {ld dg : Nat → Int} {pa jo : Nat} {wa sr pu ri : Int} (hk : 2 ≤ k) (hJ : J = 0 ∨ J = 1 ∨ J = 2 ∨ J = 3) (ho : mOk F ld dg pa jo wa sr pu ri) : ∀ (d : Nat) (i : Nat) (g4 : Option xa_V) (h : xa_H), (360 * sm_shapes F).toNat - i < d → (i ≤ (360 * sm_shapes F).toNat) → (h.2 = h0.2) → (k + 16 < h.2) → (h.1 k = xa_o 10 [xa_i (s 0), xa_r (k + 1), xa_r (k + 2), xa_r (k + 3), xa_r (k + 4), xa_r (k + 5), xa_r (k + 6), xa_r (k + 7), xa_r (k + 8), xa_r (k + 9), xa_r (k + 10), xa_r (k + 11), xa_r (k + 12), xa_i (s 13), xa_i pu, xa_i (s 15), xa_r (k + 13), xa_i (s 17), xa_i (s 18), xa_i (s 19), xa_i J, xa_r (k + 14), xa_r (k + 15), xa_i 0, xa_r (k + 16)]) → (h.1 (k + 1) = xa_a 120 (F 1)) → (h.1 (k + 2) = xa_a 2 (F 2)) → (h.1 (k + 3) = xa_a 18 (F 3)) → (h.1 (k + 4) = xa_a 2 (F 4)) → (h.1 (k + 5) = xa_a 4 (F 5)) → (h.1 (k + 6) = xa_a 4 (F 6)) → (h.1 (k + 7) = xa_a 2 (F 7)) → (h.1 (k + 8) = xa_a 2 (F 8)) → (h.1 (k + 9) = xa_a 12 (F 9)) → (h.1 (k + 10) = xa_a 720 (F 10)) → (h.1 (k + 11) = xa_a 3 (F 11)) → (h.1 (k + 12) = xa_a 360 (F 12)) → (h.1 (k + 13) = xa_a 3 (F 13)) → (h.1 (k + 14) = xa_a 583200 (xa_fl (F 14) i (-1))) → (h.1 (k + 15) = xa_a 583200 (F 15)) → (h.1 (k + 16) = xa_a 4 (F 16)) → (∀ i, (i < k ∨ k + 17 ≤ i) → h.1 i = h0.1 i) → xa_W G mX10_layTicks (xa_Z G (fun r h' => (r = none ∧ ∃ (T Q : Nat → Int) (x : Int), mT (360 * sm_shapes F).toNat (sG pa jo wa sr ri) (sR ld dg pa jo wa sr pu J) T ∧ xM h' k (xa_uF (xa_uF F 14 T) 15 Q) (xa_upf (xa_upf (xa_upf s 14 pu) 20 J) 23 x)) ∧ h'.2 = h0.2 ∧ ∀ i, (i < k ∨ k + 17 ≤ i) → h'.1 i = h0.1 i)) 36 [some (xa_r k), some (xa_i J), some (xa_i (sm_shapes F)), some (xa_i ((i : Nat) : Int)), g4] [] h 0 0 := by
  intro d
  induction d with
  | zero => intros; exfalso; omega
  | succ d ih =>
    intro i g4 h hd hi hn0 hkn hM0 hM1 hM2 hM3 hM4 hM5 hM6 hM7 hM8 hM9 hM10 hM11 hM12 hM13 hM14 hM15 hM16 fr0
    have hn : h.2 = h.2 := rfl
    have fr : ∀ i, (i < k ∨ k + 17 ≤ i) → h.1 i = h.1 i := fun _ _ => rfl
    have hsh := sm_shapes_b ho.1 ho.2.1
    have hpu := ho.1.2.2.2.2.2.2.1
    refine xa_iload_n (pc := 36) dX10_layTicks_36 rfl ?_
    refine xa_sipush (pc := 37) dX10_layTicks_37 rfl ?_
    refine xa_iload_n (pc := 40) dX10_layTicks_40 rfl ?_
    refine xa_imul (pc := 41) dX10_layTicks_41 ?_
    refine xa_icmp_ge (pc := 42) (tgt := 58) dX10_layTicks_42 (by decide) ⟨by omega, by omega⟩ ⟨by omega, by omega⟩ (fun c_42 => ?_) (fun c_42 => ?_)
    · skip
      refine xa_iconst (pc := 58) dX10_layTicks_58 ?_
      refine xa_istoren (pc := 59) [some (xa_r k), some (xa_i J), some (xa_i (sm_shapes F)), some (xa_i 0), g4] dX10_layTicks_59 (by decide) (Nat.le_of_ble_eq_true rfl) rfl rfl ?_
      refine xa_iload_n (pc := 60) dX10_layTicks_60 rfl ?_
      refine xa_iload_n (pc := 61) dX10_layTicks_61 rfl ?_
      refine xa_icmp_ge (pc := 62) (tgt := 113) dX10_layTicks_62 (by decide) (by decide) ⟨by omega, by omega⟩ (fun c_62 => ?_) (fun c_62 => ?_)
      · skip
        exfalso; omega
      · skip
        refine xa_iconst (pc := 65) dX10_layTicks_65 ?_
        refine xa_istorew (pc := 66) [some (xa_r k), some (xa_i J), some (xa_i (sm_shapes F)), some (xa_i 0), some (xa_i 0)] dX10_layTicks_66 (by decide) (Nat.le_of_ble_eq_true rfl) rfl rfl ?_
        have hi9 : i = (360 * sm_shapes F).toNat := by omega
        exact c_mLay_2 hk hJ ho (T0 := xa_fl (F 14) i (-1)) (Q0 := F 15) (fun x hx => xa_fl_lt _ _ (by omega)) ((361 * sm_shapes F).toNat + 1) 0 0 [] _ (by omega) (by omega) (by omega) ⟨fun x hx => absurd hx (List.not_mem_nil), fun x hx => absurd hx (by omega)⟩ (by omega) (by omega) hM0 hM1 hM2 hM3 hM4 hM5 hM6 hM7 hM8 hM9 hM10 hM11 hM12 hM13 hM14 hM15 hM16 (fun i hi => (fr i hi).trans (fr0 i hi))
    · skip
      refine xa_aload_n (pc := 45) dX10_layTicks_45 rfl ?_
      refine xa_getfield (pc := 46) dX10_layTicks_46 flRX10_54 (by omega) (by omega) hM0 rfl ?_
      refine xa_iload_n (pc := 49) dX10_layTicks_49 rfl ?_
      refine xa_iconst (pc := 50) dX10_layTicks_50 ?_
      refine xa_iastw (pc := 51) i dX10_layTicks_51 (by omega) (by omega) hM14 (by omega) (by omega) (by omega) (fun h1 nh1 ch1 oh1 => ?_)
      have hM14 : h1.1 (k + 14) = xa_a 583200 (xa_upf (xa_fl (F 14) i (-1)) i (-1)) := ch1
      have hM0 : h1.1 k = xa_o 10 [xa_i (s 0), xa_r (k + 1), xa_r (k + 2), xa_r (k + 3), xa_r (k + 4), xa_r (k + 5), xa_r (k + 6), xa_r (k + 7), xa_r (k + 8), xa_r (k + 9), xa_r (k + 10), xa_r (k + 11), xa_r (k + 12), xa_i (s 13), xa_i pu, xa_i (s 15), xa_r (k + 13), xa_i (s 17), xa_i (s 18), xa_i (s 19), xa_i J, xa_r (k + 14), xa_r (k + 15), xa_i 0, xa_r (k + 16)] := (oh1 _ (by omega)).trans hM0
      have hM1 : h1.1 (k + 1) = xa_a 120 (F 1) := (oh1 _ (by omega)).trans hM1
      have hM2 : h1.1 (k + 2) = xa_a 2 (F 2) := (oh1 _ (by omega)).trans hM2
      have hM3 : h1.1 (k + 3) = xa_a 18 (F 3) := (oh1 _ (by omega)).trans hM3
      have hM4 : h1.1 (k + 4) = xa_a 2 (F 4) := (oh1 _ (by omega)).trans hM4
      have hM5 : h1.1 (k + 5) = xa_a 4 (F 5) := (oh1 _ (by omega)).trans hM5
      have hM6 : h1.1 (k + 6) = xa_a 4 (F 6) := (oh1 _ (by omega)).trans hM6
      have hM7 : h1.1 (k + 7) = xa_a 2 (F 7) := (oh1 _ (by omega)).trans hM7
      have hM8 : h1.1 (k + 8) = xa_a 2 (F 8) := (oh1 _ (by omega)).trans hM8
      have hM9 : h1.1 (k + 9) = xa_a 12 (F 9) := (oh1 _ (by omega)).trans hM9
      have hM10 : h1.1 (k + 10) = xa_a 720 (F 10) := (oh1 _ (by omega)).trans hM10
      have hM11 : h1.1 (k + 11) = xa_a 3 (F 11) := (oh1 _ (by omega)).trans hM11
      have hM12 : h1.1 (k + 12) = xa_a 360 (F 12) := (oh1 _ (by omega)).trans hM12
      have hM13 : h1.1 (k + 13) = xa_a 3 (F 13) := (oh1 _ (by omega)).trans hM13
      have hM15 : h1.1 (k + 15) = xa_a 583200 (F 15) := (oh1 _ (by omega)).trans hM15
      have hM16 : h1.1 (k + 16) = xa_a 4 (F 16) := (oh1 _ (by omega)).trans hM16
      have hn : h1.2 = h.2 := nh1.trans hn
      have fr : ∀ i, (i < k ∨ k + 17 ≤ i) → h1.1 i = h.1 i := fun i hi => (oh1 i (by omega)).trans (fr i hi)
      refine xa_iincw (pc := 52) (y := ((i + 1 : Nat) : Int)) [some (xa_r k), some (xa_i J), some (xa_i (sm_shapes F)), some (xa_i ((i + 1 : Nat) : Int)), g4] dX10_layTicks_52 (by decide) rfl rfl (by omega) rfl ?_
      refine xa_goto (pc := 55) (tgt := 36) dX10_layTicks_55 (by decide) ?_
      rw [xa_fl_s] at hM14
      exact ih (i + 1) _ _ (by omega) (by omega) (by omega) (by omega) hM0 hM1 hM2 hM3 hM4 hM5 hM6 hM7 hM8 hM9 hM10 hM11 hM12 hM13 hM14 hM15 hM16 (fun i hi => (fr i hi).trans (fr0 i hi))
theorem c_mLayTicks {G : xa_G} {h : xa_H} (k : Nat) (J : Int) (F : Nat → Nat → Int) (s : Nat → Int) (ld dg : Nat → Int) (pa jo : Nat) (wa sr pu ri : Int) (hJ : J = 0 ∨ J = 1 ∨ J = 2 ∨ J = 3) (ho : mOk F ld dg pa jo wa sr pu ri) (h20 : xa_ok (s 20)) (hl : s 20 = J → mT (360 * sm_shapes F).toNat (sG pa jo wa sr ri) (sR ld dg pa jo wa sr pu J) (F 14)) (hM : xM h k F s)  : xa_M G mX10_layTicks [xa_r k, xa_i J] h 0 0 (fun r h' => (r = none ∧ ∃ (T Q : Nat → Int) (x : Int), mT (360 * sm_shapes F).toNat (sG pa jo wa sr ri) (sR ld dg pa jo wa sr pu J) T ∧ xM h' k (xa_uF (xa_uF F 14 T) 15 Q) (xa_upf (xa_upf (xa_upf s 14 pu) 20 J) 23 x)) ∧ h'.2 = h.2 ∧ ∀ i, (i < k ∨ k + 17 ≤ i) → h'.1 i = h.1 i) := by
  refine xa_enter (by decide +kernel) (Nat.le_of_ble_eq_true rfl) ?_
  refine xa_locals (ls' := [some (xa_r k), some (xa_i J), none, none, none]) rfl ?_
  have hn : h.2 = h.2 := rfl
  have fr : ∀ i, (i < k ∨ k + 17 ≤ i) → h.1 i = h.1 i := fun _ _ => rfl
  obtain ⟨hM0, hM1, hM2, hM3, hM4, hM5, hM6, hM7, hM8, hM9, hM10, hM11, hM12, hM13, hM14, hM15, hM16, hMk, hMn⟩ := hM
  have hsh := sm_shapes_b ho.1 ho.2.1
  have hpu := ho.1.2.2.2.2.2.2.1
  refine xa_aload_n (pc := 0) dX10_layTicks_0 rfl ?_
  refine xa_aload_n (pc := 1) dX10_layTicks_1 rfl ?_
  refine xa_getfield (pc := 2) dX10_layTicks_2 flRX10_28 (by omega) (by omega) hM0 rfl ?_
  refine xa_iconst (pc := 5) dX10_layTicks_5 ?_
  refine xa_ialdw (pc := 6) 0 dX10_layTicks_6 (by omega) hM7 (by omega) (by omega) rfl ?_
  refine xa_top (y := pu) ho.2.2.2.1 ?_
  have hpb := ho.1.2.2.2.2.2.2.1
  refine xa_putw (pc := 7) [xa_i (s 0), xa_r (k + 1), xa_r (k + 2), xa_r (k + 3), xa_r (k + 4), xa_r (k + 5), xa_r (k + 6), xa_r (k + 7), xa_r (k + 8), xa_r (k + 9), xa_r (k + 10), xa_r (k + 11), xa_r (k + 12), xa_i (s 13), xa_i pu, xa_i (s 15), xa_r (k + 13), xa_i (s 17), xa_i (s 18), xa_i (s 19), xa_i (s 20), xa_r (k + 14), xa_r (k + 15), xa_i (s 23), xa_r (k + 16)] dX10_layTicks_7 flRX10_149 plX10_14 (by omega) (by omega) hM0 trivial rfl (fun h1 nh1 ch1 oh1 => ?_)
  have hM0 : h1.1 k = xa_o 10 [xa_i (s 0), xa_r (k + 1), xa_r (k + 2), xa_r (k + 3), xa_r (k + 4), xa_r (k + 5), xa_r (k + 6), xa_r (k + 7), xa_r (k + 8), xa_r (k + 9), xa_r (k + 10), xa_r (k + 11), xa_r (k + 12), xa_i (s 13), xa_i pu, xa_i (s 15), xa_r (k + 13), xa_i (s 17), xa_i (s 18), xa_i (s 19), xa_i (s 20), xa_r (k + 14), xa_r (k + 15), xa_i (s 23), xa_r (k + 16)] := ch1
  have hM1 : h1.1 (k + 1) = xa_a 120 (F 1) := (oh1 _ (by omega)).trans hM1
  have hM2 : h1.1 (k + 2) = xa_a 2 (F 2) := (oh1 _ (by omega)).trans hM2
  have hM3 : h1.1 (k + 3) = xa_a 18 (F 3) := (oh1 _ (by omega)).trans hM3
  have hM4 : h1.1 (k + 4) = xa_a 2 (F 4) := (oh1 _ (by omega)).trans hM4
  have hM5 : h1.1 (k + 5) = xa_a 4 (F 5) := (oh1 _ (by omega)).trans hM5
  have hM6 : h1.1 (k + 6) = xa_a 4 (F 6) := (oh1 _ (by omega)).trans hM6
  have hM7 : h1.1 (k + 7) = xa_a 2 (F 7) := (oh1 _ (by omega)).trans hM7
  have hM8 : h1.1 (k + 8) = xa_a 2 (F 8) := (oh1 _ (by omega)).trans hM8
  have hM9 : h1.1 (k + 9) = xa_a 12 (F 9) := (oh1 _ (by omega)).trans hM9
  have hM10 : h1.1 (k + 10) = xa_a 720 (F 10) := (oh1 _ (by omega)).trans hM10
  have hM11 : h1.1 (k + 11) = xa_a 3 (F 11) := (oh1 _ (by omega)).trans hM11
  have hM12 : h1.1 (k + 12) = xa_a 360 (F 12) := (oh1 _ (by omega)).trans hM12
  have hM13 : h1.1 (k + 13) = xa_a 3 (F 13) := (oh1 _ (by omega)).trans hM13
  have hM14 : h1.1 (k + 14) = xa_a 583200 (F 14) := (oh1 _ (by omega)).trans hM14
  have hM15 : h1.1 (k + 15) = xa_a 583200 (F 15) := (oh1 _ (by omega)).trans hM15
  have hM16 : h1.1 (k + 16) = xa_a 4 (F 16) := (oh1 _ (by omega)).trans hM16
  have hn : h1.2 = h.2 := nh1.trans hn
  have fr : ∀ i, (i < k ∨ k + 17 ≤ i) → h1.1 i = h.1 i := fun i hi => (oh1 i (by omega)).trans (fr i hi)
  refine xa_aload_n (pc := 10) dX10_layTicks_10 rfl ?_
  refine xa_getfield (pc := 11) dX10_layTicks_11 flRX10_49 (by omega) (by omega) hM0 rfl ?_
  refine xa_iload_n (pc := 14) dX10_layTicks_14 rfl ?_
  refine xa_icmp_ne (pc := 15) (tgt := 19) dX10_layTicks_15 (by decide) ⟨by omega, by omega⟩ ⟨by omega, by omega⟩ (fun c_15 => ?_) (fun c_15 => ?_)
  · skip
    refine xa_aload_n (pc := 19) dX10_layTicks_19 rfl ?_
    refine xa_iload_n (pc := 20) dX10_layTicks_20 rfl ?_
    refine xa_putw (pc := 21) [xa_i (s 0), xa_r (k + 1), xa_r (k + 2), xa_r (k + 3), xa_r (k + 4), xa_r (k + 5), xa_r (k + 6), xa_r (k + 7), xa_r (k + 8), xa_r (k + 9), xa_r (k + 10), xa_r (k + 11), xa_r (k + 12), xa_i (s 13), xa_i pu, xa_i (s 15), xa_r (k + 13), xa_i (s 17), xa_i (s 18), xa_i (s 19), xa_i J, xa_r (k + 14), xa_r (k + 15), xa_i (s 23), xa_r (k + 16)] dX10_layTicks_21 flRX10_49 plX10_20 (by omega) (by omega) hM0 trivial rfl (fun h2 nh2 ch2 oh2 => ?_)
    have hM0 : h2.1 k = xa_o 10 [xa_i (s 0), xa_r (k + 1), xa_r (k + 2), xa_r (k + 3), xa_r (k + 4), xa_r (k + 5), xa_r (k + 6), xa_r (k + 7), xa_r (k + 8), xa_r (k + 9), xa_r (k + 10), xa_r (k + 11), xa_r (k + 12), xa_i (s 13), xa_i pu, xa_i (s 15), xa_r (k + 13), xa_i (s 17), xa_i (s 18), xa_i (s 19), xa_i J, xa_r (k + 14), xa_r (k + 15), xa_i (s 23), xa_r (k + 16)] := ch2
    have hM1 : h2.1 (k + 1) = xa_a 120 (F 1) := (oh2 _ (by omega)).trans hM1
    have hM2 : h2.1 (k + 2) = xa_a 2 (F 2) := (oh2 _ (by omega)).trans hM2
    have hM3 : h2.1 (k + 3) = xa_a 18 (F 3) := (oh2 _ (by omega)).trans hM3
    have hM4 : h2.1 (k + 4) = xa_a 2 (F 4) := (oh2 _ (by omega)).trans hM4
    have hM5 : h2.1 (k + 5) = xa_a 4 (F 5) := (oh2 _ (by omega)).trans hM5
    have hM6 : h2.1 (k + 6) = xa_a 4 (F 6) := (oh2 _ (by omega)).trans hM6
    have hM7 : h2.1 (k + 7) = xa_a 2 (F 7) := (oh2 _ (by omega)).trans hM7
    have hM8 : h2.1 (k + 8) = xa_a 2 (F 8) := (oh2 _ (by omega)).trans hM8
    have hM9 : h2.1 (k + 9) = xa_a 12 (F 9) := (oh2 _ (by omega)).trans hM9
    have hM10 : h2.1 (k + 10) = xa_a 720 (F 10) := (oh2 _ (by omega)).trans hM10
    have hM11 : h2.1 (k + 11) = xa_a 3 (F 11) := (oh2 _ (by omega)).trans hM11
    have hM12 : h2.1 (k + 12) = xa_a 360 (F 12) := (oh2 _ (by omega)).trans hM12
    have hM13 : h2.1 (k + 13) = xa_a 3 (F 13) := (oh2 _ (by omega)).trans hM13
    have hM14 : h2.1 (k + 14) = xa_a 583200 (F 14) := (oh2 _ (by omega)).trans hM14
    have hM15 : h2.1 (k + 15) = xa_a 583200 (F 15) := (oh2 _ (by omega)).trans hM15
    have hM16 : h2.1 (k + 16) = xa_a 4 (F 16) := (oh2 _ (by omega)).trans hM16
    have hn : h2.2 = h.2 := nh2.trans hn
    have fr : ∀ i, (i < k ∨ k + 17 ≤ i) → h2.1 i = h.1 i := fun i hi => (oh2 i (by omega)).trans (fr i hi)
    refine xa_aload_n (pc := 24) dX10_layTicks_24 rfl ?_
    refine xa_callV (pc := 25) (as := []) (rest := []) dX10_layTicks_25 ⟨qX10_shapeMany.1, qX10_shapeMany.2.1, qX10_shapeMany.2.2, by decide, by decide⟩ lkRX10_212 imX10_shapeMany seX10_shapeMany rfl rfl (by omega) (by omega) hM0 rfl (Nat.le_of_ble_eq_true rfl) (Nat.zero_le _) (Nat.zero_le _) (c_mShapes _ F (xa_upf (xa_upf s 14 pu) 20 J) ⟨hM0, hM1, hM2, hM3, hM4, hM5, hM6, hM7, hM8, hM9, hM10, hM11, hM12, hM13, hM14, hM15, hM16, by omega, by omega⟩ ho.hv) (fun r h' hq => ?_)
    obtain ⟨rfl, hq⟩ := hq
    have hq := hq.symm
    subst hq
    refine xa_istoren (pc := 28) [some (xa_r k), some (xa_i J), some (xa_i (sm_shapes F)), none, none] dX10_layTicks_28 (by decide) (Nat.le_of_ble_eq_true rfl) rfl rfl ?_
    refine xa_aload_n (pc := 29) dX10_layTicks_29 rfl ?_
    refine xa_iconst (pc := 30) dX10_layTicks_30 ?_
    refine xa_putw (pc := 31) [xa_i (s 0), xa_r (k + 1), xa_r (k + 2), xa_r (k + 3), xa_r (k + 4), xa_r (k + 5), xa_r (k + 6), xa_r (k + 7), xa_r (k + 8), xa_r (k + 9), xa_r (k + 10), xa_r (k + 11), xa_r (k + 12), xa_i (s 13), xa_i pu, xa_i (s 15), xa_r (k + 13), xa_i (s 17), xa_i (s 18), xa_i (s 19), xa_i J, xa_r (k + 14), xa_r (k + 15), xa_i 0, xa_r (k + 16)] dX10_layTicks_31 flRX10_206 plX10_23 (by omega) (by omega) hM0 trivial rfl (fun h3 nh3 ch3 oh3 => ?_)
    have hM0 : h3.1 k = xa_o 10 [xa_i (s 0), xa_r (k + 1), xa_r (k + 2), xa_r (k + 3), xa_r (k + 4), xa_r (k + 5), xa_r (k + 6), xa_r (k + 7), xa_r (k + 8), xa_r (k + 9), xa_r (k + 10), xa_r (k + 11), xa_r (k + 12), xa_i (s 13), xa_i pu, xa_i (s 15), xa_r (k + 13), xa_i (s 17), xa_i (s 18), xa_i (s 19), xa_i J, xa_r (k + 14), xa_r (k + 15), xa_i 0, xa_r (k + 16)] := ch3
    have hM1 : h3.1 (k + 1) = xa_a 120 (F 1) := (oh3 _ (by omega)).trans hM1
    have hM2 : h3.1 (k + 2) = xa_a 2 (F 2) := (oh3 _ (by omega)).trans hM2
    have hM3 : h3.1 (k + 3) = xa_a 18 (F 3) := (oh3 _ (by omega)).trans hM3
    have hM4 : h3.1 (k + 4) = xa_a 2 (F 4) := (oh3 _ (by omega)).trans hM4
    have hM5 : h3.1 (k + 5) = xa_a 4 (F 5) := (oh3 _ (by omega)).trans hM5
    have hM6 : h3.1 (k + 6) = xa_a 4 (F 6) := (oh3 _ (by omega)).trans hM6
    have hM7 : h3.1 (k + 7) = xa_a 2 (F 7) := (oh3 _ (by omega)).trans hM7
    have hM8 : h3.1 (k + 8) = xa_a 2 (F 8) := (oh3 _ (by omega)).trans hM8
    have hM9 : h3.1 (k + 9) = xa_a 12 (F 9) := (oh3 _ (by omega)).trans hM9
    have hM10 : h3.1 (k + 10) = xa_a 720 (F 10) := (oh3 _ (by omega)).trans hM10
    have hM11 : h3.1 (k + 11) = xa_a 3 (F 11) := (oh3 _ (by omega)).trans hM11
    have hM12 : h3.1 (k + 12) = xa_a 360 (F 12) := (oh3 _ (by omega)).trans hM12
    have hM13 : h3.1 (k + 13) = xa_a 3 (F 13) := (oh3 _ (by omega)).trans hM13
    have hM14 : h3.1 (k + 14) = xa_a 583200 (F 14) := (oh3 _ (by omega)).trans hM14
    have hM15 : h3.1 (k + 15) = xa_a 583200 (F 15) := (oh3 _ (by omega)).trans hM15
    have hM16 : h3.1 (k + 16) = xa_a 4 (F 16) := (oh3 _ (by omega)).trans hM16
    have hn : h3.2 = h.2 := nh3.trans hn
    have fr : ∀ i, (i < k ∨ k + 17 ≤ i) → h3.1 i = h.1 i := fun i hi => (oh3 i (by omega)).trans (fr i hi)
    refine xa_iconst (pc := 34) dX10_layTicks_34 ?_
    refine xa_istoren (pc := 35) [some (xa_r k), some (xa_i J), some (xa_i (sm_shapes F)), some (xa_i 0), none] dX10_layTicks_35 (by decide) (Nat.le_of_ble_eq_true rfl) rfl rfl ?_
    rw [← xa_fl_0 (F 14) (-1)] at hM14
    exact c_mLay_1 hMk hJ ho ((360 * sm_shapes F).toNat + 1) 0 _ _ (by omega) (by omega) (by omega) (by omega) hM0 hM1 hM2 hM3 hM4 hM5 hM6 hM7 hM8 hM9 hM10 hM11 hM12 hM13 hM14 hM15 hM16 fr
  · skip
    refine xa_return (pc := 18) dX10_layTicks_18 rfl ?_
    have e20 : s 20 = J := by omega
    rw [e20] at hM0
    exact ⟨⟨rfl, F 14, F 15, s 23, hl e20, ⟨hM0, hM1, hM2, hM3, hM4, hM5, hM6, hM7, hM8, hM9, hM10, hM11, hM12, hM13, hM14, hM15, hM16, by omega, by omega⟩⟩, hn, fr⟩
