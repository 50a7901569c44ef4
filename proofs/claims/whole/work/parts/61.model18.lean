/-! The model: free, fewest -/
def mSim3 (F F' : Nat → Nat → Int) (s s' : Nat → Int) : Prop := (∀ i, i ≠ 14 → i ≠ 15 → i ≠ 16 → F' i = F i) ∧ s' 0 = s 0 ∧ s' 13 = s 13
def mFre (F : Nat → Nat → Int) (ld dg : Nat → Int) (pa jo : Nat) (wa sr : Int) : Prop := ∀ J : Nat, J < 4 → (0 ≤ F 16 J ∧ F 16 J ≤ 360) ∧ (0 < F 16 J → fr_is ld dg pa jo wa sr (J : Int) (F 16 J))
theorem J4 {J : Nat} (h : J < 4) : ((J : Nat) : Int) = 0 ∨ ((J : Nat) : Int) = 1 ∨ ((J : Nat) : Int) = 2 ∨ ((J : Nat) : Int) = 3 := by omega
theorem c_mFree_d {G : xa_G} {h0 : xa_H} {k J : Nat} {F : Nat → Nat → Int} {s : Nat → Int} {ld dg : Nat → Int} {pa jo : Nat} {wa sr pu ri : Int} (hk : 2 ≤ k) (hJ : J < 4) (ho : mOk F ld dg pa jo wa sr pu ri) : ∀ (d : Nat) (q : xTQ) (e : Nat) (g5 g6 : Option xa_V) (h : xa_H), 360 - e < d → (mc_I (360 * sm_shapes F).toNat (sx jo wa sr (cf_rest pa) 0) (fR ld dg pa jo wa sr ((J : Nat) : Int)) q q.2.2) → (e ≤ 360) → (h.2 = h0.2) → (k + 16 < h.2) → (h.1 k = xa_o 10 [xa_i (s 0), xa_r (k + 1), xa_r (k + 2), xa_r (k + 3), xa_r (k + 4), xa_r (k + 5), xa_r (k + 6), xa_r (k + 7), xa_r (k + 8), xa_r (k + 9), xa_r (k + 10), xa_r (k + 11), xa_r (k + 12), xa_i (s 13), xa_i 0, xa_i (s 15), xa_r (k + 13), xa_i (s 17), xa_i (s 18), xa_i (s 19), xa_i (-4), xa_r (k + 14), xa_r (k + 15), xa_i ((q.2.2 : Nat) : Int), xa_r (k + 16)]) → (h.1 (k + 1) = xa_a 120 (F 1)) → (h.1 (k + 2) = xa_a 2 (F 2)) → (h.1 (k + 3) = xa_a 18 (F 3)) → (h.1 (k + 4) = xa_a 2 (F 4)) → (h.1 (k + 5) = xa_a 4 (F 5)) → (h.1 (k + 6) = xa_a 4 (F 6)) → (h.1 (k + 7) = xa_a 2 (F 7)) → (h.1 (k + 8) = xa_a 2 (F 8)) → (h.1 (k + 9) = xa_a 12 (F 9)) → (h.1 (k + 10) = xa_a 720 (F 10)) → (h.1 (k + 11) = xa_a 3 (F 11)) → (h.1 (k + 12) = xa_a 360 (F 12)) → (h.1 (k + 13) = xa_a 3 (F 13)) → (h.1 (k + 14) = xa_a 583200 q.1) → (h.1 (k + 15) = xa_a 583200 q.2.1) → (h.1 (k + 16) = xa_a 4 (F 16)) → (∀ i, (i < k ∨ k + 17 ≤ i) → h.1 i = h0.1 i) → xa_W G mX10_freeBy (xa_Z G (fun r h' => (∃ (r0 : Int) (T Q : Nat → Int) (x : Int), r = some (xa_i r0) ∧ (0 ≤ r0 ∧ r0 ≤ 360) ∧ fr_is ld dg pa jo wa sr ((J : Nat) : Int) r0 ∧ xM h' k (xa_uF (xa_uF (xa_uF F 14 T) 15 Q) 16 (xa_upf (F 16) J r0)) (xa_upf (xa_upf (xa_upf s 14 0) 20 (-4)) 23 x)) ∧ h'.2 = h0.2 ∧ ∀ i, (i < k ∨ k + 17 ≤ i) → h'.1 i = h0.1 i)) 175 [some (xa_r k), some (xa_i ((J : Nat) : Int)), some (xa_i (sm_shapes F)), some (xa_i ((ct_n (fun t => decide (q.1 (sx jo wa sr (cf_rest pa) ((t : Nat) : Int)) = 0)) e : Nat) : Int)), some (xa_i ((e : Nat) : Int)), g5, g6] [] h 0 0 := by
  intro d
  induction d with
  | zero => intros; exfalso; omega
  | succ d ih =>
    intro q e g5 g6 h hd hI he hn0 hkn hM0 hM1 hM2 hM3 hM4 hM5 hM6 hM7 hM8 hM9 hM10 hM11 hM12 hM13 hM14 hM15 hM16 fr0
    have hn : h.2 = h.2 := rfl
    have fr : ∀ i, (i < k ∨ k + 17 ≤ i) → h.1 i = h.1 i := fun _ _ => rfl
    have hsh := sm_shapes_b ho.1 ho.2.1
    have hcr := cf_rest_ok ho.1
    have hrt := sx_lt ho.1 ho.2.1 hcr (t := 0) (by omega)
    have hce := ct_le (fun t => decide (q.1 (sx jo wa sr (cf_rest pa) ((t : Nat) : Int)) = 0)) e
    refine xa_iload (pc := 175) dX10_freeBy_175 rfl ?_
    refine xa_sipush (pc := 177) dX10_freeBy_177 rfl ?_
    refine xa_icmp_ge (pc := 180) (tgt := 216) dX10_freeBy_180 (by decide) ⟨by omega, by omega⟩ (by decide) (fun c_180 => ?_) (fun c_180 => ?_)
    · skip
      refine xa_aload_n (pc := 216) dX10_freeBy_216 rfl ?_
      refine xa_getfield (pc := 217) dX10_freeBy_217 flRX10_60 (by omega) (by omega) hM0 rfl ?_
      refine xa_iload_n (pc := 220) dX10_freeBy_220 rfl ?_
      refine xa_iload_n (pc := 221) dX10_freeBy_221 rfl ?_
      refine xa_iastw (pc := 222) J dX10_freeBy_222 (by omega) (by omega) hM16 (by omega) (by omega) (Int.toNat_natCast _) (fun h1 nh1 ch1 oh1 => ?_)
      have hM16 : h1.1 (k + 16) = xa_a 4 (xa_upf (F 16) J ((ct_n (fun t => decide (q.1 (sx jo wa sr (cf_rest pa) ((t : Nat) : Int)) = 0)) e : Nat) : Int)) := ch1
      have hM0 : h1.1 k = xa_o 10 [xa_i (s 0), xa_r (k + 1), xa_r (k + 2), xa_r (k + 3), xa_r (k + 4), xa_r (k + 5), xa_r (k + 6), xa_r (k + 7), xa_r (k + 8), xa_r (k + 9), xa_r (k + 10), xa_r (k + 11), xa_r (k + 12), xa_i (s 13), xa_i 0, xa_i (s 15), xa_r (k + 13), xa_i (s 17), xa_i (s 18), xa_i (s 19), xa_i (-4), xa_r (k + 14), xa_r (k + 15), xa_i ((q.2.2 : Nat) : Int), xa_r (k + 16)] := (oh1 _ (by omega)).trans hM0
      have hM1 : h1.1 (k + 1) = xa_a 120 (F 1) := (oh1 _ (by omega)).trans hM1
      have hM2 : h1.1 (k + 2) = xa_a 2 (F 2) := (oh1 _ (by omega)).trans hM2
      have hM3 : h1.1 (k + 3) = xa_a 18 (F 3) := (oh1 _ (by omega)).trans hM3
      have hM4 : h1.1 (k + 4) = xa_a 2 (F 4) := (oh1 _ (by omega)).trans hM4
      have hM5 : h1.1 (k + 5) = xa_a 4 (F 5) := (oh1 _ (by omega)).trans hM5
      have hM6 : h1.1 (k + 6) = xa_a 4 (F 6) := (oh1 _ (by omega)).trans hM6
      have hM7 : h1.1 (k + 7) = xa_a 2 (F 7) := (oh1 _ (by omega)).trans hM7
      have hM8 : h1.1 (k + 8) = xa_a 2 (F 8) := (oh1 _ (by omega)).trans hM8
      have hM9 : h1.1 (k + 9) = xa_a 12 (F 9) := (oh1 _ (by omega)).trans hM9
      have hM10 : h1.1 (k + 10) = xa_a 720 (F 10) := (oh1 _ (by omega)).trans hM10
      have hM11 : h1.1 (k + 11) = xa_a 3 (F 11) := (oh1 _ (by omega)).trans hM11
      have hM12 : h1.1 (k + 12) = xa_a 360 (F 12) := (oh1 _ (by omega)).trans hM12
      have hM13 : h1.1 (k + 13) = xa_a 3 (F 13) := (oh1 _ (by omega)).trans hM13
      have hM14 : h1.1 (k + 14) = xa_a 583200 q.1 := (oh1 _ (by omega)).trans hM14
      have hM15 : h1.1 (k + 15) = xa_a 583200 q.2.1 := (oh1 _ (by omega)).trans hM15
      have hn : h1.2 = h.2 := nh1.trans hn
      have fr : ∀ i, (i < k ∨ k + 17 ≤ i) → h1.1 i = h.1 i := fun i hi => (oh1 i (by omega)).trans (fr i hi)
      refine xa_iload_n (pc := 223) dX10_freeBy_223 rfl ?_
      refine xa_ireturn (pc := 224) dX10_freeBy_224 rfl trivial ?_
      have he3 : e = 360 := by omega
      subst he3
      exact ⟨⟨_, q.1, q.2.1, _, rfl, by have := ct_le (fun t => decide (q.1 (sx jo wa sr (cf_rest pa) ((t : Nat) : Int)) = 0)) 360; omega, fr_end ho.1 ho.2.1 hI, ⟨hM0, hM1, hM2, hM3, hM4, hM5, hM6, hM7, hM8, hM9, hM10, hM11, hM12, hM13, hM14, hM15, hM16, by omega, by omega⟩⟩, by omega, fun i hi => (fr i hi).trans (fr0 i hi)⟩
    · skip
      have hse := sx_lt ho.1 ho.2.1 hcr (t := ((e : Nat) : Int)) (by omega)
      have hmr := mE_b ho.1 ho.2.1 hcr
      refine xa_iload_n (pc := 183) dX10_freeBy_183 rfl ?_
      refine xa_aload_n (pc := 184) dX10_freeBy_184 rfl ?_
      refine xa_getfield (pc := 185) dX10_freeBy_185 flRX10_54 (by omega) (by omega) hM0 rfl ?_
      refine xa_sipush (pc := 188) dX10_freeBy_188 rfl ?_
      refine xa_aload_n (pc := 191) dX10_freeBy_191 rfl ?_
      refine xa_callV (pc := 192) (as := []) (rest := [xa_i 360, xa_r (k + 14), xa_i ((ct_n (fun t => decide (q.1 (sx jo wa sr (cf_rest pa) ((t : Nat) : Int)) = 0)) e : Nat) : Int)]) dX10_freeBy_192 ⟨qX10_rest.1, qX10_rest.2.1, qX10_rest.2.2, by decide, by decide⟩ lkRX10_161 imX10_rest seX10_rest rfl rfl (by omega) (by omega) hM0 rfl (Nat.le_of_ble_eq_true rfl) (Nat.zero_le _) (Nat.zero_le _) (c_kRest (F := (xa_uF (xa_uF F 14 q.1) 15 q.2.1)) (s := (xa_upf (xa_upf (xa_upf s 14 0) 20 (-4)) 23 ((q.2.2 : Nat) : Int))) ho ⟨hM0, hM1, hM2, hM3, hM4, hM5, hM6, hM7, hM8, hM9, hM10, hM11, hM12, hM13, hM14, hM15, hM16, by omega, by omega⟩) (fun r h' hq => ?_)
      obtain ⟨rfl, hq⟩ := hq
      have hq := hq.symm
      subst hq
      refine xa_imul (pc := 195) dX10_freeBy_195 ?_
      refine xa_iload (pc := 196) dX10_freeBy_196 rfl ?_
      refine xa_iadd (pc := 198) dX10_freeBy_198 ?_
      refine xa_ialdw (pc := 199) (sx jo wa sr (cf_rest pa) ((e : Nat) : Int)) dX10_freeBy_199 (by omega) hM14 (by omega) (by omega) rfl ?_
      have tb_199 := mq_b hI.1 hse.1
      refine xa_if_ne (pc := 200) (tgt := 207) dX10_freeBy_200 (by decide) ⟨by omega, by omega⟩ (fun c_200 => ?_) (fun c_200 => ?_)
      · skip
        refine xa_iconst (pc := 207) dX10_freeBy_207 ?_
        refine xa_iadd (pc := 208) dX10_freeBy_208 ?_
        refine xa_istoren (pc := 209) [some (xa_r k), some (xa_i ((J : Nat) : Int)), some (xa_i (sm_shapes F)), some (xa_i (((ct_n (fun t => decide (q.1 (sx jo wa sr (cf_rest pa) ((t : Nat) : Int)) = 0)) e : Nat) : Int) + 0)), some (xa_i ((e : Nat) : Int)), g5, g6] dX10_freeBy_209 (by decide) (Nat.le_of_ble_eq_true rfl) rfl rfl ?_
        refine xa_iincw (pc := 210) (y := ((e + 1 : Nat) : Int)) [some (xa_r k), some (xa_i ((J : Nat) : Int)), some (xa_i (sm_shapes F)), some (xa_i (((ct_n (fun t => decide (q.1 (sx jo wa sr (cf_rest pa) ((t : Nat) : Int)) = 0)) e : Nat) : Int) + 0)), some (xa_i ((e + 1 : Nat) : Int)), g5, g6] dX10_freeBy_210 (by decide) rfl rfl (by omega) rfl ?_
        refine xa_goto (pc := 213) (tgt := 175) dX10_freeBy_213 (by decide) ?_
        have ec : ((ct_n (fun t => decide (q.1 (sx jo wa sr (cf_rest pa) ((t : Nat) : Int)) = 0)) e : Nat) : Int) + 0 = ((ct_n (fun t => decide (q.1 (sx jo wa sr (cf_rest pa) ((t : Nat) : Int)) = 0)) (e + 1) : Nat) : Int) := by
          show ((ct_n (fun t => decide (q.1 (sx jo wa sr (cf_rest pa) ((t : Nat) : Int)) = 0)) e : Nat) : Int) + 0 = ((ct_n (fun t => decide (q.1 (sx jo wa sr (cf_rest pa) ((t : Nat) : Int)) = 0)) e + (if (fun t => decide (q.1 (sx jo wa sr (cf_rest pa) ((t : Nat) : Int)) = 0)) e = true then 1 else 0) : Nat) : Int)
          rw [if_neg (by rw [decide_eq_true_iff]; exact c_200)]
          all_goals omega
        rw [ec]
        exact ih q (e + 1) _ _ _ (by omega) hI (by omega) (by omega) (by omega) hM0 hM1 hM2 hM3 hM4 hM5 hM6 hM7 hM8 hM9 hM10 hM11 hM12 hM13 hM14 hM15 hM16 (fun i hi => (fr i hi).trans (fr0 i hi))
      · skip
        refine xa_iconst (pc := 203) dX10_freeBy_203 ?_
        refine xa_goto (pc := 204) (tgt := 208) dX10_freeBy_204 (by decide) ?_
        refine xa_iadd (pc := 208) dX10_freeBy_208 ?_
        refine xa_istoren (pc := 209) [some (xa_r k), some (xa_i ((J : Nat) : Int)), some (xa_i (sm_shapes F)), some (xa_i (((ct_n (fun t => decide (q.1 (sx jo wa sr (cf_rest pa) ((t : Nat) : Int)) = 0)) e : Nat) : Int) + 1)), some (xa_i ((e : Nat) : Int)), g5, g6] dX10_freeBy_209 (by decide) (Nat.le_of_ble_eq_true rfl) rfl rfl ?_
        refine xa_iincw (pc := 210) (y := ((e + 1 : Nat) : Int)) [some (xa_r k), some (xa_i ((J : Nat) : Int)), some (xa_i (sm_shapes F)), some (xa_i (((ct_n (fun t => decide (q.1 (sx jo wa sr (cf_rest pa) ((t : Nat) : Int)) = 0)) e : Nat) : Int) + 1)), some (xa_i ((e + 1 : Nat) : Int)), g5, g6] dX10_freeBy_210 (by decide) rfl rfl (by omega) rfl ?_
        refine xa_goto (pc := 213) (tgt := 175) dX10_freeBy_213 (by decide) ?_
        have ec : ((ct_n (fun t => decide (q.1 (sx jo wa sr (cf_rest pa) ((t : Nat) : Int)) = 0)) e : Nat) : Int) + 1 = ((ct_n (fun t => decide (q.1 (sx jo wa sr (cf_rest pa) ((t : Nat) : Int)) = 0)) (e + 1) : Nat) : Int) := by
          show ((ct_n (fun t => decide (q.1 (sx jo wa sr (cf_rest pa) ((t : Nat) : Int)) = 0)) e : Nat) : Int) + 1 = ((ct_n (fun t => decide (q.1 (sx jo wa sr (cf_rest pa) ((t : Nat) : Int)) = 0)) e + (if (fun t => decide (q.1 (sx jo wa sr (cf_rest pa) ((t : Nat) : Int)) = 0)) e = true then 1 else 0) : Nat) : Int)
          rw [if_pos (by rw [decide_eq_true_iff]; exact c_200)]
          all_goals omega
        rw [ec]
        exact ih q (e + 1) _ _ _ (by omega) hI (by omega) (by omega) (by omega) hM0 hM1 hM2 hM3 hM4 hM5 hM6 hM7 hM8 hM9 hM10 hM11 hM12 hM13 hM14 hM15 hM16 (fun i hi => (fr i hi).trans (fr0 i hi))
set_option maxHeartbeats 4000000 in
theorem c_mFree_b {G : xa_G} {h0 : xa_H} {k J : Nat} {F : Nat → Nat → Int} {s : Nat → Int} {ld dg : Nat → Int} {pa jo : Nat} {wa sr pu ri : Int} (hk : 2 ≤ k) (hJ : J < 4) (ho : mOk F ld dg pa jo wa sr pu ri) : ∀ (d : Nat) (kk n : Nat) (q1 : xTQ) (c : xCf) (g6 : Option xa_V) (h : xa_H), 19 * ((360 * sm_shapes F).toNat - kk) + 18 - n < d → (mc_I (360 * sm_shapes F).toNat (sx jo wa sr (cf_rest pa) 0) (fR ld dg pa jo wa sr ((J : Nat) : Int)) q1 kk) → (kk < q1.2.2) → (cf_ok pa jo wa sr c) → (mE jo wa sr c = q1.2.1 kk / 360) → (n ≤ 18) → (h.2 = h0.2) → (k + 16 < h.2) → (h.1 k = xa_o 10 [xa_i (s 0), xa_r (k + 1), xa_r (k + 2), xa_r (k + 3), xa_r (k + 4), xa_r (k + 5), xa_r (k + 6), xa_r (k + 7), xa_r (k + 8), xa_r (k + 9), xa_r (k + 10), xa_r (k + 11), xa_r (k + 12), xa_i (s 13), xa_i 0, xa_i (s 15), xa_r (k + 13), xa_i (s 17), xa_i (s 18), xa_i (s 19), xa_i (-4), xa_r (k + 14), xa_r (k + 15), xa_i (((mq_meets 0 q1 (fa_l ld dg pa jo wa sr ((J : Nat) : Int) c (q1.2.1 kk % 360) n)).2.2 : Nat) : Int), xa_r (k + 16)]) → (h.1 (k + 1) = xa_a 120 (F 1)) → (h.1 (k + 2) = xa_a 2 (F 2)) → (h.1 (k + 3) = xa_a 18 (F 3)) → (h.1 (k + 4) = xa_a 2 (F 4)) → (h.1 (k + 5) = xa_a 4 (F 5)) → (h.1 (k + 6) = xa_a 4 (F 6)) → (h.1 (k + 7) = xa_a 2 (F 7)) → (h.1 (k + 8) = xa_a 2 (F 8)) → (h.1 (k + 9) = xa_a 12 (F 9)) → (h.1 (k + 10) = xa_a 720 (F 10)) → (h.1 (k + 11) = xa_a 3 (F 11)) → (h.1 (k + 12) = xa_a 360 (F 12)) → (h.1 (k + 13) = xa_a 3 (F 13)) → (h.1 (k + 14) = xa_a 583200 ((mq_meets 0 q1 (fa_l ld dg pa jo wa sr ((J : Nat) : Int) c (q1.2.1 kk % 360) n)).1)) → (h.1 (k + 15) = xa_a 583200 ((mq_meets 0 q1 (fa_l ld dg pa jo wa sr ((J : Nat) : Int) c (q1.2.1 kk % 360) n)).2.1)) → (h.1 (k + 16) = xa_a 4 (F 16)) → (∀ i, (i < k ∨ k + 17 ≤ i) → h.1 i = h0.1 i) → xa_W G mX10_freeBy (xa_Z G (fun r h' => (∃ (r0 : Int) (T Q : Nat → Int) (x : Int), r = some (xa_i r0) ∧ (0 ≤ r0 ∧ r0 ≤ 360) ∧ fr_is ld dg pa jo wa sr ((J : Nat) : Int) r0 ∧ xM h' k (xa_uF (xa_uF (xa_uF F 14 T) 15 Q) 16 (xa_upf (F 16) J r0)) (xa_upf (xa_upf (xa_upf s 14 0) 20 (-4)) 23 x)) ∧ h'.2 = h0.2 ∧ ∀ i, (i < k ∨ k + 17 ≤ i) → h'.1 i = h0.1 i)) 96 [some (xa_r k), some (xa_i ((J : Nat) : Int)), some (xa_i (sm_shapes F)), some (xa_i ((kk : Nat) : Int)), some (xa_i (mE jo wa sr c)), some (xa_i ((n + 1 : Nat) : Int)), g6] [] h 0 0 := by
  intro d
  induction d with
  | zero => intros; exfalso; omega
  | succ d ih =>
    intro kk n q1 c g6 h hd hI hkk hc hcs hn18 hn0 hkn hM0 hM1 hM2 hM3 hM4 hM5 hM6 hM7 hM8 hM9 hM10 hM11 hM12 hM13 hM14 hM15 hM16 fr0
    have hn : h.2 = h.2 := rfl
    have fr : ∀ i, (i < k ∨ k + 17 ≤ i) → h.1 i = h.1 i := fun _ _ => rfl
    have hsh := sm_shapes_b ho.1 ho.2.1
    have hcr := cf_rest_ok ho.1
    have hrt := sx_lt ho.1 ho.2.1 hcr (t := 0) (by omega)
    obtain ⟨k1, k2, k3, k4⟩ := hI.1.1 kk hkk
    have hxs : (q1.2.1 kk).toNat = sx jo wa sr c (q1.2.1 kk % 360) := by unfold sx; rw [hcs]; omega
    have hfa := fun n hn => fa_ok (J := ((J : Nat) : Int)) ho.1 ho.2.1 hc (t := q1.2.1 kk % 360) (by omega) n hn
    obtain ⟨m1, m2, m3, m4, m5, m6⟩ := mq_meets_spec (v := 0) (fa_l ld dg pa jo wa sr ((J : Nat) : Int) c (q1.2.1 kk % 360) n) q1 hI.1 (by omega) (fun x hx => (hfa n hn18 x hx).1)
    have hkeep := m3 kk hkk
    have hle := mq_le m1
    refine xa_iload (pc := 96) dX10_freeBy_96 rfl ?_
    refine xa_bipush (pc := 98) dX10_freeBy_98 rfl ?_
    refine xa_icmp_ge (pc := 100) (tgt := 164) dX10_freeBy_100 (by decide) ⟨by omega, by omega⟩ (by decide) (fun c_100 => ?_) (fun c_100 => ?_)
    · skip
      refine xa_iincw (pc := 164) (y := ((kk + 1 : Nat) : Int)) [some (xa_r k), some (xa_i ((J : Nat) : Int)), some (xa_i (sm_shapes F)), some (xa_i ((kk + 1 : Nat) : Int)), some (xa_i (mE jo wa sr c)), some (xa_i ((n + 1 : Nat) : Int)), g6] dX10_freeBy_164 (by decide) rfl rfl (by omega) rfl ?_
      refine xa_goto (pc := 167) (tgt := 73) dX10_freeBy_167 (by decide) ?_
      refine xa_iload_n (pc := 73) dX10_freeBy_73 rfl ?_
      refine xa_aload_n (pc := 74) dX10_freeBy_74 rfl ?_
      refine xa_getfield (pc := 75) dX10_freeBy_75 flRX10_206 (by omega) (by omega) hM0 rfl ?_
      refine xa_icmp_ge (pc := 78) (tgt := 170) dX10_freeBy_78 (by decide) ⟨by omega, by omega⟩ ⟨by omega, by omega⟩ (fun c_78 => ?_) (fun c_78 => ?_)
      · skip
        refine xa_iconst (pc := 170) dX10_freeBy_170 ?_
        refine xa_istoren (pc := 171) [some (xa_r k), some (xa_i ((J : Nat) : Int)), some (xa_i (sm_shapes F)), some (xa_i 0), some (xa_i (mE jo wa sr c)), some (xa_i ((n + 1 : Nat) : Int)), g6] dX10_freeBy_171 (by decide) (Nat.le_of_ble_eq_true rfl) rfl rfl ?_
        refine xa_iconst (pc := 172) dX10_freeBy_172 ?_
        refine xa_istorew (pc := 173) [some (xa_r k), some (xa_i ((J : Nat) : Int)), some (xa_i (sm_shapes F)), some (xa_i 0), some (xa_i 0), some (xa_i ((n + 1 : Nat) : Int)), g6] dX10_freeBy_173 (by decide) (Nat.le_of_ble_eq_true rfl) rfl rfl ?_
        have hn9 : n = 18 := by omega
        subst hn9
        have hI2 := mc_next hI hrt.1 hkk (l := fa_l ld dg pa jo wa sr ((J : Nat) : Int) c (q1.2.1 kk % 360) 18) (fun x hx => by have := hfa 18 (Nat.le_refl _) x hx; rw [← hxs] at this; exact this) (fun x hx hR => fa_all ho.1 ho.2.1 hc (by omega) (by rw [← hxs]; exact hR))
        have hke : kk + 1 = (mq_meets 0 q1 (fa_l ld dg pa jo wa sr ((J : Nat) : Int) c (q1.2.1 kk % 360) 18)).2.2 := by have := hI2.2.1; omega
        rw [hke] at hI2
        exact c_mFree_d hk hJ ho 361 (mq_meets 0 q1 (fa_l ld dg pa jo wa sr ((J : Nat) : Int) c (q1.2.1 kk % 360) 18)) 0 _ _ _ (by omega) hI2 (by omega) (by omega) (by omega) hM0 hM1 hM2 hM3 hM4 hM5 hM6 hM7 hM8 hM9 hM10 hM11 hM12 hM13 hM14 hM15 hM16 (fun i hi => (fr i hi).trans (fr0 i hi))
      · skip
        have hn9 : n = 18 := by omega
        subst hn9
        have hI2 := mc_next hI hrt.1 hkk (l := fa_l ld dg pa jo wa sr ((J : Nat) : Int) c (q1.2.1 kk % 360) 18) (fun x hx => by have := hfa 18 (Nat.le_refl _) x hx; rw [← hxs] at this; exact this) (fun x hx hR => fa_all ho.1 ho.2.1 hc (by omega) (by rw [← hxs]; exact hR))
        obtain ⟨j1, j2, j3, j4⟩ := m1.1 (kk + 1) (by omega)
        obtain ⟨c2, hc2, hcs2, hxs2⟩ := sx_dec ho.1 ho.2.1 (x := ((mq_meets 0 q1 (fa_l ld dg pa jo wa sr ((J : Nat) : Int) c (q1.2.1 kk % 360) 18)).2.1 (kk + 1)).toNat) (by omega)
        rw [show ((((mq_meets 0 q1 (fa_l ld dg pa jo wa sr ((J : Nat) : Int) c (q1.2.1 kk % 360) 18)).2.1 (kk + 1)).toNat : Nat) : Int) = (mq_meets 0 q1 (fa_l ld dg pa jo wa sr ((J : Nat) : Int) c (q1.2.1 kk % 360) 18)).2.1 (kk + 1) by omega] at hcs2 hxs2
        refine xa_aload_n (pc := 81) dX10_freeBy_81 rfl ?_
        refine xa_getfield (pc := 82) dX10_freeBy_82 flRX10_57 (by omega) (by omega) hM0 rfl ?_
        refine xa_iload_n (pc := 85) dX10_freeBy_85 rfl ?_
        refine xa_ialdw (pc := 86) (kk + 1) dX10_freeBy_86 (by omega) hM15 (by omega) (by omega) (by omega) ?_
        refine xa_sipush (pc := 87) dX10_freeBy_87 rfl ?_
        refine xa_idivn (pc := 90) dX10_freeBy_90 ⟨by omega, by omega⟩ (by decide) (by omega) (by omega) ?_
        refine xa_top (y := mE jo wa sr c2) hcs2.symm ?_
        refine xa_istorew (pc := 91) [some (xa_r k), some (xa_i ((J : Nat) : Int)), some (xa_i (sm_shapes F)), some (xa_i ((kk + 1 : Nat) : Int)), some (xa_i (mE jo wa sr c2)), some (xa_i ((18 + 1 : Nat) : Int)), g6] dX10_freeBy_91 (by decide) (Nat.le_of_ble_eq_true rfl) rfl rfl ?_
        refine xa_iconst (pc := 93) dX10_freeBy_93 ?_
        refine xa_istorew (pc := 94) [some (xa_r k), some (xa_i ((J : Nat) : Int)), some (xa_i (sm_shapes F)), some (xa_i ((kk + 1 : Nat) : Int)), some (xa_i (mE jo wa sr c2)), some (xa_i 1), g6] dX10_freeBy_94 (by decide) (Nat.le_of_ble_eq_true rfl) rfl rfl ?_
        generalize (mq_meets 0 q1 (fa_l ld dg pa jo wa sr ((J : Nat) : Int) c (q1.2.1 kk % 360) 18)) = q2 at hI2 hcs2 c_78 hM0 hM14 hM15
        have hq2 := mq_le hI2.1
        have hm9 : 19 * ((360 * sm_shapes F).toNat - (kk + 1)) + 18 - 0 < d := by omega
        have hk9 : kk + 1 < q2.2.2 := by omega
        exact ih (kk + 1) 0 q2 c2 _ _ hm9 hI2 hk9 hc2 hcs2 (by omega) (by omega) (by omega) hM0 hM1 hM2 hM3 hM4 hM5 hM6 hM7 hM8 hM9 hM10 hM11 hM12 hM13 hM14 hM15 hM16 (fun i hi => (fr i hi).trans (fr0 i hi))
    · skip
      refine xa_iload (pc := 103) dX10_freeBy_103 rfl ?_
      refine xa_iload_n (pc := 105) dX10_freeBy_105 rfl ?_
      refine xa_callS (pc := 106) (as := [xa_i ((n + 1 : Nat) : Int), xa_i ((J : Nat) : Int)]) (rest := []) dX10_freeBy_106 ⟨qX10_isBarred.1, qX10_isBarred.2.1, qX10_isBarred.2.2, by decide, by decide⟩ lkRX10_242 smX10_isBarred rfl rfl (Nat.le_of_ble_eq_true rfl) (Nat.zero_le _) (Nat.zero_le _) (c_barred _ _ (by omega) (J4 hJ)) (fun r h' hq => ?_)
      obtain ⟨rfl, hq⟩ := hq
      have hq := hq.symm
      subst hq
      refine xa_if_eq (pc := 109) (tgt := 117) dX10_freeBy_109 (by decide) xa_okb (fun c_109 => ?_) (fun c_109 => ?_)
      · have c_109 := xa_b0.mp c_109
        refine xa_aload_n (pc := 117) dX10_freeBy_117 rfl ?_
        refine xa_iload (pc := 118) dX10_freeBy_118 rfl ?_
        refine xa_iload (pc := 120) dX10_freeBy_120 rfl ?_
        refine xa_callV (pc := 122) (as := [xa_i (mE jo wa sr c), xa_i ((n + 1 : Nat) : Int)]) (rest := []) dX10_freeBy_122 ⟨qX10_moved.1, qX10_moved.2.1, qX10_moved.2.2, by decide, by decide⟩ lkRX10_173 imX10_moved seX10_moved rfl rfl (by omega) (by omega) hM0 rfl (Nat.le_of_ble_eq_true rfl) (Nat.zero_le _) (Nat.zero_le _) (c_kMoved (F := (xa_uF (xa_uF F 14 ((mq_meets 0 q1 (fa_l ld dg pa jo wa sr ((J : Nat) : Int) c (q1.2.1 kk % 360) n)).1)) 15 ((mq_meets 0 q1 (fa_l ld dg pa jo wa sr ((J : Nat) : Int) c (q1.2.1 kk % 360) n)).2.1))) (s := (xa_upf (xa_upf (xa_upf s 14 0) 20 (-4)) 23 (((mq_meets 0 q1 (fa_l ld dg pa jo wa sr ((J : Nat) : Int) c (q1.2.1 kk % 360) n)).2.2 : Nat) : Int))) ho ⟨hM0, hM1, hM2, hM3, hM4, hM5, hM6, hM7, hM8, hM9, hM10, hM11, hM12, hM13, hM14, hM15, hM16, by omega, by omega⟩ hc ((n + 1 : Nat) : Int) (by omega)) (fun r h' hq => ?_)
        obtain ⟨hq2, hq⟩ := hq
        have hq := hq.symm
        subst hq
        have hq := hq2
        rcases hq with ⟨c', hcm, hc1, rfl⟩ | ⟨hcm, rfl⟩
        · skip
          have mE1 := mE_9 ho.1 ho.2.1 hc1
          refine xa_istorew (pc := 125) [some (xa_r k), some (xa_i ((J : Nat) : Int)), some (xa_i (sm_shapes F)), some (xa_i ((kk : Nat) : Int)), some (xa_i (mE jo wa sr c)), some (xa_i ((n + 1 : Nat) : Int)), some (xa_i (mE jo wa sr c'))] dX10_freeBy_125 (by decide) (Nat.le_of_ble_eq_true rfl) rfl rfl ?_
          refine xa_iload (pc := 127) dX10_freeBy_127 rfl ?_
          refine xa_if_lt (pc := 129) (tgt := 158) dX10_freeBy_129 (by decide) ⟨by omega, by omega⟩ (fun c_129 => ?_) (fun c_129 => ?_)
          · skip
            exfalso; omega
          · skip
            refine xa_aload_n (pc := 132) dX10_freeBy_132 rfl ?_
            refine xa_iload (pc := 133) dX10_freeBy_133 rfl ?_
            refine xa_aload_n (pc := 135) dX10_freeBy_135 rfl ?_
            refine xa_getfield (pc := 136) dX10_freeBy_136 flRX10_57 (by omega) (by omega) hM0 rfl ?_
            refine xa_iload_n (pc := 139) dX10_freeBy_139 rfl ?_
            refine xa_ialdw (pc := 140) kk dX10_freeBy_140 (by omega) hM15 (by omega) (by omega) (Int.toNat_natCast _) ?_
            refine xa_sipush (pc := 141) dX10_freeBy_141 rfl ?_
            refine xa_iremn (pc := 144) dX10_freeBy_144 ⟨by omega, by omega⟩ (by decide) (by omega) (by omega) ?_
            refine xa_top (y := q1.2.1 kk % 360) (by rw [hkeep]) ?_
            refine xa_aload_n (pc := 145) dX10_freeBy_145 rfl ?_
            refine xa_iload (pc := 146) dX10_freeBy_146 rfl ?_
            refine xa_iload (pc := 148) dX10_freeBy_148 rfl ?_
            refine xa_callV (pc := 150) (as := [xa_i (mE jo wa sr c'), xa_i ((n + 1 : Nat) : Int)]) (rest := [xa_i (q1.2.1 kk % 360), xa_i (mE jo wa sr c'), xa_r k]) dX10_freeBy_150 ⟨qX10_turnedBy.1, qX10_turnedBy.2.1, qX10_turnedBy.2.2, by decide, by decide⟩ lkRX10_176 imX10_turnedBy seX10_turnedBy rfl rfl (by omega) (by omega) hM0 rfl (Nat.le_of_ble_eq_true rfl) (Nat.zero_le _) (Nat.zero_le _) (c_kTurned (F := (xa_uF (xa_uF F 14 ((mq_meets 0 q1 (fa_l ld dg pa jo wa sr ((J : Nat) : Int) c (q1.2.1 kk % 360) n)).1)) 15 ((mq_meets 0 q1 (fa_l ld dg pa jo wa sr ((J : Nat) : Int) c (q1.2.1 kk % 360) n)).2.1))) (s := (xa_upf (xa_upf (xa_upf s 14 0) 20 (-4)) 23 (((mq_meets 0 q1 (fa_l ld dg pa jo wa sr ((J : Nat) : Int) c (q1.2.1 kk % 360) n)).2.2 : Nat) : Int))) ho ⟨hM0, hM1, hM2, hM3, hM4, hM5, hM6, hM7, hM8, hM9, hM10, hM11, hM12, hM13, hM14, hM15, hM16, by omega, by omega⟩ hc1 ((n + 1 : Nat) : Int) (by omega) (cf_move_j hcm) (by show (-9999 : Int) ≤ 0 ∧ (0 : Int) ≤ 9999; omega)) (fun r h' hq => ?_)
            obtain ⟨rfl, hq⟩ := hq
            have hq := hq.symm
            subst hq
            refine xa_top (y := cf_turn ld dg pa 0 c' ((n + 1 : Nat) : Int)) rfl ?_
            have tb := cf_turn_b ho.1 hc1 (push := 0) (by omega) ((n + 1 : Nat) : Int)
            refine xa_iadd (pc := 153) dX10_freeBy_153 ?_
            refine xa_iconst (pc := 154) dX10_freeBy_154 ?_
            refine xa_callV (pc := 155) (as := [xa_i (mE jo wa sr c'), xa_i ((q1.2.1 kk % 360) + (cf_turn ld dg pa 0 c' ((n + 1 : Nat) : Int))), xa_i 0]) (rest := []) dX10_freeBy_155 ⟨qX10_meet.1, qX10_meet.2.1, qX10_meet.2.2, by decide, by decide⟩ lkRX10_209 imX10_meet seX10_meet rfl rfl (by omega) (by omega) hM0 rfl (Nat.le_of_ble_eq_true rfl) (Nat.zero_le _) (Nat.zero_le _) (c_mMeet (c := c') (q := (mq_meets 0 q1 (fa_l ld dg pa jo wa sr ((J : Nat) : Int) c (q1.2.1 kk % 360) n))) (N := (360 * sm_shapes F).toNat) _ (sx jo wa sr c' ((q1.2.1 kk % 360 + cf_turn ld dg pa 0 c' ((n + 1 : Nat) : Int)) % 360)) ((q1.2.1 kk % 360) + (cf_turn ld dg pa 0 c' ((n + 1 : Nat) : Int))) 0 F (xa_upf (xa_upf s 14 0) 20 (-4)) ld dg pa jo wa sr pu ri (mE_9 ho.1 ho.2.1 hc1) (by omega) (by have := (sx_lt ho.1 ho.2.1 hc1 (t := ((q1.2.1 kk % 360) + (cf_turn ld dg pa 0 c' ((n + 1 : Nat) : Int))) % 360) (by omega)).2; omega) (sx_lt ho.1 ho.2.1 hc1 (t := ((q1.2.1 kk % 360) + (cf_turn ld dg pa 0 c' ((n + 1 : Nat) : Int))) % 360) (by omega)).1 (by omega) m1 ⟨hM0, hM1, hM2, hM3, hM4, hM5, hM6, hM7, hM8, hM9, hM10, hM11, hM12, hM13, hM14, hM15, hM16, by omega, by omega⟩) (fun r h' hq => ?_)
            obtain ⟨⟨rfl, hM⟩, hqn, hqf⟩ := hq
            have hM : xMq h' k F (xa_upf (xa_upf s 14 0) 20 (-4)) (mq_meets 0 q1 (fa_l ld dg pa jo wa sr ((J : Nat) : Int) c (q1.2.1 kk % 360) (n + 1))) := by rw [fa_y (by omega) hcm, mq_app]; exact hM
            obtain ⟨hM0, hM1, hM2, hM3, hM4, hM5, hM6, hM7, hM8, hM9, hM10, hM11, hM12, hM13, hM14, hM15, hM16, hMk, hMn⟩ := hM
            have hM0 : h'.1 k = xa_o 10 [xa_i (s 0), xa_r (k + 1), xa_r (k + 2), xa_r (k + 3), xa_r (k + 4), xa_r (k + 5), xa_r (k + 6), xa_r (k + 7), xa_r (k + 8), xa_r (k + 9), xa_r (k + 10), xa_r (k + 11), xa_r (k + 12), xa_i (s 13), xa_i 0, xa_i (s 15), xa_r (k + 13), xa_i (s 17), xa_i (s 18), xa_i (s 19), xa_i (-4), xa_r (k + 14), xa_r (k + 15), xa_i (((mq_meets 0 q1 (fa_l ld dg pa jo wa sr ((J : Nat) : Int) c (q1.2.1 kk % 360) (n + 1))).2.2 : Nat) : Int), xa_r (k + 16)] := hM0
            have hM1 : h'.1 (k + 1) = xa_a 120 (F 1) := hM1
            have hM2 : h'.1 (k + 2) = xa_a 2 (F 2) := hM2
            have hM3 : h'.1 (k + 3) = xa_a 18 (F 3) := hM3
            have hM4 : h'.1 (k + 4) = xa_a 2 (F 4) := hM4
            have hM5 : h'.1 (k + 5) = xa_a 4 (F 5) := hM5
            have hM6 : h'.1 (k + 6) = xa_a 4 (F 6) := hM6
            have hM7 : h'.1 (k + 7) = xa_a 2 (F 7) := hM7
            have hM8 : h'.1 (k + 8) = xa_a 2 (F 8) := hM8
            have hM9 : h'.1 (k + 9) = xa_a 12 (F 9) := hM9
            have hM10 : h'.1 (k + 10) = xa_a 720 (F 10) := hM10
            have hM11 : h'.1 (k + 11) = xa_a 3 (F 11) := hM11
            have hM12 : h'.1 (k + 12) = xa_a 360 (F 12) := hM12
            have hM13 : h'.1 (k + 13) = xa_a 3 (F 13) := hM13
            have hM14 : h'.1 (k + 14) = xa_a 583200 ((mq_meets 0 q1 (fa_l ld dg pa jo wa sr ((J : Nat) : Int) c (q1.2.1 kk % 360) (n + 1))).1) := hM14
            have hM15 : h'.1 (k + 15) = xa_a 583200 ((mq_meets 0 q1 (fa_l ld dg pa jo wa sr ((J : Nat) : Int) c (q1.2.1 kk % 360) (n + 1))).2.1) := hM15
            have hM16 : h'.1 (k + 16) = xa_a 4 (F 16) := hM16
            have hn : h'.2 = h.2 := hqn.trans hn
            have fr : ∀ i, (i < k ∨ k + 17 ≤ i) → h'.1 i = h.1 i := fun i hi => (hqf i (by omega)).trans (fr i hi)
            refine xa_iincw (pc := 158) (y := ((n + 1 + 1 : Nat) : Int)) [some (xa_r k), some (xa_i ((J : Nat) : Int)), some (xa_i (sm_shapes F)), some (xa_i ((kk : Nat) : Int)), some (xa_i (mE jo wa sr c)), some (xa_i ((n + 1 + 1 : Nat) : Int)), some (xa_i (mE jo wa sr c'))] dX10_freeBy_158 (by decide) rfl rfl (by omega) rfl ?_
            refine xa_goto (pc := 161) (tgt := 96) dX10_freeBy_161 (by decide) ?_
            exact ih kk (n + 1) q1 c _ _ (by omega) hI hkk hc hcs (by omega) (by omega) (by omega) hM0 hM1 hM2 hM3 hM4 hM5 hM6 hM7 hM8 hM9 hM10 hM11 hM12 hM13 hM14 hM15 hM16 (fun i hi => (fr i hi).trans (fr0 i hi))
        · skip
          refine xa_istorew (pc := 125) [some (xa_r k), some (xa_i ((J : Nat) : Int)), some (xa_i (sm_shapes F)), some (xa_i ((kk : Nat) : Int)), some (xa_i (mE jo wa sr c)), some (xa_i ((n + 1 : Nat) : Int)), some (xa_i (-4))] dX10_freeBy_125 (by decide) (Nat.le_of_ble_eq_true rfl) rfl rfl ?_
          refine xa_iload (pc := 127) dX10_freeBy_127 rfl ?_
          refine xa_if_lt (pc := 129) (tgt := 158) dX10_freeBy_129 (by decide) (by decide) (fun c_129 => ?_) (fun c_129 => ?_)
          · skip
            refine xa_iincw (pc := 158) (y := ((n + 1 + 1 : Nat) : Int)) [some (xa_r k), some (xa_i ((J : Nat) : Int)), some (xa_i (sm_shapes F)), some (xa_i ((kk : Nat) : Int)), some (xa_i (mE jo wa sr c)), some (xa_i ((n + 1 + 1 : Nat) : Int)), some (xa_i (-4))] dX10_freeBy_158 (by decide) rfl rfl (by omega) rfl ?_
            refine xa_goto (pc := 161) (tgt := 96) dX10_freeBy_161 (by decide) ?_
            have efa := fa_n (ld := ld) (dg := dg) (pa := pa) (jo := jo) (wa := wa) (sr := sr) (J := ((J : Nat) : Int)) (c := c) (t := q1.2.1 kk % 360) (n := n) (by first | exact Or.inr hcm | exact Or.inl c_109)
            rw [← efa] at hM0 hM14 hM15
            exact ih kk (n + 1) q1 c _ _ (by omega) hI hkk hc hcs (by omega) (by omega) (by omega) hM0 hM1 hM2 hM3 hM4 hM5 hM6 hM7 hM8 hM9 hM10 hM11 hM12 hM13 hM14 hM15 hM16 (fun i hi => (fr i hi).trans (fr0 i hi))
          · skip
            exfalso; omega
      · have c_109 := xa_b1.mp c_109
        refine xa_bipush (pc := 112) dX10_freeBy_112 rfl ?_
        refine xa_goto (pc := 114) (tgt := 125) dX10_freeBy_114 (by decide) ?_
        refine xa_istorew (pc := 125) [some (xa_r k), some (xa_i ((J : Nat) : Int)), some (xa_i (sm_shapes F)), some (xa_i ((kk : Nat) : Int)), some (xa_i (mE jo wa sr c)), some (xa_i ((n + 1 : Nat) : Int)), some (xa_i (-4))] dX10_freeBy_125 (by decide) (Nat.le_of_ble_eq_true rfl) rfl rfl ?_
        refine xa_iload (pc := 127) dX10_freeBy_127 rfl ?_
        refine xa_if_lt (pc := 129) (tgt := 158) dX10_freeBy_129 (by decide) (by decide) (fun c_129 => ?_) (fun c_129 => ?_)
        · skip
          refine xa_iincw (pc := 158) (y := ((n + 1 + 1 : Nat) : Int)) [some (xa_r k), some (xa_i ((J : Nat) : Int)), some (xa_i (sm_shapes F)), some (xa_i ((kk : Nat) : Int)), some (xa_i (mE jo wa sr c)), some (xa_i ((n + 1 + 1 : Nat) : Int)), some (xa_i (-4))] dX10_freeBy_158 (by decide) rfl rfl (by omega) rfl ?_
          refine xa_goto (pc := 161) (tgt := 96) dX10_freeBy_161 (by decide) ?_
          have efa := fa_n (ld := ld) (dg := dg) (pa := pa) (jo := jo) (wa := wa) (sr := sr) (J := ((J : Nat) : Int)) (c := c) (t := q1.2.1 kk % 360) (n := n) (by first | exact Or.inr hcm | exact Or.inl c_109)
          rw [← efa] at hM0 hM14 hM15
          exact ih kk (n + 1) q1 c _ _ (by omega) hI hkk hc hcs (by omega) (by omega) (by omega) hM0 hM1 hM2 hM3 hM4 hM5 hM6 hM7 hM8 hM9 hM10 hM11 hM12 hM13 hM14 hM15 hM16 (fun i hi => (fr i hi).trans (fr0 i hi))
        · skip
          exfalso; omega
theorem c_mFree_a {G : xa_G} {h0 : xa_H} {k J : Nat} {F : Nat → Nat → Int} {s : Nat → Int} {ld dg : Nat → Int} {pa jo : Nat} {wa sr pu ri : Int} (hk : 2 ≤ k) (hJ : J < 4) (ho : mOk F ld dg pa jo wa sr pu ri) : ∀ (d : Nat) (i : Nat) (g4 g5 g6 : Option xa_V) (h : xa_H), (360 * sm_shapes F).toNat - i < d → (i ≤ (360 * sm_shapes F).toNat) → (h.2 = h0.2) → (k + 16 < h.2) → (h.1 k = xa_o 10 [xa_i (s 0), xa_r (k + 1), xa_r (k + 2), xa_r (k + 3), xa_r (k + 4), xa_r (k + 5), xa_r (k + 6), xa_r (k + 7), xa_r (k + 8), xa_r (k + 9), xa_r (k + 10), xa_r (k + 11), xa_r (k + 12), xa_i (s 13), xa_i 0, xa_i (s 15), xa_r (k + 13), xa_i (s 17), xa_i (s 18), xa_i (s 19), xa_i (-4), xa_r (k + 14), xa_r (k + 15), xa_i 0, xa_r (k + 16)]) → (h.1 (k + 1) = xa_a 120 (F 1)) → (h.1 (k + 2) = xa_a 2 (F 2)) → (h.1 (k + 3) = xa_a 18 (F 3)) → (h.1 (k + 4) = xa_a 2 (F 4)) → (h.1 (k + 5) = xa_a 4 (F 5)) → (h.1 (k + 6) = xa_a 4 (F 6)) → (h.1 (k + 7) = xa_a 2 (F 7)) → (h.1 (k + 8) = xa_a 2 (F 8)) → (h.1 (k + 9) = xa_a 12 (F 9)) → (h.1 (k + 10) = xa_a 720 (F 10)) → (h.1 (k + 11) = xa_a 3 (F 11)) → (h.1 (k + 12) = xa_a 360 (F 12)) → (h.1 (k + 13) = xa_a 3 (F 13)) → (h.1 (k + 14) = xa_a 583200 (xa_fl (F 14) i (-1))) → (h.1 (k + 15) = xa_a 583200 (F 15)) → (h.1 (k + 16) = xa_a 4 (F 16)) → (∀ i, (i < k ∨ k + 17 ≤ i) → h.1 i = h0.1 i) → xa_W G mX10_freeBy (xa_Z G (fun r h' => (∃ (r0 : Int) (T Q : Nat → Int) (x : Int), r = some (xa_i r0) ∧ (0 ≤ r0 ∧ r0 ≤ 360) ∧ fr_is ld dg pa jo wa sr ((J : Nat) : Int) r0 ∧ xM h' k (xa_uF (xa_uF (xa_uF F 14 T) 15 Q) 16 (xa_upf (F 16) J r0)) (xa_upf (xa_upf (xa_upf s 14 0) 20 (-4)) 23 x)) ∧ h'.2 = h0.2 ∧ ∀ i, (i < k ∨ k + 17 ≤ i) → h'.1 i = h0.1 i)) 39 [some (xa_r k), some (xa_i ((J : Nat) : Int)), some (xa_i (sm_shapes F)), some (xa_i ((i : Nat) : Int)), g4, g5, g6] [] h 0 0 := by
  intro d
  induction d with
  | zero => intros; exfalso; omega
  | succ d ih =>
    intro i g4 g5 g6 h hd hi hn0 hkn hM0 hM1 hM2 hM3 hM4 hM5 hM6 hM7 hM8 hM9 hM10 hM11 hM12 hM13 hM14 hM15 hM16 fr0
    have hn : h.2 = h.2 := rfl
    have fr : ∀ i, (i < k ∨ k + 17 ≤ i) → h.1 i = h.1 i := fun _ _ => rfl
    have hsh := sm_shapes_b ho.1 ho.2.1
    have hcr := cf_rest_ok ho.1
    have hrt := sx_lt ho.1 ho.2.1 hcr (t := 0) (by omega)
    refine xa_iload_n (pc := 39) dX10_freeBy_39 rfl ?_
    refine xa_sipush (pc := 40) dX10_freeBy_40 rfl ?_
    refine xa_iload_n (pc := 43) dX10_freeBy_43 rfl ?_
    refine xa_imul (pc := 44) dX10_freeBy_44 ?_
    refine xa_icmp_ge (pc := 45) (tgt := 61) dX10_freeBy_45 (by decide) ⟨by omega, by omega⟩ ⟨by omega, by omega⟩ (fun c_45 => ?_) (fun c_45 => ?_)
    · skip
      have hi9 : i = (360 * sm_shapes F).toNat := by omega
      refine xa_aload_n (pc := 61) dX10_freeBy_61 rfl ?_
      refine xa_aload_n (pc := 62) dX10_freeBy_62 rfl ?_
      refine xa_callV (pc := 63) (as := []) (rest := [xa_r k]) dX10_freeBy_63 ⟨qX10_rest.1, qX10_rest.2.1, qX10_rest.2.2, by decide, by decide⟩ lkRX10_161 imX10_rest seX10_rest rfl rfl (by omega) (by omega) hM0 rfl (Nat.le_of_ble_eq_true rfl) (Nat.zero_le _) (Nat.zero_le _) (c_kRest (F := (xa_uF F 14 (xa_fl (F 14) i (-1)))) (s := (xa_upf (xa_upf (xa_upf s 14 0) 20 (-4)) 23 0)) ho ⟨hM0, hM1, hM2, hM3, hM4, hM5, hM6, hM7, hM8, hM9, hM10, hM11, hM12, hM13, hM14, hM15, hM16, by omega, by omega⟩) (fun r h' hq => ?_)
      obtain ⟨rfl, hq⟩ := hq
      have hq := hq.symm
      subst hq
      refine xa_iconst (pc := 66) dX10_freeBy_66 ?_
      refine xa_iconst (pc := 67) dX10_freeBy_67 ?_
      refine xa_callV (pc := 68) (as := [xa_i (mE jo wa sr (cf_rest pa)), xa_i 0, xa_i 0]) (rest := []) dX10_freeBy_68 ⟨qX10_meet.1, qX10_meet.2.1, qX10_meet.2.2, by decide, by decide⟩ lkRX10_209 imX10_meet seX10_meet rfl rfl (by omega) (by omega) hM0 rfl (Nat.le_of_ble_eq_true rfl) (Nat.zero_le _) (Nat.zero_le _) (c_mMeet (c := cf_rest pa) (q := (xa_fl (F 14) i (-1), F 15, 0)) (N := (360 * sm_shapes F).toNat) _ (sx jo wa sr (cf_rest pa) 0) 0 0 F (xa_upf (xa_upf s 14 0) 20 (-4)) ld dg pa jo wa sr pu ri (mE_9 ho.1 ho.2.1 hcr) (by omega) (by omega) hrt.1 (by omega) ⟨fun i hi => absurd hi (Nat.not_lt_zero _), fun i j _ hj => absurd hj (Nat.not_lt_zero _), fun x x1 x2 => by have e := xa_fl_lt (F 14) (-1) (show x < i by omega); have x2 : 0 ≤ xa_fl (F 14) i (-1) x := x2; omega, fun x x1 => by have e := xa_fl_lt (F 14) (-1) (show x < i by omega); show -1 ≤ xa_fl (F 14) i (-1) x; omega⟩ ⟨hM0, hM1, hM2, hM3, hM4, hM5, hM6, hM7, hM8, hM9, hM10, hM11, hM12, hM13, hM14, hM15, hM16, by omega, by omega⟩) (fun r h' hq => ?_)
      obtain ⟨⟨rfl, hM⟩, hqn, hqf⟩ := hq
      have hIs : mc_I (360 * sm_shapes F).toNat (sx jo wa sr (cf_rest pa) 0) (fR ld dg pa jo wa sr ((J : Nat) : Int)) (mq_meet 0 (xa_fl (F 14) i (-1), F 15, 0) (sx jo wa sr (cf_rest pa) 0)) 0 := mc_start hrt.1 _ _ (fun x hx => xa_fl_lt _ _ (by omega))
      have hq0 : (mq_meet 0 (xa_fl (F 14) i (-1), F 15, 0) (sx jo wa sr (cf_rest pa) 0)).2.1 0 = ((sx jo wa sr (cf_rest pa) 0) : Int) ∧ 0 < (mq_meet 0 (xa_fl (F 14) i (-1), F 15, 0) (sx jo wa sr (cf_rest pa) 0)).2.2 := by unfold mq_meet; rw [if_pos (by show xa_fl (F 14) i (-1) (sx jo wa sr (cf_rest pa) 0) < 0; rw [xa_fl_lt _ _ (by omega)]; decide)]; exact ⟨xa_upf_at (F 15) 0 _, Nat.zero_lt_succ _⟩
      generalize mq_meet 0 (xa_fl (F 14) i (-1), F 15, 0) (sx jo wa sr (cf_rest pa) 0) = qs at hIs hq0 hM
      have hqle := mq_le hIs.1
      obtain ⟨hM0, hM1, hM2, hM3, hM4, hM5, hM6, hM7, hM8, hM9, hM10, hM11, hM12, hM13, hM14, hM15, hM16, hMk, hMn⟩ := hM
      have hM0 : h'.1 k = xa_o 10 [xa_i (s 0), xa_r (k + 1), xa_r (k + 2), xa_r (k + 3), xa_r (k + 4), xa_r (k + 5), xa_r (k + 6), xa_r (k + 7), xa_r (k + 8), xa_r (k + 9), xa_r (k + 10), xa_r (k + 11), xa_r (k + 12), xa_i (s 13), xa_i 0, xa_i (s 15), xa_r (k + 13), xa_i (s 17), xa_i (s 18), xa_i (s 19), xa_i (-4), xa_r (k + 14), xa_r (k + 15), xa_i ((qs.2.2 : Nat) : Int), xa_r (k + 16)] := hM0
      have hM1 : h'.1 (k + 1) = xa_a 120 (F 1) := hM1
      have hM2 : h'.1 (k + 2) = xa_a 2 (F 2) := hM2
      have hM3 : h'.1 (k + 3) = xa_a 18 (F 3) := hM3
      have hM4 : h'.1 (k + 4) = xa_a 2 (F 4) := hM4
      have hM5 : h'.1 (k + 5) = xa_a 4 (F 5) := hM5
      have hM6 : h'.1 (k + 6) = xa_a 4 (F 6) := hM6
      have hM7 : h'.1 (k + 7) = xa_a 2 (F 7) := hM7
      have hM8 : h'.1 (k + 8) = xa_a 2 (F 8) := hM8
      have hM9 : h'.1 (k + 9) = xa_a 12 (F 9) := hM9
      have hM10 : h'.1 (k + 10) = xa_a 720 (F 10) := hM10
      have hM11 : h'.1 (k + 11) = xa_a 3 (F 11) := hM11
      have hM12 : h'.1 (k + 12) = xa_a 360 (F 12) := hM12
      have hM13 : h'.1 (k + 13) = xa_a 3 (F 13) := hM13
      have hM14 : h'.1 (k + 14) = xa_a 583200 qs.1 := hM14
      have hM15 : h'.1 (k + 15) = xa_a 583200 qs.2.1 := hM15
      have hM16 : h'.1 (k + 16) = xa_a 4 (F 16) := hM16
      have hn : h'.2 = h.2 := hqn.trans hn
      have fr : ∀ i, (i < k ∨ k + 17 ≤ i) → h'.1 i = h.1 i := fun i hi => (hqf i (by omega)).trans (fr i hi)
      refine xa_iconst (pc := 71) dX10_freeBy_71 ?_
      refine xa_istoren (pc := 72) [some (xa_r k), some (xa_i ((J : Nat) : Int)), some (xa_i (sm_shapes F)), some (xa_i 0), g4, g5, g6] dX10_freeBy_72 (by decide) (Nat.le_of_ble_eq_true rfl) rfl rfl ?_
      refine xa_iload_n (pc := 73) dX10_freeBy_73 rfl ?_
      refine xa_aload_n (pc := 74) dX10_freeBy_74 rfl ?_
      refine xa_getfield (pc := 75) dX10_freeBy_75 flRX10_206 (by omega) (by omega) hM0 rfl ?_
      refine xa_icmp_ge (pc := 78) (tgt := 170) dX10_freeBy_78 (by decide) (by decide) ⟨by omega, by omega⟩ (fun c_78 => ?_) (fun c_78 => ?_)
      · skip
        exfalso; omega
      · skip
        refine xa_aload_n (pc := 81) dX10_freeBy_81 rfl ?_
        refine xa_getfield (pc := 82) dX10_freeBy_82 flRX10_57 (by omega) (by omega) hM0 rfl ?_
        refine xa_iload_n (pc := 85) dX10_freeBy_85 rfl ?_
        refine xa_ialdw (pc := 86) 0 dX10_freeBy_86 (by omega) hM15 (by omega) (by omega) rfl ?_
        refine xa_sipush (pc := 87) dX10_freeBy_87 rfl ?_
        refine xa_idivn (pc := 90) dX10_freeBy_90 ⟨by omega, by omega⟩ (by decide) (by omega) (by omega) ?_
        have eA : qs.2.1 0 / 360 = mE jo wa sr (cf_rest pa) := by have := hrt.2; omega
        refine xa_top (y := mE jo wa sr (cf_rest pa)) eA ?_
        refine xa_istorew (pc := 91) [some (xa_r k), some (xa_i ((J : Nat) : Int)), some (xa_i (sm_shapes F)), some (xa_i 0), some (xa_i (mE jo wa sr (cf_rest pa))), g5, g6] dX10_freeBy_91 (by decide) (Nat.le_of_ble_eq_true rfl) rfl rfl ?_
        refine xa_iconst (pc := 93) dX10_freeBy_93 ?_
        refine xa_istorew (pc := 94) [some (xa_r k), some (xa_i ((J : Nat) : Int)), some (xa_i (sm_shapes F)), some (xa_i 0), some (xa_i (mE jo wa sr (cf_rest pa))), some (xa_i 1), g6] dX10_freeBy_94 (by decide) (Nat.le_of_ble_eq_true rfl) rfl rfl ?_
        exact c_mFree_b hk hJ ho (19 * (360 * sm_shapes F).toNat + 19) 0 0 qs (cf_rest pa) _ _ (by omega) hIs (by omega) hcr eA.symm (by omega) (by omega) (by omega) hM0 hM1 hM2 hM3 hM4 hM5 hM6 hM7 hM8 hM9 hM10 hM11 hM12 hM13 hM14 hM15 hM16 (fun i hi => (fr i hi).trans (fr0 i hi))
    · skip
      refine xa_aload_n (pc := 48) dX10_freeBy_48 rfl ?_
      refine xa_getfield (pc := 49) dX10_freeBy_49 flRX10_54 (by omega) (by omega) hM0 rfl ?_
      refine xa_iload_n (pc := 52) dX10_freeBy_52 rfl ?_
      refine xa_iconst (pc := 53) dX10_freeBy_53 ?_
      refine xa_iastw (pc := 54) i dX10_freeBy_54 (by omega) (by omega) hM14 (by omega) (by omega) (by omega) (fun h1 nh1 ch1 oh1 => ?_)
      have hM14 : h1.1 (k + 14) = xa_a 583200 (xa_upf (xa_fl (F 14) i (-1)) i (-1)) := ch1
      have hM0 : h1.1 k = xa_o 10 [xa_i (s 0), xa_r (k + 1), xa_r (k + 2), xa_r (k + 3), xa_r (k + 4), xa_r (k + 5), xa_r (k + 6), xa_r (k + 7), xa_r (k + 8), xa_r (k + 9), xa_r (k + 10), xa_r (k + 11), xa_r (k + 12), xa_i (s 13), xa_i 0, xa_i (s 15), xa_r (k + 13), xa_i (s 17), xa_i (s 18), xa_i (s 19), xa_i (-4), xa_r (k + 14), xa_r (k + 15), xa_i 0, xa_r (k + 16)] := (oh1 _ (by omega)).trans hM0
      have hM1 : h1.1 (k + 1) = xa_a 120 (F 1) := (oh1 _ (by omega)).trans hM1
      have hM2 : h1.1 (k + 2) = xa_a 2 (F 2) := (oh1 _ (by omega)).trans hM2
      have hM3 : h1.1 (k + 3) = xa_a 18 (F 3) := (oh1 _ (by omega)).trans hM3
      have hM4 : h1.1 (k + 4) = xa_a 2 (F 4) := (oh1 _ (by omega)).trans hM4
      have hM5 : h1.1 (k + 5) = xa_a 4 (F 5) := (oh1 _ (by omega)).trans hM5
      have hM6 : h1.1 (k + 6) = xa_a 4 (F 6) := (oh1 _ (by omega)).trans hM6
      have hM7 : h1.1 (k + 7) = xa_a 2 (F 7) := (oh1 _ (by omega)).trans hM7
      have hM8 : h1.1 (k + 8) = xa_a 2 (F 8) := (oh1 _ (by omega)).trans hM8
      have hM9 : h1.1 (k + 9) = xa_a 12 (F 9) := (oh1 _ (by omega)).trans hM9
      have hM10 : h1.1 (k + 10) = xa_a 720 (F 10) := (oh1 _ (by omega)).trans hM10
      have hM11 : h1.1 (k + 11) = xa_a 3 (F 11) := (oh1 _ (by omega)).trans hM11
      have hM12 : h1.1 (k + 12) = xa_a 360 (F 12) := (oh1 _ (by omega)).trans hM12
      have hM13 : h1.1 (k + 13) = xa_a 3 (F 13) := (oh1 _ (by omega)).trans hM13
      have hM15 : h1.1 (k + 15) = xa_a 583200 (F 15) := (oh1 _ (by omega)).trans hM15
      have hM16 : h1.1 (k + 16) = xa_a 4 (F 16) := (oh1 _ (by omega)).trans hM16
      have hn : h1.2 = h.2 := nh1.trans hn
      have fr : ∀ i, (i < k ∨ k + 17 ≤ i) → h1.1 i = h.1 i := fun i hi => (oh1 i (by omega)).trans (fr i hi)
      refine xa_iincw (pc := 55) (y := ((i + 1 : Nat) : Int)) [some (xa_r k), some (xa_i ((J : Nat) : Int)), some (xa_i (sm_shapes F)), some (xa_i ((i + 1 : Nat) : Int)), g4, g5, g6] dX10_freeBy_55 (by decide) rfl rfl (by omega) rfl ?_
      refine xa_goto (pc := 58) (tgt := 39) dX10_freeBy_58 (by decide) ?_
      rw [xa_fl_s] at hM14
      exact ih (i + 1) _ _ _ _ (by omega) (by omega) (by omega) (by omega) hM0 hM1 hM2 hM3 hM4 hM5 hM6 hM7 hM8 hM9 hM10 hM11 hM12 hM13 hM14 hM15 hM16 (fun i hi => (fr i hi).trans (fr0 i hi))
theorem c_mFreeBy {G : xa_G} {h : xa_H} (k J : Nat) (F : Nat → Nat → Int) (s : Nat → Int) (ld dg : Nat → Int) (pa jo : Nat) (wa sr pu ri : Int) (hJ : J < 4) (ho : mOk F ld dg pa jo wa sr pu ri) (hl : mLi F s ld dg pa jo wa sr pu ri) (hfre : mFre F ld dg pa jo wa sr) (hM : xM h k F s)  : xa_M G mX10_freeBy [xa_r k, xa_i ((J : Nat) : Int)] h 0 0 (fun r h' => (∃ (r0 : Int) (F' : Nat → Nat → Int) (s' : Nat → Int), r = some (xa_i r0) ∧ (0 ≤ r0 ∧ r0 ≤ 360) ∧ fr_is ld dg pa jo wa sr ((J : Nat) : Int) r0 ∧ mSim3 F F' s s' ∧ mLi F' s' ld dg pa jo wa sr pu ri ∧ mFre F' ld dg pa jo wa sr ∧ xM h' k F' s') ∧ h'.2 = h.2 ∧ ∀ i, (i < k ∨ k + 17 ≤ i) → h'.1 i = h.1 i) := by
  refine xa_enter (by decide +kernel) (Nat.le_of_ble_eq_true rfl) ?_
  refine xa_locals (ls' := [some (xa_r k), some (xa_i ((J : Nat) : Int)), none, none, none, none, none]) rfl ?_
  have hn : h.2 = h.2 := rfl
  have fr : ∀ i, (i < k ∨ k + 17 ≤ i) → h.1 i = h.1 i := fun _ _ => rfl
  obtain ⟨hM0, hM1, hM2, hM3, hM4, hM5, hM6, hM7, hM8, hM9, hM10, hM11, hM12, hM13, hM14, hM15, hM16, hMk, hMn⟩ := hM
  have hsh := sm_shapes_b ho.1 ho.2.1
  refine xa_aload_n (pc := 0) dX10_freeBy_0 rfl ?_
  refine xa_getfield (pc := 1) dX10_freeBy_1 flRX10_60 (by omega) (by omega) hM0 rfl ?_
  refine xa_iload_n (pc := 4) dX10_freeBy_4 rfl ?_
  refine xa_ialdw (pc := 5) J dX10_freeBy_5 (by omega) hM16 (by omega) (by omega) (Int.toNat_natCast _) ?_
  have fb_5 := (hfre J hJ).1
  refine xa_if_le (pc := 6) (tgt := 16) dX10_freeBy_6 (by decide) ⟨by omega, by omega⟩ (fun c_6 => ?_) (fun c_6 => ?_)
  · skip
    refine xa_aload_n (pc := 16) dX10_freeBy_16 rfl ?_
    refine xa_bipush (pc := 17) dX10_freeBy_17 rfl ?_
    refine xa_putw (pc := 19) [xa_i (s 0), xa_r (k + 1), xa_r (k + 2), xa_r (k + 3), xa_r (k + 4), xa_r (k + 5), xa_r (k + 6), xa_r (k + 7), xa_r (k + 8), xa_r (k + 9), xa_r (k + 10), xa_r (k + 11), xa_r (k + 12), xa_i (s 13), xa_i (s 14), xa_i (s 15), xa_r (k + 13), xa_i (s 17), xa_i (s 18), xa_i (s 19), xa_i (-4), xa_r (k + 14), xa_r (k + 15), xa_i (s 23), xa_r (k + 16)] dX10_freeBy_19 flRX10_49 plX10_20 (by omega) (by omega) hM0 trivial rfl (fun h1 nh1 ch1 oh1 => ?_)
    have hM0 : h1.1 k = xa_o 10 [xa_i (s 0), xa_r (k + 1), xa_r (k + 2), xa_r (k + 3), xa_r (k + 4), xa_r (k + 5), xa_r (k + 6), xa_r (k + 7), xa_r (k + 8), xa_r (k + 9), xa_r (k + 10), xa_r (k + 11), xa_r (k + 12), xa_i (s 13), xa_i (s 14), xa_i (s 15), xa_r (k + 13), xa_i (s 17), xa_i (s 18), xa_i (s 19), xa_i (-4), xa_r (k + 14), xa_r (k + 15), xa_i (s 23), xa_r (k + 16)] := ch1
    have hM1 : h1.1 (k + 1) = xa_a 120 (F 1) := (oh1 _ (by omega)).trans hM1
    have hM2 : h1.1 (k + 2) = xa_a 2 (F 2) := (oh1 _ (by omega)).trans hM2
    have hM3 : h1.1 (k + 3) = xa_a 18 (F 3) := (oh1 _ (by omega)).trans hM3
    have hM4 : h1.1 (k + 4) = xa_a 2 (F 4) := (oh1 _ (by omega)).trans hM4
    have hM5 : h1.1 (k + 5) = xa_a 4 (F 5) := (oh1 _ (by omega)).trans hM5
    have hM6 : h1.1 (k + 6) = xa_a 4 (F 6) := (oh1 _ (by omega)).trans hM6
    have hM7 : h1.1 (k + 7) = xa_a 2 (F 7) := (oh1 _ (by omega)).trans hM7
    have hM8 : h1.1 (k + 8) = xa_a 2 (F 8) := (oh1 _ (by omega)).trans hM8
    have hM9 : h1.1 (k + 9) = xa_a 12 (F 9) := (oh1 _ (by omega)).trans hM9
    have hM10 : h1.1 (k + 10) = xa_a 720 (F 10) := (oh1 _ (by omega)).trans hM10
    have hM11 : h1.1 (k + 11) = xa_a 3 (F 11) := (oh1 _ (by omega)).trans hM11
    have hM12 : h1.1 (k + 12) = xa_a 360 (F 12) := (oh1 _ (by omega)).trans hM12
    have hM13 : h1.1 (k + 13) = xa_a 3 (F 13) := (oh1 _ (by omega)).trans hM13
    have hM14 : h1.1 (k + 14) = xa_a 583200 (F 14) := (oh1 _ (by omega)).trans hM14
    have hM15 : h1.1 (k + 15) = xa_a 583200 (F 15) := (oh1 _ (by omega)).trans hM15
    have hM16 : h1.1 (k + 16) = xa_a 4 (F 16) := (oh1 _ (by omega)).trans hM16
    have hn : h1.2 = h.2 := nh1.trans hn
    have fr : ∀ i, (i < k ∨ k + 17 ≤ i) → h1.1 i = h.1 i := fun i hi => (oh1 i (by omega)).trans (fr i hi)
    refine xa_aload_n (pc := 22) dX10_freeBy_22 rfl ?_
    refine xa_iconst (pc := 23) dX10_freeBy_23 ?_
    refine xa_putw (pc := 24) [xa_i (s 0), xa_r (k + 1), xa_r (k + 2), xa_r (k + 3), xa_r (k + 4), xa_r (k + 5), xa_r (k + 6), xa_r (k + 7), xa_r (k + 8), xa_r (k + 9), xa_r (k + 10), xa_r (k + 11), xa_r (k + 12), xa_i (s 13), xa_i 0, xa_i (s 15), xa_r (k + 13), xa_i (s 17), xa_i (s 18), xa_i (s 19), xa_i (-4), xa_r (k + 14), xa_r (k + 15), xa_i (s 23), xa_r (k + 16)] dX10_freeBy_24 flRX10_149 plX10_14 (by omega) (by omega) hM0 trivial rfl (fun h2 nh2 ch2 oh2 => ?_)
    have hM0 : h2.1 k = xa_o 10 [xa_i (s 0), xa_r (k + 1), xa_r (k + 2), xa_r (k + 3), xa_r (k + 4), xa_r (k + 5), xa_r (k + 6), xa_r (k + 7), xa_r (k + 8), xa_r (k + 9), xa_r (k + 10), xa_r (k + 11), xa_r (k + 12), xa_i (s 13), xa_i 0, xa_i (s 15), xa_r (k + 13), xa_i (s 17), xa_i (s 18), xa_i (s 19), xa_i (-4), xa_r (k + 14), xa_r (k + 15), xa_i (s 23), xa_r (k + 16)] := ch2
    have hM1 : h2.1 (k + 1) = xa_a 120 (F 1) := (oh2 _ (by omega)).trans hM1
    have hM2 : h2.1 (k + 2) = xa_a 2 (F 2) := (oh2 _ (by omega)).trans hM2
    have hM3 : h2.1 (k + 3) = xa_a 18 (F 3) := (oh2 _ (by omega)).trans hM3
    have hM4 : h2.1 (k + 4) = xa_a 2 (F 4) := (oh2 _ (by omega)).trans hM4
    have hM5 : h2.1 (k + 5) = xa_a 4 (F 5) := (oh2 _ (by omega)).trans hM5
    have hM6 : h2.1 (k + 6) = xa_a 4 (F 6) := (oh2 _ (by omega)).trans hM6
    have hM7 : h2.1 (k + 7) = xa_a 2 (F 7) := (oh2 _ (by omega)).trans hM7
    have hM8 : h2.1 (k + 8) = xa_a 2 (F 8) := (oh2 _ (by omega)).trans hM8
    have hM9 : h2.1 (k + 9) = xa_a 12 (F 9) := (oh2 _ (by omega)).trans hM9
    have hM10 : h2.1 (k + 10) = xa_a 720 (F 10) := (oh2 _ (by omega)).trans hM10
    have hM11 : h2.1 (k + 11) = xa_a 3 (F 11) := (oh2 _ (by omega)).trans hM11
    have hM12 : h2.1 (k + 12) = xa_a 360 (F 12) := (oh2 _ (by omega)).trans hM12
    have hM13 : h2.1 (k + 13) = xa_a 3 (F 13) := (oh2 _ (by omega)).trans hM13
    have hM14 : h2.1 (k + 14) = xa_a 583200 (F 14) := (oh2 _ (by omega)).trans hM14
    have hM15 : h2.1 (k + 15) = xa_a 583200 (F 15) := (oh2 _ (by omega)).trans hM15
    have hM16 : h2.1 (k + 16) = xa_a 4 (F 16) := (oh2 _ (by omega)).trans hM16
    have hn : h2.2 = h.2 := nh2.trans hn
    have fr : ∀ i, (i < k ∨ k + 17 ≤ i) → h2.1 i = h.1 i := fun i hi => (oh2 i (by omega)).trans (fr i hi)
    refine xa_aload_n (pc := 27) dX10_freeBy_27 rfl ?_
    refine xa_iconst (pc := 28) dX10_freeBy_28 ?_
    refine xa_putw (pc := 29) [xa_i (s 0), xa_r (k + 1), xa_r (k + 2), xa_r (k + 3), xa_r (k + 4), xa_r (k + 5), xa_r (k + 6), xa_r (k + 7), xa_r (k + 8), xa_r (k + 9), xa_r (k + 10), xa_r (k + 11), xa_r (k + 12), xa_i (s 13), xa_i 0, xa_i (s 15), xa_r (k + 13), xa_i (s 17), xa_i (s 18), xa_i (s 19), xa_i (-4), xa_r (k + 14), xa_r (k + 15), xa_i 0, xa_r (k + 16)] dX10_freeBy_29 flRX10_206 plX10_23 (by omega) (by omega) hM0 trivial rfl (fun h3 nh3 ch3 oh3 => ?_)
    have hM0 : h3.1 k = xa_o 10 [xa_i (s 0), xa_r (k + 1), xa_r (k + 2), xa_r (k + 3), xa_r (k + 4), xa_r (k + 5), xa_r (k + 6), xa_r (k + 7), xa_r (k + 8), xa_r (k + 9), xa_r (k + 10), xa_r (k + 11), xa_r (k + 12), xa_i (s 13), xa_i 0, xa_i (s 15), xa_r (k + 13), xa_i (s 17), xa_i (s 18), xa_i (s 19), xa_i (-4), xa_r (k + 14), xa_r (k + 15), xa_i 0, xa_r (k + 16)] := ch3
    have hM1 : h3.1 (k + 1) = xa_a 120 (F 1) := (oh3 _ (by omega)).trans hM1
    have hM2 : h3.1 (k + 2) = xa_a 2 (F 2) := (oh3 _ (by omega)).trans hM2
    have hM3 : h3.1 (k + 3) = xa_a 18 (F 3) := (oh3 _ (by omega)).trans hM3
    have hM4 : h3.1 (k + 4) = xa_a 2 (F 4) := (oh3 _ (by omega)).trans hM4
    have hM5 : h3.1 (k + 5) = xa_a 4 (F 5) := (oh3 _ (by omega)).trans hM5
    have hM6 : h3.1 (k + 6) = xa_a 4 (F 6) := (oh3 _ (by omega)).trans hM6
    have hM7 : h3.1 (k + 7) = xa_a 2 (F 7) := (oh3 _ (by omega)).trans hM7
    have hM8 : h3.1 (k + 8) = xa_a 2 (F 8) := (oh3 _ (by omega)).trans hM8
    have hM9 : h3.1 (k + 9) = xa_a 12 (F 9) := (oh3 _ (by omega)).trans hM9
    have hM10 : h3.1 (k + 10) = xa_a 720 (F 10) := (oh3 _ (by omega)).trans hM10
    have hM11 : h3.1 (k + 11) = xa_a 3 (F 11) := (oh3 _ (by omega)).trans hM11
    have hM12 : h3.1 (k + 12) = xa_a 360 (F 12) := (oh3 _ (by omega)).trans hM12
    have hM13 : h3.1 (k + 13) = xa_a 3 (F 13) := (oh3 _ (by omega)).trans hM13
    have hM14 : h3.1 (k + 14) = xa_a 583200 (F 14) := (oh3 _ (by omega)).trans hM14
    have hM15 : h3.1 (k + 15) = xa_a 583200 (F 15) := (oh3 _ (by omega)).trans hM15
    have hM16 : h3.1 (k + 16) = xa_a 4 (F 16) := (oh3 _ (by omega)).trans hM16
    have hn : h3.2 = h.2 := nh3.trans hn
    have fr : ∀ i, (i < k ∨ k + 17 ≤ i) → h3.1 i = h.1 i := fun i hi => (oh3 i (by omega)).trans (fr i hi)
    refine xa_aload_n (pc := 32) dX10_freeBy_32 rfl ?_
    refine xa_callV (pc := 33) (as := []) (rest := []) dX10_freeBy_33 ⟨qX10_shapeMany.1, qX10_shapeMany.2.1, qX10_shapeMany.2.2, by decide, by decide⟩ lkRX10_212 imX10_shapeMany seX10_shapeMany rfl rfl (by omega) (by omega) hM0 rfl (Nat.le_of_ble_eq_true rfl) (Nat.zero_le _) (Nat.zero_le _) (c_mShapes _ F (xa_upf (xa_upf (xa_upf s 14 0) 20 (-4)) 23 0) ⟨hM0, hM1, hM2, hM3, hM4, hM5, hM6, hM7, hM8, hM9, hM10, hM11, hM12, hM13, hM14, hM15, hM16, by omega, by omega⟩ ho.hv) (fun r h' hq => ?_)
    obtain ⟨rfl, hq⟩ := hq
    have hq := hq.symm
    subst hq
    refine xa_istoren (pc := 36) [some (xa_r k), some (xa_i ((J : Nat) : Int)), some (xa_i (sm_shapes F)), none, none, none, none] dX10_freeBy_36 (by decide) (Nat.le_of_ble_eq_true rfl) rfl rfl ?_
    refine xa_iconst (pc := 37) dX10_freeBy_37 ?_
    refine xa_istoren (pc := 38) [some (xa_r k), some (xa_i ((J : Nat) : Int)), some (xa_i (sm_shapes F)), some (xa_i 0), none, none, none] dX10_freeBy_38 (by decide) (Nat.le_of_ble_eq_true rfl) rfl rfl ?_
    rw [← xa_fl_0 (F 14) (-1)] at hM14
    refine xa_wmono ?_ (c_mFree_a (s := s) hMk hJ ho ((360 * sm_shapes F).toNat + 1) 0 _ _ _ _ (by omega) (by omega) (by omega) (by omega) hM0 hM1 hM2 hM3 hM4 hM5 hM6 hM7 hM8 hM9 hM10 hM11 hM12 hM13 hM14 hM15 hM16 fr)
    rintro r h1 ⟨⟨r0, T, Q, x, e1, e2, e3, e4⟩, e5⟩
    refine ⟨⟨r0, xa_uF (xa_uF (xa_uF F 14 T) 15 Q) 16 (xa_upf (F 16) J r0), xa_upf (xa_upf (xa_upf s 14 0) 20 (-4)) 23 x, e1, e2, e3, ⟨fun i i1 i2 i3 => by unfold xa_uF; simp only [if_neg i1, if_neg i2, if_neg i3], rfl, rfl⟩, ⟨(by show xa_ok (-4); decide), fun J2 z1 z2 => by have z2 : (-4 : Int) = J2 := z2; omega⟩, fun J2 z1 => ?_, e4⟩, e5⟩
    show (0 ≤ xa_upf (F 16) J r0 J2 ∧ xa_upf (F 16) J r0 J2 ≤ 360) ∧ (0 < xa_upf (F 16) J r0 J2 → fr_is ld dg pa jo wa sr (J2 : Int) (xa_upf (F 16) J r0 J2))
    by_cases z : J2 = J
    · rw [z, xa_upf_at]
      exact ⟨e2, fun _ => e3⟩
    · rw [xa_upf_ne _ _ z]
      exact hfre J2 z1
  · skip
    refine xa_aload_n (pc := 9) dX10_freeBy_9 rfl ?_
    refine xa_getfield (pc := 10) dX10_freeBy_10 flRX10_60 (by omega) (by omega) hM0 rfl ?_
    refine xa_iload_n (pc := 13) dX10_freeBy_13 rfl ?_
    refine xa_ialdw (pc := 14) J dX10_freeBy_14 (by omega) hM16 (by omega) (by omega) (Int.toNat_natCast _) ?_
    have fb_14 := (hfre J hJ).1
    refine xa_ireturn (pc := 15) dX10_freeBy_15 rfl trivial ?_
    exact ⟨⟨_, F, s, rfl, (hfre J hJ).1, (hfre J hJ).2 (by omega), ⟨fun _ _ _ _ => rfl, rfl, rfl⟩, hl, hfre, ⟨hM0, hM1, hM2, hM3, hM4, hM5, hM6, hM7, hM8, hM9, hM10, hM11, hM12, hM13, hM14, hM15, hM16, by omega, by omega⟩⟩, hn, fr⟩
theorem c_mFree {G : xa_G} {h : xa_H} (k : Nat) (J : Int) (F : Nat → Nat → Int) (s : Nat → Int) (ld dg : Nat → Int) (pa jo : Nat) (wa sr pu ri : Int) (h1 : xa_ok J) (ho : mOk F ld dg pa jo wa sr pu ri) (hl : mLi F s ld dg pa jo wa sr pu ri) (hfre : mFre F ld dg pa jo wa sr) (hM : xM h k F s)  : xa_M G mX10_free [xa_r k, xa_i J] h 0 0 (fun r h' => (∃ (r0 : Int) (F' : Nat → Nat → Int) (s' : Nat → Int), r = some (xa_i r0) ∧ sq_free ld dg pa jo wa sr J r0 ∧ mSim3 F F' s s' ∧ mLi F' s' ld dg pa jo wa sr pu ri ∧ mFre F' ld dg pa jo wa sr ∧ xM h' k F' s') ∧ h'.2 = h.2 ∧ ∀ i, (i < k ∨ k + 17 ≤ i) → h'.1 i = h.1 i) := by
  refine xa_enter (by decide +kernel) (Nat.le_of_ble_eq_true rfl) ?_
  refine xa_locals (ls' := [some (xa_r k), some (xa_i J)]) rfl ?_
  have hn : h.2 = h.2 := rfl
  have fr : ∀ i, (i < k ∨ k + 17 ≤ i) → h.1 i = h.1 i := fun _ _ => rfl
  obtain ⟨hM0, hM1, hM2, hM3, hM4, hM5, hM6, hM7, hM8, hM9, hM10, hM11, hM12, hM13, hM14, hM15, hM16, hMk, hMn⟩ := hM
  refine xa_iload_n (pc := 0) dX10_free_0 rfl ?_
  refine xa_i2l (pc := 1) dX10_free_1 ⟨by omega, by omega⟩ ?_
  refine xa_lconst (pc := 2) (n := 0) dX10_free_2 rfl ?_
  refine xa_aload_n (pc := 3) dX10_free_3 rfl ?_
  refine xa_callV (pc := 4) (as := []) (rest := [xa_l 0, xa_l J]) dX10_free_4 ⟨qX10_allJoints.1, qX10_allJoints.2.1, qX10_allJoints.2.2, by decide, by decide⟩ lkRX10_228 imX10_allJoints seX10_allJoints rfl rfl (by omega) (by omega) hM0 rfl (Nat.le_of_ble_eq_true rfl) (Nat.zero_le _) (Nat.zero_le _) (c_mAll _ F s ld dg pa jo wa sr pu ri ho ⟨hM0, hM1, hM2, hM3, hM4, hM5, hM6, hM7, hM8, hM9, hM10, hM11, hM12, hM13, hM14, hM15, hM16, by omega, by omega⟩) (fun r h' hq => ?_)
  obtain ⟨rfl, hq⟩ := hq
  have hq := hq.symm
  subst hq
  refine xa_i2l (pc := 7) dX10_free_7 ⟨by omega, by omega⟩ ?_
  refine xa_callS (pc := 8) (as := [xa_l J, xa_l 0, xa_l (if jo = 1 then 1 else 3)]) (rest := []) dX10_free_8 ⟨qX10_in.1, qX10_in.2.1, qX10_in.2.2, by decide, by decide⟩ lkRX10_65 smX10_in rfl rfl (Nat.le_of_ble_eq_true rfl) (Nat.zero_le _) (Nat.zero_le _) (c_in _ _ _ ⟨by omega, by omega⟩ ⟨by omega, by omega⟩ ⟨by omega, by omega⟩) (fun r h' hq => ?_)
  obtain ⟨rfl, hq⟩ := hq
  have hq := hq.symm
  subst hq
  refine xa_if_eq (pc := 11) (tgt := 22) dX10_free_11 (by decide) xa_okb (fun c_11 => ?_) (fun c_11 => ?_)
  · have c_11 := xa_b0.mp c_11
    refine xa_iconst (pc := 22) dX10_free_22 ?_
    refine xa_ireturn (pc := 23) dX10_free_23 rfl trivial ?_
    exact ⟨⟨_, F, s, rfl, Or.inl ⟨by omega, rfl⟩, ⟨fun _ _ _ _ => rfl, rfl, rfl⟩, hl, hfre, ⟨hM0, hM1, hM2, hM3, hM4, hM5, hM6, hM7, hM8, hM9, hM10, hM11, hM12, hM13, hM14, hM15, hM16, by omega, by omega⟩⟩, hn, fr⟩
  · have c_11 := xa_b1.mp c_11
    obtain ⟨j, rfl⟩ : ∃ j : Nat, J = (j : Int) := ⟨J.toNat, by omega⟩
    refine xa_aload_n (pc := 14) dX10_free_14 rfl ?_
    refine xa_iload_n (pc := 15) dX10_free_15 rfl ?_
    refine xa_callV (pc := 16) (as := [xa_i ((j : Nat) : Int)]) (rest := []) dX10_free_16 ⟨qX10_freeBy.1, qX10_freeBy.2.1, qX10_freeBy.2.2, by decide, by decide⟩ lkRX10_245 imX10_freeBy seX10_freeBy rfl rfl (by omega) (by omega) hM0 rfl (Nat.le_of_ble_eq_true rfl) (Nat.zero_le _) (Nat.zero_le _) (c_mFreeBy _ j F s ld dg pa jo wa sr pu ri (by omega) ho hl hfre ⟨hM0, hM1, hM2, hM3, hM4, hM5, hM6, hM7, hM8, hM9, hM10, hM11, hM12, hM13, hM14, hM15, hM16, by omega, by omega⟩) (fun r h' hq => ?_)
    obtain ⟨⟨r1, F1, s1, rfl, hb1, hfr1, hsm1, hl1, hfre1, hM⟩, hqn, hqf⟩ := hq
    obtain ⟨hM0, hM1, hM2, hM3, hM4, hM5, hM6, hM7, hM8, hM9, hM10, hM11, hM12, hM13, hM14, hM15, hM16, hMk, hMn⟩ := hM
    have hM0 : h'.1 k = xa_o 10 [xa_i (s1 0), xa_r (k + 1), xa_r (k + 2), xa_r (k + 3), xa_r (k + 4), xa_r (k + 5), xa_r (k + 6), xa_r (k + 7), xa_r (k + 8), xa_r (k + 9), xa_r (k + 10), xa_r (k + 11), xa_r (k + 12), xa_i (s1 13), xa_i (s1 14), xa_i (s1 15), xa_r (k + 13), xa_i (s1 17), xa_i (s1 18), xa_i (s1 19), xa_i (s1 20), xa_r (k + 14), xa_r (k + 15), xa_i (s1 23), xa_r (k + 16)] := hM0
    have hM1 : h'.1 (k + 1) = xa_a 120 (F1 1) := hM1
    have hM2 : h'.1 (k + 2) = xa_a 2 (F1 2) := hM2
    have hM3 : h'.1 (k + 3) = xa_a 18 (F1 3) := hM3
    have hM4 : h'.1 (k + 4) = xa_a 2 (F1 4) := hM4
    have hM5 : h'.1 (k + 5) = xa_a 4 (F1 5) := hM5
    have hM6 : h'.1 (k + 6) = xa_a 4 (F1 6) := hM6
    have hM7 : h'.1 (k + 7) = xa_a 2 (F1 7) := hM7
    have hM8 : h'.1 (k + 8) = xa_a 2 (F1 8) := hM8
    have hM9 : h'.1 (k + 9) = xa_a 12 (F1 9) := hM9
    have hM10 : h'.1 (k + 10) = xa_a 720 (F1 10) := hM10
    have hM11 : h'.1 (k + 11) = xa_a 3 (F1 11) := hM11
    have hM12 : h'.1 (k + 12) = xa_a 360 (F1 12) := hM12
    have hM13 : h'.1 (k + 13) = xa_a 3 (F1 13) := hM13
    have hM14 : h'.1 (k + 14) = xa_a 583200 (F1 14) := hM14
    have hM15 : h'.1 (k + 15) = xa_a 583200 (F1 15) := hM15
    have hM16 : h'.1 (k + 16) = xa_a 4 (F1 16) := hM16
    have hn : h'.2 = h.2 := hqn.trans hn
    have fr : ∀ i, (i < k ∨ k + 17 ≤ i) → h'.1 i = h.1 i := fun i hi => (hqf i (by omega)).trans (fr i hi)
    refine xa_goto (pc := 19) (tgt := 23) dX10_free_19 (by decide) ?_
    refine xa_ireturn (pc := 23) dX10_free_23 rfl trivial ?_
    exact ⟨⟨_, F1, s1, rfl, Or.inr ⟨by omega, hfr1⟩, hsm1, hl1, hfre1, ⟨hM0, hM1, hM2, hM3, hM4, hM5, hM6, hM7, hM8, hM9, hM10, hM11, hM12, hM13, hM14, hM15, hM16, by omega, by omega⟩⟩, hn, fr⟩
