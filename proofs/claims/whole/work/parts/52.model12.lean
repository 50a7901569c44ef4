/-! The model: films -/
theorem xa_wmono {G : xa_G} {Y : xa_Y} {Q Q' : xa_Po} {pc : Nat} {ls : xa_Ls} {st : List xa_V} {h : xa_H} {mc ms : Nat} (hq : ∀ r h', Q r h' → Q' r h') (k : xa_W G Y (xa_Z G Q) pc ls st h mc ms) : xa_W G Y (xa_Z G Q') pc ls st h mc ms := by
  intro p l e s m args below meth c hB R H locs lsC cells slots r1 r2 r3 r4 hH hL hl T hT X
  obtain ⟨t, a1, o, b1, b2, b3, b4⟩ := k p l e s m args below meth c hB R H locs lsC cells slots r1 r2 r3 r4 hH hL hl T hT X
  obtain ⟨r, h', c1, c2, c3⟩ := b3
  exact ⟨t, a1, o, b1, b2, ⟨r, h', c1, c2, hq r h' c3⟩, b4⟩
def fiOk (pa : Nat) (fi : Nat → Int) (pc : Nat) : Prop := pc ≤ 30 ∧ ∀ n : Nat, n < pc → (0 ≤ fi (4 * n) ∧ fi (4 * n) ≤ 60) ∧ (0 ≤ fi (4 * n + 1) ∧ fi (4 * n + 1) ≤ (pa : Int) - 1) ∧ (0 ≤ fi (4 * n + 2) ∧ fi (4 * n + 2) ≤ 359) ∧ (0 ≤ fi (4 * n + 3) ∧ fi (4 * n + 3) ≤ 90)
theorem lk_ix {e : Nat} (h : e < 360) : (360 - (e + 1) ≤ 359 - e ∧ 359 - e < 360) ∧ ∀ t, 360 - (e + 1) ≤ t → t < 359 - e → False := ⟨by omega, fun t h1 h2 => by omega⟩
theorem fl_one_y {ld dg : Nat → Int} {pa jo : Nat} {wa sr push : Int} {ms : Nat → Int} {len : Nat} {turn a b c d : Int} {q : xCf × Int} (h1 : a ≤ (len : Int)) (h2 : cr_run ld dg pa jo wa sr push ms a.toNat = some q) : fl_one ld dg pa jo wa sr push ms len turn a b c d = decide (sp_off (turn + q.2 + cf_bto dg q.1 b) c ≤ d) := by
  unfold fl_one
  rw [if_pos h1, h2]
theorem fl_one_n {ld dg : Nat → Int} {pa jo : Nat} {wa sr push : Int} {ms : Nat → Int} {len : Nat} {turn a b c d : Int} (h : a ≤ (len : Int) → cr_run ld dg pa jo wa sr push ms a.toNat = none) : fl_one ld dg pa jo wa sr push ms len turn a b c d = false := by
  unfold fl_one
  by_cases h1 : a ≤ (len : Int)
  · rw [if_pos h1, h h1]
  · rw [if_neg h1]
theorem c_mMay_loop {G : xa_G} {h0 : xa_H} {k v pc : Nat} {turn push : Int} {F : Nat → Nat → Int} {s : Nat → Int} {ld dg : Nat → Int} {pa jo : Nat} {wa sr pu ri : Int} (hk : 2 ≤ k) (hw : v ≤ 3) (htu : 0 ≤ turn ∧ turn ≤ 359) (ho : mOk F ld dg pa jo wa sr pu ri) (hpc : F 11 0 = (pc : Int)) (hfi : fiOk pa (F 12) pc) (hpu : -9999 ≤ push ∧ push ≤ 9999) : ∀ (d : Nat) (j : Nat) (s1 : Nat → Int) (g5 : Option xa_V) (h : xa_H), pc - j < d → (j ≤ pc) → (fl_all ld dg pa jo wa sr push (wy (F 10) (v : Int)) (F 9 v).toNat (F 12) turn j = true) → (msF s s1) → (h.2 = h0.2) → (k + 16 < h.2) → (h.1 k = xa_o 10 [xa_i (s1 0), xa_r (k + 1), xa_r (k + 2), xa_r (k + 3), xa_r (k + 4), xa_r (k + 5), xa_r (k + 6), xa_r (k + 7), xa_r (k + 8), xa_r (k + 9), xa_r (k + 10), xa_r (k + 11), xa_r (k + 12), xa_i (s1 13), xa_i push, xa_i (s1 15), xa_r (k + 13), xa_i (s1 17), xa_i (s1 18), xa_i (s1 19), xa_i (s1 20), xa_r (k + 14), xa_r (k + 15), xa_i (s1 23), xa_r (k + 16)]) → (h.1 (k + 1) = xa_a 120 (F 1)) → (h.1 (k + 2) = xa_a 2 (F 2)) → (h.1 (k + 3) = xa_a 18 (F 3)) → (h.1 (k + 4) = xa_a 2 (F 4)) → (h.1 (k + 5) = xa_a 4 (F 5)) → (h.1 (k + 6) = xa_a 4 (F 6)) → (h.1 (k + 7) = xa_a 2 (F 7)) → (h.1 (k + 8) = xa_a 2 (F 8)) → (h.1 (k + 9) = xa_a 12 (F 9)) → (h.1 (k + 10) = xa_a 720 (F 10)) → (h.1 (k + 11) = xa_a 3 (F 11)) → (h.1 (k + 12) = xa_a 360 (F 12)) → (h.1 (k + 13) = xa_a 3 (F 13)) → (h.1 (k + 14) = xa_a 583200 (F 14)) → (h.1 (k + 15) = xa_a 583200 (F 15)) → (h.1 (k + 16) = xa_a 4 (F 16)) → (∀ i, (i < k ∨ k + 17 ≤ i) → h.1 i = h0.1 i) → xa_W G mX10_mayBe (xa_Z G (fun r h' => (∃ s', r = some (xa_i (xa_b (fl_P ld dg pa jo wa sr push (F 10) (F 9) (v : Int) (F 12) pc turn = true))) ∧ msF s s' ∧ s' 14 = push ∧ xM h' k F s') ∧ h'.2 = h0.2 ∧ ∀ i, (i < k ∨ k + 17 ≤ i) → h'.1 i = h0.1 i)) 5 [some (xa_r k), some (xa_i ((v : Nat) : Int)), some (xa_i turn), some (xa_i 1), some (xa_i ((j : Nat) : Int)), g5] [] h 0 0 := by
  intro d
  induction d with
  | zero => intros; exfalso; omega
  | succ d ih =>
    intro j s1 g5 h hd hj hall hms hn0 hkn hM0 hM1 hM2 hM3 hM4 hM5 hM6 hM7 hM8 hM9 hM10 hM11 hM12 hM13 hM14 hM15 hM16 fr0
    have hn : h.2 = h.2 := rfl
    have fr : ∀ i, (i < k ∨ k + 17 ≤ i) → h.1 i = h.1 i := fun _ _ => rfl
    have hpa := ho.1.1
    have hR := ho.2.1.1
    have hpc9 := hfi.1
    refine xa_iload (pc := 5) dX10_mayBe_5 rfl ?_
    refine xa_aload_n (pc := 7) dX10_mayBe_7 rfl ?_
    refine xa_getfield (pc := 8) dX10_mayBe_8 flRX10_40 (by omega) (by omega) hM0 rfl ?_
    refine xa_iconst (pc := 11) dX10_mayBe_11 ?_
    refine xa_ialdw (pc := 12) 0 dX10_mayBe_12 (by omega) hM11 (by omega) (by omega) rfl ?_
    refine xa_icmp_ge (pc := 13) (tgt := 102) dX10_mayBe_13 (by decide) ⟨by omega, by omega⟩ ⟨by omega, by omega⟩ (fun c_13 => ?_) (fun c_13 => ?_)
    · skip
      refine xa_iload_n (pc := 102) dX10_mayBe_102 rfl ?_
      refine xa_ireturn (pc := 103) dX10_mayBe_103 rfl (Or.inr rfl) ?_
      have hje : j = pc := by omega
      subst hje
      exact ⟨⟨xa_upf s1 14 push, congrArg (fun z => some (xa_i z)) (xa_bt hall), hms, rfl, ⟨hM0, hM1, hM2, hM3, hM4, hM5, hM6, hM7, hM8, hM9, hM10, hM11, hM12, hM13, hM14, hM15, hM16, by omega, by omega⟩⟩, by omega, fun i hi => (fr i hi).trans (fr0 i hi)⟩
    · skip
      refine xa_iload_n (pc := 16) dX10_mayBe_16 rfl ?_
      refine xa_if_eq (pc := 17) (tgt := 102) dX10_mayBe_17 (by decide) (by decide) (fun c_17 => ?_) (fun c_17 => ?_)
      · skip
        exfalso; omega
      · skip
        refine xa_iconst (pc := 20) dX10_mayBe_20 ?_
        refine xa_iload (pc := 21) dX10_mayBe_21 rfl ?_
        refine xa_imul (pc := 23) dX10_mayBe_23 ?_
        refine xa_top (y := ((4 * j : Nat) : Int)) (by omega) ?_
        refine xa_istorew (pc := 24) [some (xa_r k), some (xa_i ((v : Nat) : Int)), some (xa_i turn), some (xa_i 1), some (xa_i ((j : Nat) : Int)), some (xa_i ((4 * j : Nat) : Int))] dX10_mayBe_24 (by decide) (Nat.le_of_ble_eq_true rfl) rfl rfl ?_
        obtain ⟨f0, f1, f2, f3⟩ := hfi.2 j (by omega)
        refine xa_aload_n (pc := 26) dX10_mayBe_26 rfl ?_
        refine xa_iload_n (pc := 27) dX10_mayBe_27 rfl ?_
        refine xa_iload_n (pc := 28) dX10_mayBe_28 rfl ?_
        refine xa_aload_n (pc := 29) dX10_mayBe_29 rfl ?_
        refine xa_getfield (pc := 30) dX10_mayBe_30 flRX10_43 (by omega) (by omega) hM0 rfl ?_
        refine xa_iload (pc := 33) dX10_mayBe_33 rfl ?_
        refine xa_ialdw (pc := 35) (4 * j) dX10_mayBe_35 (by omega) hM12 (by omega) (by omega) (by omega) ?_
        refine xa_callV (pc := 36) (as := [xa_i ((v : Nat) : Int), xa_i turn, xa_i ((F 12) (4 * j))]) (rest := []) dX10_mayBe_36 ⟨qX10_go.1, qX10_go.2.1, qX10_go.2.2, by decide, by decide⟩ lkRX10_187 imX10_go seX10_go rfl rfl (by omega) (by omega) hM0 rfl (Nat.le_of_ble_eq_true rfl) (Nat.zero_le _) (Nat.zero_le _) (c_mGo _ v turn ((F 12) (4 * j)) F (xa_upf (xa_upf (xa_upf (xa_upf (xa_upf (xa_upf (xa_upf (xa_upf (xa_upf s 0 (s1 0)) 13 (s1 13)) 14 push) 15 (s1 15)) 17 (s1 17)) 18 (s1 18)) 19 (s1 19)) 20 (s1 20)) 23 (s1 23)) ld dg pa jo wa sr pu ri (by omega) (by omega) (by omega) ho (by show -9999 ≤ push ∧ push ≤ 9999; omega) ⟨hM0, hM1, hM2, hM3, hM4, hM5, hM6, hM7, hM8, hM9, hM10, hM11, hM12, hM13, hM14, hM15, hM16, by omega, by omega⟩) (fun r h' hq => ?_)
        obtain ⟨⟨rfl, m, c, u, hm, hm2, hrun, hc, hfail, hM⟩, hqn, hqf⟩ := hq
        obtain ⟨hM0, hM1, hM2, hM3, hM4, hM5, hM6, hM7, hM8, hM9, hM10, hM11, hM12, hM13, hM14, hM15, hM16, hMk, hMn⟩ := hM
        have hM0 : h'.1 k = xa_o 10 [xa_i (s1 0), xa_r (k + 1), xa_r (k + 2), xa_r (k + 3), xa_r (k + 4), xa_r (k + 5), xa_r (k + 6), xa_r (k + 7), xa_r (k + 8), xa_r (k + 9), xa_r (k + 10), xa_r (k + 11), xa_r (k + 12), xa_i (s1 13), xa_i push, xa_i (s1 15), xa_r (k + 13), xa_i (mE jo wa sr c), xa_i ((turn + u) % 360), xa_i ((m : Nat) : Int), xa_i (s1 20), xa_r (k + 14), xa_r (k + 15), xa_i (s1 23), xa_r (k + 16)] := hM0
        have hM1 : h'.1 (k + 1) = xa_a 120 (F 1) := hM1
        have hM2 : h'.1 (k + 2) = xa_a 2 (F 2) := hM2
        have hM3 : h'.1 (k + 3) = xa_a 18 (F 3) := hM3
        have hM4 : h'.1 (k + 4) = xa_a 2 (F 4) := hM4
        have hM5 : h'.1 (k + 5) = xa_a 4 (F 5) := hM5
        have hM6 : h'.1 (k + 6) = xa_a 4 (F 6) := hM6
        have hM7 : h'.1 (k + 7) = xa_a 2 (F 7) := hM7
        have hM8 : h'.1 (k + 8) = xa_a 2 (F 8) := hM8
        have hM9 : h'.1 (k + 9) = xa_a 12 (F 9) := hM9
        have hM10 : h'.1 (k + 10) = xa_a 720 (F 10) := hM10
        have hM11 : h'.1 (k + 11) = xa_a 3 (F 11) := hM11
        have hM12 : h'.1 (k + 12) = xa_a 360 (F 12) := hM12
        have hM13 : h'.1 (k + 13) = xa_a 3 (F 13) := hM13
        have hM14 : h'.1 (k + 14) = xa_a 583200 (F 14) := hM14
        have hM15 : h'.1 (k + 15) = xa_a 583200 (F 15) := hM15
        have hM16 : h'.1 (k + 16) = xa_a 4 (F 16) := hM16
        have hn : h'.2 = h.2 := hqn.trans hn
        have fr : ∀ i, (i < k ∨ k + 17 ≤ i) → h'.1 i = h.1 i := fun i hi => (hqf i (by omega)).trans (fr i hi)
        have hmb := mE_9 ho.1 ho.2.1 hc
        have h9 := ho.2.2.2.2.2.1 v
        refine xa_aload_n (pc := 39) dX10_mayBe_39 rfl ?_
        refine xa_getfield (pc := 40) dX10_mayBe_40 flRX10_170 (by omega) (by omega) hM0 rfl ?_
        refine xa_aload_n (pc := 43) dX10_mayBe_43 rfl ?_
        refine xa_getfield (pc := 44) dX10_mayBe_44 flRX10_43 (by omega) (by omega) hM0 rfl ?_
        refine xa_iload (pc := 47) dX10_mayBe_47 rfl ?_
        refine xa_ialdw (pc := 49) (4 * j) dX10_mayBe_49 (by omega) hM12 (by omega) (by omega) (by omega) ?_
        refine xa_icmp_ne (pc := 50) (tgt := 94) dX10_mayBe_50 (by decide) ⟨by omega, by omega⟩ ⟨by omega, by omega⟩ (fun c_50 => ?_) (fun c_50 => ?_)
        · skip
          refine xa_iconst (pc := 94) dX10_mayBe_94 ?_
          refine xa_istoren (pc := 95) [some (xa_r k), some (xa_i ((v : Nat) : Int)), some (xa_i turn), some (xa_i 0), some (xa_i ((j : Nat) : Int)), some (xa_i ((4 * j : Nat) : Int))] dX10_mayBe_95 (by decide) (Nat.le_of_ble_eq_true rfl) rfl rfl ?_
          refine xa_iincw (pc := 96) (y := ((j + 1 : Nat) : Int)) [some (xa_r k), some (xa_i ((v : Nat) : Int)), some (xa_i turn), some (xa_i 0), some (xa_i ((j + 1 : Nat) : Int)), some (xa_i ((4 * j : Nat) : Int))] dX10_mayBe_96 (by decide) rfl rfl (by omega) rfl ?_
          refine xa_goto (pc := 99) (tgt := 5) dX10_mayBe_99 (by decide) ?_
          refine xa_iload (pc := 5) dX10_mayBe_5 rfl ?_
          refine xa_aload_n (pc := 7) dX10_mayBe_7 rfl ?_
          refine xa_getfield (pc := 8) dX10_mayBe_8 flRX10_40 (by omega) (by omega) hM0 rfl ?_
          refine xa_iconst (pc := 11) dX10_mayBe_11 ?_
          refine xa_ialdw (pc := 12) 0 dX10_mayBe_12 (by omega) hM11 (by omega) (by omega) rfl ?_
          refine xa_icmp_ge (pc := 13) (tgt := 102) dX10_mayBe_13 (by decide) ⟨by omega, by omega⟩ ⟨by omega, by omega⟩ (fun c_13 => ?_) (fun c_13 => ?_)
          · skip
            refine xa_iload_n (pc := 102) dX10_mayBe_102 rfl ?_
            refine xa_ireturn (pc := 103) dX10_mayBe_103 rfl (Or.inl rfl) ?_
            have hdone : cr_done ld dg pa jo wa sr push (wy (F 10) (v : Int)) (min (F 9 v).toNat (F 12 (4 * j)).toNat) m c u := ⟨by omega, hrun, fun q => hfail (by omega) (by omega)⟩
            have hone : fl_one ld dg pa jo wa sr push (wy (F 10) (v : Int)) (F 9 v).toNat turn (F 12 (4 * j)) (F 12 (4 * j + 1)) (F 12 (4 * j + 2)) (F 12 (4 * j + 3)) = false := fl_one_n (fun q => by
              have q2 := (cr_stop hdone (t := (F 12 (4 * j)).toNat) (by omega)).mp
              cases hr : cr_run ld dg pa jo wa sr push (wy (F 10) (v : Int)) (F 12 (4 * j)).toNat with
              | none => rfl
              | some z => exact absurd (q2 (by rw [hr]; rfl)) (by omega))
            exact ⟨⟨xa_upf (xa_upf (xa_upf (xa_upf s1 14 push) 17 (mE jo wa sr c)) 18 ((turn + u) % 360)) 19 ((m : Nat) : Int), congrArg (fun z => some (xa_i z)) (xa_bf (fl_all_no hone pc (by omega))), hms, rfl, ⟨hM0, hM1, hM2, hM3, hM4, hM5, hM6, hM7, hM8, hM9, hM10, hM11, hM12, hM13, hM14, hM15, hM16, by omega, by omega⟩⟩, by omega, fun i hi => (fr i hi).trans (fr0 i hi)⟩
          · skip
            refine xa_iload_n (pc := 16) dX10_mayBe_16 rfl ?_
            refine xa_if_eq (pc := 17) (tgt := 102) dX10_mayBe_17 (by decide) (by decide) (fun c_17 => ?_) (fun c_17 => ?_)
            · skip
              refine xa_iload_n (pc := 102) dX10_mayBe_102 rfl ?_
              refine xa_ireturn (pc := 103) dX10_mayBe_103 rfl (Or.inl rfl) ?_
              have hdone : cr_done ld dg pa jo wa sr push (wy (F 10) (v : Int)) (min (F 9 v).toNat (F 12 (4 * j)).toNat) m c u := ⟨by omega, hrun, fun q => hfail (by omega) (by omega)⟩
              have hone : fl_one ld dg pa jo wa sr push (wy (F 10) (v : Int)) (F 9 v).toNat turn (F 12 (4 * j)) (F 12 (4 * j + 1)) (F 12 (4 * j + 2)) (F 12 (4 * j + 3)) = false := fl_one_n (fun q => by
                have q2 := (cr_stop hdone (t := (F 12 (4 * j)).toNat) (by omega)).mp
                cases hr : cr_run ld dg pa jo wa sr push (wy (F 10) (v : Int)) (F 12 (4 * j)).toNat with
                | none => rfl
                | some z => exact absurd (q2 (by rw [hr]; rfl)) (by omega))
              exact ⟨⟨xa_upf (xa_upf (xa_upf (xa_upf s1 14 push) 17 (mE jo wa sr c)) 18 ((turn + u) % 360)) 19 ((m : Nat) : Int), congrArg (fun z => some (xa_i z)) (xa_bf (fl_all_no hone pc (by omega))), hms, rfl, ⟨hM0, hM1, hM2, hM3, hM4, hM5, hM6, hM7, hM8, hM9, hM10, hM11, hM12, hM13, hM14, hM15, hM16, by omega, by omega⟩⟩, by omega, fun i hi => (fr i hi).trans (fr0 i hi)⟩
            · skip
              exfalso; omega
        · skip
          refine xa_aload_n (pc := 53) dX10_mayBe_53 rfl ?_
          refine xa_aload_n (pc := 54) dX10_mayBe_54 rfl ?_
          refine xa_getfield (pc := 55) dX10_mayBe_55 flRX10_43 (by omega) (by omega) hM0 rfl ?_
          refine xa_iload (pc := 58) dX10_mayBe_58 rfl ?_
          refine xa_iconst (pc := 60) dX10_mayBe_60 ?_
          refine xa_iadd (pc := 61) dX10_mayBe_61 ?_
          refine xa_ialdw (pc := 62) (4 * j + 1) dX10_mayBe_62 (by omega) hM12 (by omega) (by omega) (by omega) ?_
          refine xa_callV (pc := 63) (as := [xa_i ((F 12) (4 * j + 1))]) (rest := []) dX10_mayBe_63 ⟨qX10_turnOf.1, qX10_turnOf.2.1, qX10_turnOf.2.2, by decide, by decide⟩ lkRX10_191 imX10_turnOf seX10_turnOf rfl rfl (by omega) (by omega) hM0 rfl (Nat.le_of_ble_eq_true rfl) (Nat.zero_le _) (Nat.zero_le _) (c_mTurnOf (c := c) _ _ F (xa_upf (xa_upf (xa_upf (xa_upf s1 14 push) 17 (mE jo wa sr c)) 18 ((turn + u) % 360)) 19 ((m : Nat) : Int)) ld dg pa jo wa sr pu ri rfl hc (by show 0 ≤ (turn + u) % 360 ∧ (turn + u) % 360 ≤ 359; omega) ho (by omega) ⟨hM0, hM1, hM2, hM3, hM4, hM5, hM6, hM7, hM8, hM9, hM10, hM11, hM12, hM13, hM14, hM15, hM16, by omega, by omega⟩) (fun r h' hq => ?_)
          obtain ⟨rfl, hq⟩ := hq
          have hq := hq.symm
          subst hq
          refine xa_top (y := ((turn + u) % 360 + cf_bto dg c ((F 12) (4 * j + 1))) % 360) rfl ?_
          refine xa_aload_n (pc := 66) dX10_mayBe_66 rfl ?_
          refine xa_getfield (pc := 67) dX10_mayBe_67 flRX10_43 (by omega) (by omega) hM0 rfl ?_
          refine xa_iload (pc := 70) dX10_mayBe_70 rfl ?_
          refine xa_iconst (pc := 72) dX10_mayBe_72 ?_
          refine xa_iadd (pc := 73) dX10_mayBe_73 ?_
          refine xa_ialdw (pc := 74) (4 * j + 2) dX10_mayBe_74 (by omega) hM12 (by omega) (by omega) (by omega) ?_
          refine xa_callS (pc := 75) (as := [xa_i (((turn + u) % 360 + cf_bto dg c ((F 12) (4 * j + 1))) % 360), xa_i ((F 12) (4 * j + 2))]) (rest := []) dX10_mayBe_75 ⟨qX10_off.1, qX10_off.2.1, qX10_off.2.2, by decide, by decide⟩ lkRX10_248 smX10_off rfl rfl (Nat.le_of_ble_eq_true rfl) (Nat.zero_le _) (Nat.zero_le _) (c_moff _ _ (by omega) (by omega)) (fun r h' hq => ?_)
          obtain ⟨rfl, hq⟩ := hq
          have hq := hq.symm
          subst hq
          have eo : sm_off (((turn + u) % 360 + cf_bto dg c ((F 12) (4 * j + 1))) % 360) ((F 12) (4 * j + 2)) = sp_off (turn + u + cf_bto dg c (F 12 (4 * j + 1))) (F 12 (4 * j + 2)) := sm_sp_off (by omega) (by omega) _ (by omega)
          have eb := sp_off_b (turn + u + cf_bto dg c (F 12 (4 * j + 1))) (F 12 (4 * j + 2))
          refine xa_aload_n (pc := 78) dX10_mayBe_78 rfl ?_
          refine xa_getfield (pc := 79) dX10_mayBe_79 flRX10_43 (by omega) (by omega) hM0 rfl ?_
          refine xa_iload (pc := 82) dX10_mayBe_82 rfl ?_
          refine xa_iconst (pc := 84) dX10_mayBe_84 ?_
          refine xa_iadd (pc := 85) dX10_mayBe_85 ?_
          refine xa_ialdw (pc := 86) (4 * j + 3) dX10_mayBe_86 (by omega) hM12 (by omega) (by omega) (by omega) ?_
          refine xa_icmp_gt (pc := 87) (tgt := 94) dX10_mayBe_87 (by decide) ⟨by omega, by omega⟩ ⟨by omega, by omega⟩ (fun c_87 => ?_) (fun c_87 => ?_)
          · skip
            refine xa_iconst (pc := 94) dX10_mayBe_94 ?_
            refine xa_istoren (pc := 95) [some (xa_r k), some (xa_i ((v : Nat) : Int)), some (xa_i turn), some (xa_i 0), some (xa_i ((j : Nat) : Int)), some (xa_i ((4 * j : Nat) : Int))] dX10_mayBe_95 (by decide) (Nat.le_of_ble_eq_true rfl) rfl rfl ?_
            refine xa_iincw (pc := 96) (y := ((j + 1 : Nat) : Int)) [some (xa_r k), some (xa_i ((v : Nat) : Int)), some (xa_i turn), some (xa_i 0), some (xa_i ((j + 1 : Nat) : Int)), some (xa_i ((4 * j : Nat) : Int))] dX10_mayBe_96 (by decide) rfl rfl (by omega) rfl ?_
            refine xa_goto (pc := 99) (tgt := 5) dX10_mayBe_99 (by decide) ?_
            refine xa_iload (pc := 5) dX10_mayBe_5 rfl ?_
            refine xa_aload_n (pc := 7) dX10_mayBe_7 rfl ?_
            refine xa_getfield (pc := 8) dX10_mayBe_8 flRX10_40 (by omega) (by omega) hM0 rfl ?_
            refine xa_iconst (pc := 11) dX10_mayBe_11 ?_
            refine xa_ialdw (pc := 12) 0 dX10_mayBe_12 (by omega) hM11 (by omega) (by omega) rfl ?_
            refine xa_icmp_ge (pc := 13) (tgt := 102) dX10_mayBe_13 (by decide) ⟨by omega, by omega⟩ ⟨by omega, by omega⟩ (fun c_13 => ?_) (fun c_13 => ?_)
            · skip
              refine xa_iload_n (pc := 102) dX10_mayBe_102 rfl ?_
              refine xa_ireturn (pc := 103) dX10_mayBe_103 rfl (Or.inl rfl) ?_
              have hmt : m = (F 12 (4 * j)).toNat := by omega
              have hone := fl_one_y (ld := ld) (dg := dg) (pa := pa) (jo := jo) (wa := wa) (sr := sr) (push := push) (ms := wy (F 10) (v : Int)) (len := (F 9 v).toNat) (turn := turn) (a := F 12 (4 * j)) (b := F 12 (4 * j + 1)) (c := F 12 (4 * j + 2)) (d := F 12 (4 * j + 3)) (q := (c, u)) (by omega) (by rw [← hmt]; exact hrun)
              rw [decide_eq_false (by show ¬ sp_off (turn + u + cf_bto dg c (F 12 (4 * j + 1))) (F 12 (4 * j + 2)) ≤ F 12 (4 * j + 3); omega)] at hone
              exact ⟨⟨xa_upf (xa_upf (xa_upf (xa_upf s1 14 push) 17 (mE jo wa sr c)) 18 ((turn + u) % 360)) 19 ((m : Nat) : Int), congrArg (fun z => some (xa_i z)) (xa_bf (fl_all_no hone pc (by omega))), hms, rfl, ⟨hM0, hM1, hM2, hM3, hM4, hM5, hM6, hM7, hM8, hM9, hM10, hM11, hM12, hM13, hM14, hM15, hM16, by omega, by omega⟩⟩, by omega, fun i hi => (fr i hi).trans (fr0 i hi)⟩
            · skip
              refine xa_iload_n (pc := 16) dX10_mayBe_16 rfl ?_
              refine xa_if_eq (pc := 17) (tgt := 102) dX10_mayBe_17 (by decide) (by decide) (fun c_17 => ?_) (fun c_17 => ?_)
              · skip
                refine xa_iload_n (pc := 102) dX10_mayBe_102 rfl ?_
                refine xa_ireturn (pc := 103) dX10_mayBe_103 rfl (Or.inl rfl) ?_
                have hmt : m = (F 12 (4 * j)).toNat := by omega
                have hone := fl_one_y (ld := ld) (dg := dg) (pa := pa) (jo := jo) (wa := wa) (sr := sr) (push := push) (ms := wy (F 10) (v : Int)) (len := (F 9 v).toNat) (turn := turn) (a := F 12 (4 * j)) (b := F 12 (4 * j + 1)) (c := F 12 (4 * j + 2)) (d := F 12 (4 * j + 3)) (q := (c, u)) (by omega) (by rw [← hmt]; exact hrun)
                rw [decide_eq_false (by show ¬ sp_off (turn + u + cf_bto dg c (F 12 (4 * j + 1))) (F 12 (4 * j + 2)) ≤ F 12 (4 * j + 3); omega)] at hone
                exact ⟨⟨xa_upf (xa_upf (xa_upf (xa_upf s1 14 push) 17 (mE jo wa sr c)) 18 ((turn + u) % 360)) 19 ((m : Nat) : Int), congrArg (fun z => some (xa_i z)) (xa_bf (fl_all_no hone pc (by omega))), hms, rfl, ⟨hM0, hM1, hM2, hM3, hM4, hM5, hM6, hM7, hM8, hM9, hM10, hM11, hM12, hM13, hM14, hM15, hM16, by omega, by omega⟩⟩, by omega, fun i hi => (fr i hi).trans (fr0 i hi)⟩
              · skip
                exfalso; omega
          · skip
            refine xa_iconst (pc := 90) dX10_mayBe_90 ?_
            refine xa_goto (pc := 91) (tgt := 95) dX10_mayBe_91 (by decide) ?_
            refine xa_istoren (pc := 95) [some (xa_r k), some (xa_i ((v : Nat) : Int)), some (xa_i turn), some (xa_i 1), some (xa_i ((j : Nat) : Int)), some (xa_i ((4 * j : Nat) : Int))] dX10_mayBe_95 (by decide) (Nat.le_of_ble_eq_true rfl) rfl rfl ?_
            refine xa_iincw (pc := 96) (y := ((j + 1 : Nat) : Int)) [some (xa_r k), some (xa_i ((v : Nat) : Int)), some (xa_i turn), some (xa_i 1), some (xa_i ((j + 1 : Nat) : Int)), some (xa_i ((4 * j : Nat) : Int))] dX10_mayBe_96 (by decide) rfl rfl (by omega) rfl ?_
            refine xa_goto (pc := 99) (tgt := 5) dX10_mayBe_99 (by decide) ?_
            have hmt : m = (F 12 (4 * j)).toNat := by omega
            have hone := fl_one_y (ld := ld) (dg := dg) (pa := pa) (jo := jo) (wa := wa) (sr := sr) (push := push) (ms := wy (F 10) (v : Int)) (len := (F 9 v).toNat) (turn := turn) (a := F 12 (4 * j)) (b := F 12 (4 * j + 1)) (c := F 12 (4 * j + 2)) (d := F 12 (4 * j + 3)) (q := (c, u)) (by omega) (by rw [← hmt]; exact hrun)
            rw [decide_eq_true (by show sp_off (turn + u + cf_bto dg c (F 12 (4 * j + 1))) (F 12 (4 * j + 2)) ≤ F 12 (4 * j + 3); omega)] at hone
            exact ih (j + 1) (xa_upf (xa_upf (xa_upf (xa_upf s1 14 push) 17 (mE jo wa sr c)) 18 ((turn + u) % 360)) 19 ((m : Nat) : Int)) _ _ (by omega) (by omega) (by show (fl_all ld dg pa jo wa sr push (wy (F 10) (v : Int)) (F 9 v).toNat (F 12) turn j && _) = true; rw [hall, Bool.true_and]; exact hone) hms (by omega) (by omega) hM0 hM1 hM2 hM3 hM4 hM5 hM6 hM7 hM8 hM9 hM10 hM11 hM12 hM13 hM14 hM15 hM16 (fun i hi => (fr i hi).trans (fr0 i hi))
theorem c_mMayBe {G : xa_G} {h : xa_H} (k v pc : Nat) (turn push : Int) (F : Nat → Nat → Int) (s : Nat → Int) (ld dg : Nat → Int) (pa jo : Nat) (wa sr pu ri : Int) (hw : v ≤ 3) (htu : 0 ≤ turn ∧ turn ≤ 359) (ho : mOk F ld dg pa jo wa sr pu ri) (hpc : F 11 0 = (pc : Int)) (hfi : fiOk pa (F 12) pc) (h14 : s 14 = push) (hpu : -9999 ≤ push ∧ push ≤ 9999) (hM : xM h k F s)  : xa_M G mX10_mayBe [xa_r k, xa_i ((v : Nat) : Int), xa_i turn] h 0 0 (fun r h' => (∃ s', r = some (xa_i (xa_b (fl_P ld dg pa jo wa sr push (F 10) (F 9) (v : Int) (F 12) pc turn = true))) ∧ msF s s' ∧ s' 14 = push ∧ xM h' k F s') ∧ h'.2 = h.2 ∧ ∀ i, (i < k ∨ k + 17 ≤ i) → h'.1 i = h.1 i) := by
  refine xa_enter (by decide +kernel) (Nat.le_of_ble_eq_true rfl) ?_
  refine xa_locals (ls' := [some (xa_r k), some (xa_i ((v : Nat) : Int)), some (xa_i turn), none, none, none]) rfl ?_
  have hn : h.2 = h.2 := rfl
  have fr : ∀ i, (i < k ∨ k + 17 ≤ i) → h.1 i = h.1 i := fun _ _ => rfl
  obtain ⟨hM0, hM1, hM2, hM3, hM4, hM5, hM6, hM7, hM8, hM9, hM10, hM11, hM12, hM13, hM14, hM15, hM16, hMk, hMn⟩ := hM
  rw [h14] at hM0
  refine xa_iconst (pc := 0) dX10_mayBe_0 ?_
  refine xa_istoren (pc := 1) [some (xa_r k), some (xa_i ((v : Nat) : Int)), some (xa_i turn), some (xa_i 1), none, none] dX10_mayBe_1 (by decide) (Nat.le_of_ble_eq_true rfl) rfl rfl ?_
  refine xa_iconst (pc := 2) dX10_mayBe_2 ?_
  refine xa_istorew (pc := 3) [some (xa_r k), some (xa_i ((v : Nat) : Int)), some (xa_i turn), some (xa_i 1), some (xa_i 0), none] dX10_mayBe_3 (by decide) (Nat.le_of_ble_eq_true rfl) rfl rfl ?_
  exact c_mMay_loop hMk hw htu ho hpc hfi hpu (pc + 1) 0 s _ _ (by omega) (by omega) rfl ⟨rfl, rfl, rfl⟩ (by omega) (by omega) hM0 hM1 hM2 hM3 hM4 hM5 hM6 hM7 hM8 hM9 hM10 hM11 hM12 hM13 hM14 hM15 hM16 fr
theorem c_mMayA {G : xa_G} {h : xa_H} (k pc : Nat) (w turn : Int) (F : Nat → Nat → Int) (s : Nat → Int) (ld dg : Nat → Int) (pa jo : Nat) (wa sr pu ri : Int) (h1 : xa_ok w) (h2 : xa_ok turn) (ho : mOk F ld dg pa jo wa sr pu ri) (hpc : F 11 0 = (pc : Int)) (hfi : fiOk pa (F 12) pc) (hM : xM h k F s)  : xa_M G mX10_may [xa_r k, xa_i w, xa_i turn] h 0 0 (fun r h' => (∃ (r0 : Int) (s' : Nat → Int), r = some (xa_i r0) ∧ sq_may ld dg pa jo wa sr pu (F 10) (F 9) (F 12) pc w turn r0 ∧ msF s s' ∧ xM h' k F s') ∧ h'.2 = h.2 ∧ ∀ i, (i < k ∨ k + 17 ≤ i) → h'.1 i = h.1 i) := by
  refine xa_enter (by decide +kernel) (Nat.le_of_ble_eq_true rfl) ?_
  refine xa_locals (ls' := [some (xa_r k), some (xa_i w), some (xa_i turn)]) rfl ?_
  have hn : h.2 = h.2 := rfl
  have fr : ∀ i, (i < k ∨ k + 17 ≤ i) → h.1 i = h.1 i := fun _ _ => rfl
  obtain ⟨hM0, hM1, hM2, hM3, hM4, hM5, hM6, hM7, hM8, hM9, hM10, hM11, hM12, hM13, hM14, hM15, hM16, hMk, hMn⟩ := hM
  have hpa := ho.1.1
  have hR := ho.2.1.1
  refine xa_iload_n (pc := 0) dX10_may_0 rfl ?_
  refine xa_callS (pc := 1) (as := [xa_i w]) (rest := []) dX10_may_1 ⟨qX10_isWay.1, qX10_isWay.2.1, qX10_isWay.2.2, by decide, by decide⟩ lkRX10_156 smX10_isWay rfl rfl (Nat.le_of_ble_eq_true rfl) (Nat.zero_le _) (Nat.zero_le _) (c_mWay _ ⟨by omega, by omega⟩) (fun r h' hq => ?_)
  obtain ⟨rfl, hq⟩ := hq
  have hq := hq.symm
  subst hq
  refine xa_if_eq (pc := 4) (tgt := 14) dX10_may_4 (by decide) xa_okb (fun c_4 => ?_) (fun c_4 => ?_)
  · have c_4 := xa_b0.mp c_4
    refine xa_iconst (pc := 14) dX10_may_14 ?_
    refine xa_ireturn (pc := 15) dX10_may_15 rfl trivial ?_
    exact ⟨⟨_, s, rfl, Or.inl ⟨by omega, rfl⟩, ⟨rfl, rfl, rfl⟩, ⟨hM0, hM1, hM2, hM3, hM4, hM5, hM6, hM7, hM8, hM9, hM10, hM11, hM12, hM13, hM14, hM15, hM16, by omega, by omega⟩⟩, hn, fr⟩
  · have c_4 := xa_b1.mp c_4
    refine xa_iload_n (pc := 7) dX10_may_7 rfl ?_
    refine xa_callS (pc := 8) (as := [xa_i turn]) (rest := []) dX10_may_8 ⟨qX10_isTurn.1, qX10_isTurn.2.1, qX10_isTurn.2.2, by decide, by decide⟩ lkRX10_182 smX10_isTurn rfl rfl (Nat.le_of_ble_eq_true rfl) (Nat.zero_le _) (Nat.zero_le _) (c_mTurn _ ⟨by omega, by omega⟩) (fun r h' hq => ?_)
    obtain ⟨rfl, hq⟩ := hq
    have hq := hq.symm
    subst hq
    refine xa_if_ne (pc := 11) (tgt := 16) dX10_may_11 (by decide) xa_okb (fun c_11 => ?_) (fun c_11 => ?_)
    · have c_11 := xa_b1.mp c_11
      obtain ⟨v, rfl⟩ : ∃ v : Nat, w = (v : Int) := ⟨w.toNat, by omega⟩
      have ef : F 9 ((v : Nat) : Int).toNat = F 9 v := rfl
      refine xa_aload_n (pc := 16) dX10_may_16 rfl ?_
      refine xa_aload_n (pc := 17) dX10_may_17 rfl ?_
      refine xa_getfield (pc := 18) dX10_may_18 flRX10_28 (by omega) (by omega) hM0 rfl ?_
      refine xa_iconst (pc := 21) dX10_may_21 ?_
      refine xa_ialdw (pc := 22) 0 dX10_may_22 (by omega) hM7 (by omega) (by omega) rfl ?_
      refine xa_top (y := pu) ho.2.2.2.1 ?_
      have hpb := ho.1.2.2.2.2.2.2.1
      refine xa_putw (pc := 23) [xa_i (s 0), xa_r (k + 1), xa_r (k + 2), xa_r (k + 3), xa_r (k + 4), xa_r (k + 5), xa_r (k + 6), xa_r (k + 7), xa_r (k + 8), xa_r (k + 9), xa_r (k + 10), xa_r (k + 11), xa_r (k + 12), xa_i (s 13), xa_i pu, xa_i (s 15), xa_r (k + 13), xa_i (s 17), xa_i (s 18), xa_i (s 19), xa_i (s 20), xa_r (k + 14), xa_r (k + 15), xa_i (s 23), xa_r (k + 16)] dX10_may_23 flRX10_149 plX10_14 (by omega) (by omega) hM0 trivial rfl (fun h1 nh1 ch1 oh1 => ?_)
      have hM0 : h1.1 k = xa_o 10 [xa_i (s 0), xa_r (k + 1), xa_r (k + 2), xa_r (k + 3), xa_r (k + 4), xa_r (k + 5), xa_r (k + 6), xa_r (k + 7), xa_r (k + 8), xa_r (k + 9), xa_r (k + 10), xa_r (k + 11), xa_r (k + 12), xa_i (s 13), xa_i pu, xa_i (s 15), xa_r (k + 13), xa_i (s 17), xa_i (s 18), xa_i (s 19), xa_i (s 20), xa_r (k + 14), xa_r (k + 15), xa_i (s 23), xa_r (k + 16)] := ch1
      have hM1 : h1.1 (k + 1) = xa_a 120 (F 1) := (oh1 _ (by omega)).trans hM1
      have hM2 : h1.1 (k + 2) = xa_a 2 (F 2) := (oh1 _ (by omega)).trans hM2
      have hM3 : h1.1 (k + 3) = xa_a 18 (F 3) := (oh1 _ (by omega)).trans hM3
      have hM4 : h1.1 (k + 4) = xa_a 2 (F 4) := (oh1 _ (by omega)).trans hM4
      have hM5 : h1.1 (k + 5) = xa_a 4 (F 5) := (oh1 _ (by omega)).trans hM5
      have hM6 : h1.1 (k + 6) = xa_a 4 (F 6) := (oh1 _ (by omega)).trans hM6
      have hM7 : h1.1 (k + 7) = xa_a 2 (F 7) := (oh1 _ (by omega)).trans hM7
      have hM8 : h1.1 (k + 8) = xa_a 2 (F 8) := (oh1 _ (by omega)).trans hM8
      have hM9 : h1.1 (k + 9) = xa_a 12 (F 9) := (oh1 _ (by omega)).trans hM9
      have hM10 : h1.1 (k + 10) = xa_a 720 (F 10) := (oh1 _ (by omega)).trans hM10
      have hM11 : h1.1 (k + 11) = xa_a 3 (F 11) := (oh1 _ (by omega)).trans hM11
      have hM12 : h1.1 (k + 12) = xa_a 360 (F 12) := (oh1 _ (by omega)).trans hM12
      have hM13 : h1.1 (k + 13) = xa_a 3 (F 13) := (oh1 _ (by omega)).trans hM13
      have hM14 : h1.1 (k + 14) = xa_a 583200 (F 14) := (oh1 _ (by omega)).trans hM14
      have hM15 : h1.1 (k + 15) = xa_a 583200 (F 15) := (oh1 _ (by omega)).trans hM15
      have hM16 : h1.1 (k + 16) = xa_a 4 (F 16) := (oh1 _ (by omega)).trans hM16
      have hn : h1.2 = h.2 := nh1.trans hn
      have fr : ∀ i, (i < k ∨ k + 17 ≤ i) → h1.1 i = h.1 i := fun i hi => (oh1 i (by omega)).trans (fr i hi)
      refine xa_aload_n (pc := 26) dX10_may_26 rfl ?_
      refine xa_iload_n (pc := 27) dX10_may_27 rfl ?_
      refine xa_iload_n (pc := 28) dX10_may_28 rfl ?_
      refine xa_callV (pc := 29) (as := [xa_i ((v : Nat) : Int), xa_i turn]) (rest := []) dX10_may_29 ⟨qX10_mayBe.1, qX10_mayBe.2.1, qX10_mayBe.2.2, by decide, by decide⟩ lkRX10_251 imX10_mayBe seX10_mayBe rfl rfl (by omega) (by omega) hM0 rfl (Nat.le_of_ble_eq_true rfl) (Nat.zero_le _) (Nat.zero_le _) (c_mMayBe _ v pc turn pu F (xa_upf s 14 pu) ld dg pa jo wa sr pu ri (by omega) (by omega) ho hpc hfi rfl (by omega) ⟨hM0, hM1, hM2, hM3, hM4, hM5, hM6, hM7, hM8, hM9, hM10, hM11, hM12, hM13, hM14, hM15, hM16, by omega, by omega⟩) (fun r h' hq => ?_)
      obtain ⟨⟨s102, rfl, hmss102, h14, hM⟩, hqn, hqf⟩ := hq
      have hmss102 : msF s s102 := ⟨hmss102.1.trans (show msF s _ from ⟨rfl, rfl, rfl⟩).1, hmss102.2.1.trans (show msF s _ from ⟨rfl, rfl, rfl⟩).2.1, hmss102.2.2.trans (show msF s _ from ⟨rfl, rfl, rfl⟩).2.2⟩
      obtain ⟨hM0, hM1, hM2, hM3, hM4, hM5, hM6, hM7, hM8, hM9, hM10, hM11, hM12, hM13, hM14, hM15, hM16, hMk, hMn⟩ := hM
      rw [h14] at hM0
      have hM0 : h'.1 k = xa_o 10 [xa_i (s102 0), xa_r (k + 1), xa_r (k + 2), xa_r (k + 3), xa_r (k + 4), xa_r (k + 5), xa_r (k + 6), xa_r (k + 7), xa_r (k + 8), xa_r (k + 9), xa_r (k + 10), xa_r (k + 11), xa_r (k + 12), xa_i (s102 13), xa_i pu, xa_i (s102 15), xa_r (k + 13), xa_i (s102 17), xa_i (s102 18), xa_i (s102 19), xa_i (s102 20), xa_r (k + 14), xa_r (k + 15), xa_i (s102 23), xa_r (k + 16)] := hM0
      have hM1 : h'.1 (k + 1) = xa_a 120 (F 1) := hM1
      have hM2 : h'.1 (k + 2) = xa_a 2 (F 2) := hM2
      have hM3 : h'.1 (k + 3) = xa_a 18 (F 3) := hM3
      have hM4 : h'.1 (k + 4) = xa_a 2 (F 4) := hM4
      have hM5 : h'.1 (k + 5) = xa_a 4 (F 5) := hM5
      have hM6 : h'.1 (k + 6) = xa_a 4 (F 6) := hM6
      have hM7 : h'.1 (k + 7) = xa_a 2 (F 7) := hM7
      have hM8 : h'.1 (k + 8) = xa_a 2 (F 8) := hM8
      have hM9 : h'.1 (k + 9) = xa_a 12 (F 9) := hM9
      have hM10 : h'.1 (k + 10) = xa_a 720 (F 10) := hM10
      have hM11 : h'.1 (k + 11) = xa_a 3 (F 11) := hM11
      have hM12 : h'.1 (k + 12) = xa_a 360 (F 12) := hM12
      have hM13 : h'.1 (k + 13) = xa_a 3 (F 13) := hM13
      have hM14 : h'.1 (k + 14) = xa_a 583200 (F 14) := hM14
      have hM15 : h'.1 (k + 15) = xa_a 583200 (F 15) := hM15
      have hM16 : h'.1 (k + 16) = xa_a 4 (F 16) := hM16
      have hn : h'.2 = h.2 := hqn.trans hn
      have fr : ∀ i, (i < k ∨ k + 17 ≤ i) → h'.1 i = h.1 i := fun i hi => (hqf i (by omega)).trans (fr i hi)
      refine xa_if_eq (pc := 32) (tgt := 39) dX10_may_32 (by decide) xa_okb (fun c_32 => ?_) (fun c_32 => ?_)
      · have c_32 := xa_b0.mp c_32
        refine xa_iconst (pc := 39) dX10_may_39 ?_
        refine xa_ireturn (pc := 40) dX10_may_40 rfl trivial ?_
        exact ⟨⟨_, xa_upf s102 14 pu, rfl, Or.inr ⟨by omega, xa_bf c_32⟩, hmss102, ⟨hM0, hM1, hM2, hM3, hM4, hM5, hM6, hM7, hM8, hM9, hM10, hM11, hM12, hM13, hM14, hM15, hM16, by omega, by omega⟩⟩, hn, fr⟩
      · have c_32 := xa_b1.mp c_32
        refine xa_iconst (pc := 35) dX10_may_35 ?_
        refine xa_goto (pc := 36) (tgt := 40) dX10_may_36 (by decide) ?_
        refine xa_ireturn (pc := 40) dX10_may_40 rfl trivial ?_
        exact ⟨⟨_, xa_upf s102 14 pu, rfl, Or.inr ⟨by omega, xa_bt c_32⟩, hmss102, ⟨hM0, hM1, hM2, hM3, hM4, hM5, hM6, hM7, hM8, hM9, hM10, hM11, hM12, hM13, hM14, hM15, hM16, by omega, by omega⟩⟩, hn, fr⟩
    · have c_11 := xa_b0.mp c_11
      refine xa_iconst (pc := 14) dX10_may_14 ?_
      refine xa_ireturn (pc := 15) dX10_may_15 rfl trivial ?_
      exact ⟨⟨_, s, rfl, Or.inl ⟨by omega, rfl⟩, ⟨rfl, rfl, rfl⟩, ⟨hM0, hM1, hM2, hM3, hM4, hM5, hM6, hM7, hM8, hM9, hM10, hM11, hM12, hM13, hM14, hM15, hM16, by omega, by omega⟩⟩, hn, fr⟩
theorem c_mLook_loop {G : xa_G} {h0 : xa_H} {k v pc : Nat} {q : Int} {F : Nat → Nat → Int} {s : Nat → Int} {ld dg : Nat → Int} {pa jo : Nat} {wa sr pu ri : Int} (hk : 2 ≤ k) (hw : v ≤ 3) (hq : 0 ≤ q ∧ q ≤ 1) (ho : mOk F ld dg pa jo wa sr pu ri) (hpc : F 11 0 = (pc : Int)) (hfi : fiOk pa (F 12) pc) (hpu : -9999 ≤ pu ∧ pu ≤ 9999) : ∀ (d : Nat) (e : Nat) (z : Int) (s1 : Nat → Int) (h : xa_H), 360 - e < d → (e ≤ 360) → ((z = -4 ∧ ∀ t, 360 - e ≤ t → t < 360 → (fun t => fl_P ld dg pa jo wa sr pu (F 10) (F 9) (v : Int) (F 12) pc ((t : Nat) : Int)) t = false) ∨ ∃ t : Nat, (360 - e ≤ t ∧ t < 360) ∧ (fun t => fl_P ld dg pa jo wa sr pu (F 10) (F 9) (v : Int) (F 12) pc ((t : Nat) : Int)) t = true ∧ (∀ t', 360 - e ≤ t' → t' < t → (fun t => fl_P ld dg pa jo wa sr pu (F 10) (F 9) (v : Int) (F 12) pc ((t : Nat) : Int)) t' = false) ∧ z = (t : Int)) → (msF s s1) → (h.2 = h0.2) → (k + 16 < h.2) → (h.1 k = xa_o 10 [xa_i (s1 0), xa_r (k + 1), xa_r (k + 2), xa_r (k + 3), xa_r (k + 4), xa_r (k + 5), xa_r (k + 6), xa_r (k + 7), xa_r (k + 8), xa_r (k + 9), xa_r (k + 10), xa_r (k + 11), xa_r (k + 12), xa_i (s1 13), xa_i pu, xa_i (s1 15), xa_r (k + 13), xa_i (s1 17), xa_i (s1 18), xa_i (s1 19), xa_i (s1 20), xa_r (k + 14), xa_r (k + 15), xa_i (s1 23), xa_r (k + 16)]) → (h.1 (k + 1) = xa_a 120 (F 1)) → (h.1 (k + 2) = xa_a 2 (F 2)) → (h.1 (k + 3) = xa_a 18 (F 3)) → (h.1 (k + 4) = xa_a 2 (F 4)) → (h.1 (k + 5) = xa_a 4 (F 5)) → (h.1 (k + 6) = xa_a 4 (F 6)) → (h.1 (k + 7) = xa_a 2 (F 7)) → (h.1 (k + 8) = xa_a 2 (F 8)) → (h.1 (k + 9) = xa_a 12 (F 9)) → (h.1 (k + 10) = xa_a 720 (F 10)) → (h.1 (k + 11) = xa_a 3 (F 11)) → (h.1 (k + 12) = xa_a 360 (F 12)) → (h.1 (k + 13) = xa_a 3 (F 13)) → (h.1 (k + 14) = xa_a 583200 (F 14)) → (h.1 (k + 15) = xa_a 583200 (F 15)) → (h.1 (k + 16) = xa_a 4 (F 16)) → (∀ i, (i < k ∨ k + 17 ≤ i) → h.1 i = h0.1 i) → xa_W G mX10_looked (xa_Z G (fun r h' => (∃ (r0 : Int) (s' : Nat → Int), r = some (xa_i r0) ∧ (if q = 0 then r0 = (ct_n (fun t => fl_P ld dg pa jo wa sr pu (F 10) (F 9) (v : Int) (F 12) pc ((t : Nat) : Int)) 360 : Int) else ft_is (fun t => fl_P ld dg pa jo wa sr pu (F 10) (F 9) (v : Int) (F 12) pc ((t : Nat) : Int)) 360 r0) ∧ msF s s' ∧ xM h' k F s') ∧ h'.2 = h0.2 ∧ ∀ i, (i < k ∨ k + 17 ≤ i) → h'.1 i = h0.1 i)) 40 [some (xa_r k), some (xa_i ((v : Nat) : Int)), some (xa_i q), some (xa_i ((ct_d (fun t => fl_P ld dg pa jo wa sr pu (F 10) (F 9) (v : Int) (F 12) pc ((t : Nat) : Int)) 360 e : Nat) : Int)), some (xa_i z), some (xa_i (359 - ((e : Nat) : Int)))] [] h 0 0 := by
  intro d
  induction d with
  | zero => intros; exfalso; omega
  | succ d ih =>
    intro e z s1 h hd he hz hms hn0 hkn hM0 hM1 hM2 hM3 hM4 hM5 hM6 hM7 hM8 hM9 hM10 hM11 hM12 hM13 hM14 hM15 hM16 fr0
    have hn : h.2 = h.2 := rfl
    have fr : ∀ i, (i < k ∨ k + 17 ≤ i) → h.1 i = h.1 i := fun _ _ => rfl
    have hcl := ct_le (fun t => fl_P ld dg pa jo wa sr pu (F 10) (F 9) (v : Int) (F 12) pc ((t : Nat) : Int)) 360
    have hce := ct_d_eq (fun t => fl_P ld dg pa jo wa sr pu (F 10) (F 9) (v : Int) (F 12) pc ((t : Nat) : Int)) 360 e he
    refine xa_iload (pc := 40) dX10_looked_40 rfl ?_
    refine xa_if_lt (pc := 42) (tgt := 68) dX10_looked_42 (by decide) ⟨by omega, by omega⟩ (fun c_42 => ?_) (fun c_42 => ?_)
    · skip
      refine xa_iload_n (pc := 68) dX10_looked_68 rfl ?_
      refine xa_if_ne (pc := 69) (tgt := 76) dX10_looked_69 (by decide) ⟨by omega, by omega⟩ (fun c_69 => ?_) (fun c_69 => ?_)
      · skip
        refine xa_iload (pc := 76) dX10_looked_76 rfl ?_
        refine xa_ireturn (pc := 78) dX10_looked_78 rfl trivial ?_
        have he3 : e = 360 := by omega
        subst he3
        exact ⟨⟨_, xa_upf s1 14 pu, rfl, (by rw [if_neg (by omega)]; exact hz.elim (fun z => Or.inr ⟨fun t ht => z.2 t (by omega) ht, z.1⟩) (fun ⟨t, t1, t2, t3, t4⟩ => Or.inl ⟨t, t1.2, t2, fun t2 ht => t3 t2 (by omega) ht, t4⟩)), hms, ⟨hM0, hM1, hM2, hM3, hM4, hM5, hM6, hM7, hM8, hM9, hM10, hM11, hM12, hM13, hM14, hM15, hM16, by omega, by omega⟩⟩, by omega, fun i hi => (fr i hi).trans (fr0 i hi)⟩
      · skip
        refine xa_iload_n (pc := 72) dX10_looked_72 rfl ?_
        refine xa_goto (pc := 73) (tgt := 78) dX10_looked_73 (by decide) ?_
        refine xa_ireturn (pc := 78) dX10_looked_78 rfl trivial ?_
        have he3 : e = 360 := by omega
        subst he3
        exact ⟨⟨_, xa_upf s1 14 pu, rfl, (by rw [if_pos (by omega)]; have hce : ct_n (fun t => fl_P ld dg pa jo wa sr pu (F 10) (F 9) (v : Int) (F 12) pc ((t : Nat) : Int)) 0 + ct_d (fun t => fl_P ld dg pa jo wa sr pu (F 10) (F 9) (v : Int) (F 12) pc ((t : Nat) : Int)) 360 360 = ct_n (fun t => fl_P ld dg pa jo wa sr pu (F 10) (F 9) (v : Int) (F 12) pc ((t : Nat) : Int)) 360 := hce; have h00 : ct_n (fun t => fl_P ld dg pa jo wa sr pu (F 10) (F 9) (v : Int) (F 12) pc ((t : Nat) : Int)) 0 = 0 := rfl; omega), hms, ⟨hM0, hM1, hM2, hM3, hM4, hM5, hM6, hM7, hM8, hM9, hM10, hM11, hM12, hM13, hM14, hM15, hM16, by omega, by omega⟩⟩, by omega, fun i hi => (fr i hi).trans (fr0 i hi)⟩
    · skip
      refine xa_locals (ls' := [some (xa_r k), some (xa_i ((v : Nat) : Int)), some (xa_i q), some (xa_i ((ct_d (fun t => fl_P ld dg pa jo wa sr pu (F 10) (F 9) (v : Int) (F 12) pc ((t : Nat) : Int)) 360 e : Nat) : Int)), some (xa_i z), some (xa_i ((359 - e : Nat) : Int))]) (by rw [show (359 : Int) - ((e : Nat) : Int) = ((359 - e : Nat) : Int) by omega]) ?_
      refine xa_aload_n (pc := 45) dX10_looked_45 rfl ?_
      refine xa_iload_n (pc := 46) dX10_looked_46 rfl ?_
      refine xa_iload (pc := 47) dX10_looked_47 rfl ?_
      refine xa_callV (pc := 49) (as := [xa_i ((v : Nat) : Int), xa_i ((359 - e : Nat) : Int)]) (rest := []) dX10_looked_49 ⟨qX10_mayBe.1, qX10_mayBe.2.1, qX10_mayBe.2.2, by decide, by decide⟩ lkRX10_251 imX10_mayBe seX10_mayBe rfl rfl (by omega) (by omega) hM0 rfl (Nat.le_of_ble_eq_true rfl) (Nat.zero_le _) (Nat.zero_le _) (c_mMayBe _ v pc ((359 - e : Nat) : Int) pu F (xa_upf (xa_upf (xa_upf (xa_upf (xa_upf (xa_upf (xa_upf (xa_upf (xa_upf s 0 (s1 0)) 13 (s1 13)) 14 pu) 15 (s1 15)) 17 (s1 17)) 18 (s1 18)) 19 (s1 19)) 20 (s1 20)) 23 (s1 23)) ld dg pa jo wa sr pu ri (by omega) (by omega) ho hpc hfi rfl (by omega) ⟨hM0, hM1, hM2, hM3, hM4, hM5, hM6, hM7, hM8, hM9, hM10, hM11, hM12, hM13, hM14, hM15, hM16, by omega, by omega⟩) (fun r h' hq => ?_)
      obtain ⟨⟨s101, rfl, hmss101, h14, hM⟩, hqn, hqf⟩ := hq
      have hmss101 : msF s s101 := ⟨hmss101.1.trans hms.1, hmss101.2.1.trans hms.2.1, hmss101.2.2.trans hms.2.2⟩
      obtain ⟨hM0, hM1, hM2, hM3, hM4, hM5, hM6, hM7, hM8, hM9, hM10, hM11, hM12, hM13, hM14, hM15, hM16, hMk, hMn⟩ := hM
      rw [h14] at hM0
      have hM0 : h'.1 k = xa_o 10 [xa_i (s101 0), xa_r (k + 1), xa_r (k + 2), xa_r (k + 3), xa_r (k + 4), xa_r (k + 5), xa_r (k + 6), xa_r (k + 7), xa_r (k + 8), xa_r (k + 9), xa_r (k + 10), xa_r (k + 11), xa_r (k + 12), xa_i (s101 13), xa_i pu, xa_i (s101 15), xa_r (k + 13), xa_i (s101 17), xa_i (s101 18), xa_i (s101 19), xa_i (s101 20), xa_r (k + 14), xa_r (k + 15), xa_i (s101 23), xa_r (k + 16)] := hM0
      have hM1 : h'.1 (k + 1) = xa_a 120 (F 1) := hM1
      have hM2 : h'.1 (k + 2) = xa_a 2 (F 2) := hM2
      have hM3 : h'.1 (k + 3) = xa_a 18 (F 3) := hM3
      have hM4 : h'.1 (k + 4) = xa_a 2 (F 4) := hM4
      have hM5 : h'.1 (k + 5) = xa_a 4 (F 5) := hM5
      have hM6 : h'.1 (k + 6) = xa_a 4 (F 6) := hM6
      have hM7 : h'.1 (k + 7) = xa_a 2 (F 7) := hM7
      have hM8 : h'.1 (k + 8) = xa_a 2 (F 8) := hM8
      have hM9 : h'.1 (k + 9) = xa_a 12 (F 9) := hM9
      have hM10 : h'.1 (k + 10) = xa_a 720 (F 10) := hM10
      have hM11 : h'.1 (k + 11) = xa_a 3 (F 11) := hM11
      have hM12 : h'.1 (k + 12) = xa_a 360 (F 12) := hM12
      have hM13 : h'.1 (k + 13) = xa_a 3 (F 13) := hM13
      have hM14 : h'.1 (k + 14) = xa_a 583200 (F 14) := hM14
      have hM15 : h'.1 (k + 15) = xa_a 583200 (F 15) := hM15
      have hM16 : h'.1 (k + 16) = xa_a 4 (F 16) := hM16
      have hn : h'.2 = h.2 := hqn.trans hn
      have fr : ∀ i, (i < k ∨ k + 17 ≤ i) → h'.1 i = h.1 i := fun i hi => (hqf i (by omega)).trans (fr i hi)
      refine xa_if_eq (pc := 52) (tgt := 62) dX10_looked_52 (by decide) xa_okb (fun c_52 => ?_) (fun c_52 => ?_)
      · have c_52 := xa_b0.mp c_52
        refine xa_iincw (pc := 62) (y := 359 - ((e + 1 : Nat) : Int)) [some (xa_r k), some (xa_i ((v : Nat) : Int)), some (xa_i q), some (xa_i ((ct_d (fun t => fl_P ld dg pa jo wa sr pu (F 10) (F 9) (v : Int) (F 12) pc ((t : Nat) : Int)) 360 e : Nat) : Int)), some (xa_i z), some (xa_i (359 - ((e + 1 : Nat) : Int)))] dX10_looked_62 (by decide) rfl rfl (by omega) rfl ?_
        refine xa_goto (pc := 65) (tgt := 40) dX10_looked_65 (by decide) ?_
        have ec : ((ct_d (fun t => fl_P ld dg pa jo wa sr pu (F 10) (F 9) (v : Int) (F 12) pc ((t : Nat) : Int)) 360 e : Nat) : Int) = ((ct_d (fun t => fl_P ld dg pa jo wa sr pu (F 10) (F 9) (v : Int) (F 12) pc ((t : Nat) : Int)) 360 (e + 1) : Nat) : Int) := by
          show ((ct_d (fun t => fl_P ld dg pa jo wa sr pu (F 10) (F 9) (v : Int) (F 12) pc ((t : Nat) : Int)) 360 e : Nat) : Int) = ((ct_d (fun t => fl_P ld dg pa jo wa sr pu (F 10) (F 9) (v : Int) (F 12) pc ((t : Nat) : Int)) 360 e + (if (fun t => fl_P ld dg pa jo wa sr pu (F 10) (F 9) (v : Int) (F 12) pc ((t : Nat) : Int)) (360 - 1 - e) = true then 1 else 0) : Nat) : Int)
          rw [show 360 - 1 - e = 359 - e by omega, if_neg (by rw [(show (fun t => fl_P ld dg pa jo wa sr pu (F 10) (F 9) (v : Int) (F 12) pc ((t : Nat) : Int)) (359 - e) = false from Bool.eq_false_iff.mpr c_52)]; decide)]
          first | rfl | omega
        rw [ec]
        exact ih (e + 1) z s101 _ (by clear hz; omega) (by clear hz; omega) (hz.elim (fun z => Or.inl ⟨z.1, fun t h1 h2 => if e9 : t = 359 - e then (by rw [e9]; exact (show (fun t => fl_P ld dg pa jo wa sr pu (F 10) (F 9) (v : Int) (F 12) pc ((t : Nat) : Int)) (359 - e) = false from Bool.eq_false_iff.mpr c_52)) else z.2 t (by omega) h2⟩) (fun ⟨t, t1, t2, t3, t4⟩ => Or.inr ⟨t, by omega, t2, fun t' h1 h2 => if e9 : t' = 359 - e then (by rw [e9]; exact (show (fun t => fl_P ld dg pa jo wa sr pu (F 10) (F 9) (v : Int) (F 12) pc ((t : Nat) : Int)) (359 - e) = false from Bool.eq_false_iff.mpr c_52)) else t3 t' (by omega) h2, t4⟩)) hmss101 (by omega) (by omega) hM0 hM1 hM2 hM3 hM4 hM5 hM6 hM7 hM8 hM9 hM10 hM11 hM12 hM13 hM14 hM15 hM16 (fun i hi => (fr i hi).trans (fr0 i hi))
      · have c_52 := xa_b1.mp c_52
        refine xa_iincw (pc := 55) (y := ((ct_d (fun t => fl_P ld dg pa jo wa sr pu (F 10) (F 9) (v : Int) (F 12) pc ((t : Nat) : Int)) 360 e : Nat) : Int) + 1) [some (xa_r k), some (xa_i ((v : Nat) : Int)), some (xa_i q), some (xa_i (((ct_d (fun t => fl_P ld dg pa jo wa sr pu (F 10) (F 9) (v : Int) (F 12) pc ((t : Nat) : Int)) 360 e : Nat) : Int) + 1)), some (xa_i z), some (xa_i ((359 - e : Nat) : Int))] dX10_looked_55 (by decide) rfl rfl rfl rfl ?_
        refine xa_iload (pc := 58) dX10_looked_58 rfl ?_
        refine xa_istorew (pc := 60) [some (xa_r k), some (xa_i ((v : Nat) : Int)), some (xa_i q), some (xa_i (((ct_d (fun t => fl_P ld dg pa jo wa sr pu (F 10) (F 9) (v : Int) (F 12) pc ((t : Nat) : Int)) 360 e : Nat) : Int) + 1)), some (xa_i ((359 - e : Nat) : Int)), some (xa_i ((359 - e : Nat) : Int))] dX10_looked_60 (by decide) (Nat.le_of_ble_eq_true rfl) rfl rfl ?_
        refine xa_iincw (pc := 62) (y := 359 - ((e + 1 : Nat) : Int)) [some (xa_r k), some (xa_i ((v : Nat) : Int)), some (xa_i q), some (xa_i (((ct_d (fun t => fl_P ld dg pa jo wa sr pu (F 10) (F 9) (v : Int) (F 12) pc ((t : Nat) : Int)) 360 e : Nat) : Int) + 1)), some (xa_i ((359 - e : Nat) : Int)), some (xa_i (359 - ((e + 1 : Nat) : Int)))] dX10_looked_62 (by decide) rfl rfl (by omega) rfl ?_
        refine xa_goto (pc := 65) (tgt := 40) dX10_looked_65 (by decide) ?_
        have ec : ((ct_d (fun t => fl_P ld dg pa jo wa sr pu (F 10) (F 9) (v : Int) (F 12) pc ((t : Nat) : Int)) 360 e : Nat) : Int) + 1 = ((ct_d (fun t => fl_P ld dg pa jo wa sr pu (F 10) (F 9) (v : Int) (F 12) pc ((t : Nat) : Int)) 360 (e + 1) : Nat) : Int) := by
          show ((ct_d (fun t => fl_P ld dg pa jo wa sr pu (F 10) (F 9) (v : Int) (F 12) pc ((t : Nat) : Int)) 360 e : Nat) : Int) + 1 = ((ct_d (fun t => fl_P ld dg pa jo wa sr pu (F 10) (F 9) (v : Int) (F 12) pc ((t : Nat) : Int)) 360 e + (if (fun t => fl_P ld dg pa jo wa sr pu (F 10) (F 9) (v : Int) (F 12) pc ((t : Nat) : Int)) (360 - 1 - e) = true then 1 else 0) : Nat) : Int)
          rw [show 360 - 1 - e = 359 - e by omega, if_pos (show (fun t => fl_P ld dg pa jo wa sr pu (F 10) (F 9) (v : Int) (F 12) pc ((t : Nat) : Int)) (359 - e) = true from c_52)]
          first | rfl | omega
        rw [ec]
        exact ih (e + 1) ((359 - e : Nat) : Int) s101 _ (by clear hz; omega) (by clear hz; omega) (Or.inr ⟨359 - e, (lk_ix (by clear hz; omega)).1, (show (fun t => fl_P ld dg pa jo wa sr pu (F 10) (F 9) (v : Int) (F 12) pc ((t : Nat) : Int)) (359 - e) = true from c_52), fun t1 h1 h2 => ((lk_ix (by clear hz; omega)).2 t1 h1 h2).elim, rfl⟩) hmss101 (by omega) (by omega) hM0 hM1 hM2 hM3 hM4 hM5 hM6 hM7 hM8 hM9 hM10 hM11 hM12 hM13 hM14 hM15 hM16 (fun i hi => (fr i hi).trans (fr0 i hi))
theorem c_mLooked {G : xa_G} {h : xa_H} (k pc : Nat) (w q : Int) (F : Nat → Nat → Int) (s : Nat → Int) (ld dg : Nat → Int) (pa jo : Nat) (wa sr pu ri : Int) (h1 : xa_ok w) (h2 : xa_ok q) (ho : mOk F ld dg pa jo wa sr pu ri) (hpc : F 11 0 = (pc : Int)) (hfi : fiOk pa (F 12) pc) (hM : xM h k F s)  : xa_M G mX10_looked [xa_r k, xa_i w, xa_i q] h 0 0 (fun r h' => (∃ (r0 : Int) (s' : Nat → Int), r = some (xa_i r0) ∧ sq_looked ld dg pa jo wa sr pu (F 10) (F 9) (F 12) pc w q r0 ∧ msF s s' ∧ xM h' k F s') ∧ h'.2 = h.2 ∧ ∀ i, (i < k ∨ k + 17 ≤ i) → h'.1 i = h.1 i) := by
  refine xa_enter (by decide +kernel) (Nat.le_of_ble_eq_true rfl) ?_
  refine xa_locals (ls' := [some (xa_r k), some (xa_i w), some (xa_i q), none, none, none]) rfl ?_
  have hn : h.2 = h.2 := rfl
  have fr : ∀ i, (i < k ∨ k + 17 ≤ i) → h.1 i = h.1 i := fun _ _ => rfl
  obtain ⟨hM0, hM1, hM2, hM3, hM4, hM5, hM6, hM7, hM8, hM9, hM10, hM11, hM12, hM13, hM14, hM15, hM16, hMk, hMn⟩ := hM
  have hpa := ho.1.1
  have hR := ho.2.1.1
  refine xa_iload_n (pc := 0) dX10_looked_0 rfl ?_
  refine xa_callS (pc := 1) (as := [xa_i w]) (rest := []) dX10_looked_1 ⟨qX10_isWay.1, qX10_isWay.2.1, qX10_isWay.2.2, by decide, by decide⟩ lkRX10_156 smX10_isWay rfl rfl (Nat.le_of_ble_eq_true rfl) (Nat.zero_le _) (Nat.zero_le _) (c_mWay _ ⟨by omega, by omega⟩) (fun r h' hq => ?_)
  obtain ⟨rfl, hq⟩ := hq
  have hq := hq.symm
  subst hq
  refine xa_if_eq (pc := 4) (tgt := 17) dX10_looked_4 (by decide) xa_okb (fun c_4 => ?_) (fun c_4 => ?_)
  · have c_4 := xa_b0.mp c_4
    refine xa_iconst (pc := 17) dX10_looked_17 ?_
    refine xa_ireturn (pc := 18) dX10_looked_18 rfl trivial ?_
    exact ⟨⟨_, s, rfl, Or.inl ⟨by omega, rfl⟩, ⟨rfl, rfl, rfl⟩, ⟨hM0, hM1, hM2, hM3, hM4, hM5, hM6, hM7, hM8, hM9, hM10, hM11, hM12, hM13, hM14, hM15, hM16, by omega, by omega⟩⟩, hn, fr⟩
  · have c_4 := xa_b1.mp c_4
    refine xa_iload_n (pc := 7) dX10_looked_7 rfl ?_
    refine xa_i2l (pc := 8) dX10_looked_8 ⟨by omega, by omega⟩ ?_
    refine xa_lconst (pc := 9) (n := 0) dX10_looked_9 rfl ?_
    refine xa_lconst (pc := 10) (n := 1) dX10_looked_10 rfl ?_
    refine xa_callS (pc := 11) (as := [xa_l q, xa_l 0, xa_l 1]) (rest := []) dX10_looked_11 ⟨qX10_in.1, qX10_in.2.1, qX10_in.2.2, by decide, by decide⟩ lkRX10_65 smX10_in rfl rfl (Nat.le_of_ble_eq_true rfl) (Nat.zero_le _) (Nat.zero_le _) (c_in _ _ _ ⟨by omega, by omega⟩ ⟨by omega, by omega⟩ ⟨by omega, by omega⟩) (fun r h' hq => ?_)
    obtain ⟨rfl, hq⟩ := hq
    have hq := hq.symm
    subst hq
    refine xa_if_ne (pc := 14) (tgt := 19) dX10_looked_14 (by decide) xa_okb (fun c_14 => ?_) (fun c_14 => ?_)
    · have c_14 := xa_b1.mp c_14
      obtain ⟨v, rfl⟩ : ∃ v : Nat, w = (v : Int) := ⟨w.toNat, by omega⟩
      have ef : F 9 ((v : Nat) : Int).toNat = F 9 v := rfl
      refine xa_aload_n (pc := 19) dX10_looked_19 rfl ?_
      refine xa_aload_n (pc := 20) dX10_looked_20 rfl ?_
      refine xa_getfield (pc := 21) dX10_looked_21 flRX10_28 (by omega) (by omega) hM0 rfl ?_
      refine xa_iconst (pc := 24) dX10_looked_24 ?_
      refine xa_ialdw (pc := 25) 0 dX10_looked_25 (by omega) hM7 (by omega) (by omega) rfl ?_
      refine xa_top (y := pu) ho.2.2.2.1 ?_
      have hpb := ho.1.2.2.2.2.2.2.1
      refine xa_putw (pc := 26) [xa_i (s 0), xa_r (k + 1), xa_r (k + 2), xa_r (k + 3), xa_r (k + 4), xa_r (k + 5), xa_r (k + 6), xa_r (k + 7), xa_r (k + 8), xa_r (k + 9), xa_r (k + 10), xa_r (k + 11), xa_r (k + 12), xa_i (s 13), xa_i pu, xa_i (s 15), xa_r (k + 13), xa_i (s 17), xa_i (s 18), xa_i (s 19), xa_i (s 20), xa_r (k + 14), xa_r (k + 15), xa_i (s 23), xa_r (k + 16)] dX10_looked_26 flRX10_149 plX10_14 (by omega) (by omega) hM0 trivial rfl (fun h1 nh1 ch1 oh1 => ?_)
      have hM0 : h1.1 k = xa_o 10 [xa_i (s 0), xa_r (k + 1), xa_r (k + 2), xa_r (k + 3), xa_r (k + 4), xa_r (k + 5), xa_r (k + 6), xa_r (k + 7), xa_r (k + 8), xa_r (k + 9), xa_r (k + 10), xa_r (k + 11), xa_r (k + 12), xa_i (s 13), xa_i pu, xa_i (s 15), xa_r (k + 13), xa_i (s 17), xa_i (s 18), xa_i (s 19), xa_i (s 20), xa_r (k + 14), xa_r (k + 15), xa_i (s 23), xa_r (k + 16)] := ch1
      have hM1 : h1.1 (k + 1) = xa_a 120 (F 1) := (oh1 _ (by omega)).trans hM1
      have hM2 : h1.1 (k + 2) = xa_a 2 (F 2) := (oh1 _ (by omega)).trans hM2
      have hM3 : h1.1 (k + 3) = xa_a 18 (F 3) := (oh1 _ (by omega)).trans hM3
      have hM4 : h1.1 (k + 4) = xa_a 2 (F 4) := (oh1 _ (by omega)).trans hM4
      have hM5 : h1.1 (k + 5) = xa_a 4 (F 5) := (oh1 _ (by omega)).trans hM5
      have hM6 : h1.1 (k + 6) = xa_a 4 (F 6) := (oh1 _ (by omega)).trans hM6
      have hM7 : h1.1 (k + 7) = xa_a 2 (F 7) := (oh1 _ (by omega)).trans hM7
      have hM8 : h1.1 (k + 8) = xa_a 2 (F 8) := (oh1 _ (by omega)).trans hM8
      have hM9 : h1.1 (k + 9) = xa_a 12 (F 9) := (oh1 _ (by omega)).trans hM9
      have hM10 : h1.1 (k + 10) = xa_a 720 (F 10) := (oh1 _ (by omega)).trans hM10
      have hM11 : h1.1 (k + 11) = xa_a 3 (F 11) := (oh1 _ (by omega)).trans hM11
      have hM12 : h1.1 (k + 12) = xa_a 360 (F 12) := (oh1 _ (by omega)).trans hM12
      have hM13 : h1.1 (k + 13) = xa_a 3 (F 13) := (oh1 _ (by omega)).trans hM13
      have hM14 : h1.1 (k + 14) = xa_a 583200 (F 14) := (oh1 _ (by omega)).trans hM14
      have hM15 : h1.1 (k + 15) = xa_a 583200 (F 15) := (oh1 _ (by omega)).trans hM15
      have hM16 : h1.1 (k + 16) = xa_a 4 (F 16) := (oh1 _ (by omega)).trans hM16
      have hn : h1.2 = h.2 := nh1.trans hn
      have fr : ∀ i, (i < k ∨ k + 17 ≤ i) → h1.1 i = h.1 i := fun i hi => (oh1 i (by omega)).trans (fr i hi)
      refine xa_iconst (pc := 29) dX10_looked_29 ?_
      refine xa_istoren (pc := 30) [some (xa_r k), some (xa_i ((v : Nat) : Int)), some (xa_i q), some (xa_i 0), none, none] dX10_looked_30 (by decide) (Nat.le_of_ble_eq_true rfl) rfl rfl ?_
      refine xa_bipush (pc := 31) dX10_looked_31 rfl ?_
      refine xa_istorew (pc := 33) [some (xa_r k), some (xa_i ((v : Nat) : Int)), some (xa_i q), some (xa_i 0), some (xa_i (-4)), none] dX10_looked_33 (by decide) (Nat.le_of_ble_eq_true rfl) rfl rfl ?_
      refine xa_sipush (pc := 35) dX10_looked_35 rfl ?_
      refine xa_istorew (pc := 38) [some (xa_r k), some (xa_i ((v : Nat) : Int)), some (xa_i q), some (xa_i 0), some (xa_i (-4)), some (xa_i 359)] dX10_looked_38 (by decide) (Nat.le_of_ble_eq_true rfl) rfl rfl ?_
      refine xa_wmono ?_ (c_mLook_loop hMk (by omega) (by omega) ho hpc hfi hpb 361 0 (-4) (xa_upf s 14 pu) _ (by omega) (by omega) (Or.inl ⟨rfl, fun t h1 h2 => by omega⟩) ⟨rfl, rfl, rfl⟩ (by omega) (by omega) hM0 hM1 hM2 hM3 hM4 hM5 hM6 hM7 hM8 hM9 hM10 hM11 hM12 hM13 hM14 hM15 hM16 fr)
      rintro r h1 ⟨⟨r0, s1, e1, e2, e3, e4⟩, e5⟩
      exact ⟨⟨r0, s1, e1, Or.inr ⟨by omega, e2⟩, e3, e4⟩, e5⟩
    · have c_14 := xa_b0.mp c_14
      refine xa_iconst (pc := 17) dX10_looked_17 ?_
      refine xa_ireturn (pc := 18) dX10_looked_18 rfl trivial ?_
      exact ⟨⟨_, s, rfl, Or.inl ⟨by omega, rfl⟩, ⟨rfl, rfl, rfl⟩, ⟨hM0, hM1, hM2, hM3, hM4, hM5, hM6, hM7, hM8, hM9, hM10, hM11, hM12, hM13, hM14, hM15, hM16, by omega, by omega⟩⟩, hn, fr⟩
/-- the one nearest 0 of those that were looked at, from -m upwards -/
def nr_pre (P : Int → Bool) (m : Int) (e : Nat) (z : Int) : Prop := (z = -10004 ∧ ∀ i : Nat, i < e → P ((i : Int) - m) = false) ∨ ∃ i : Nat, i < e ∧ P ((i : Int) - m) = true ∧ z = (i : Int) - m ∧ ∀ i' : Nat, i' < e → P ((i' : Int) - m) = true → ((i : Int) - m).natAbs < ((i' : Int) - m).natAbs ∨ ((i : Int) - m).natAbs = ((i' : Int) - m).natAbs ∧ i ≤ i'
theorem nr_pre_n {P : Int → Bool} {m : Int} {e : Nat} {z : Int} (h : nr_pre P m e z) (hn : P ((e : Int) - m) = false) : nr_pre P m (e + 1) z := by
  rcases h with ⟨h1, h2⟩ | ⟨i, i1, i2, i3, i4⟩
  · exact Or.inl ⟨h1, fun i hi => if q : i = e then (by rw [q]; exact hn) else h2 i (by omega)⟩
  · refine Or.inr ⟨i, by omega, i2, i3, fun i' hi hp => ?_⟩
    by_cases q : i' = e
    · rw [q, hn] at hp; cases hp
    · exact i4 i' (by omega) hp
theorem nr_pre_y {P : Int → Bool} {m : Int} {e : Nat} {z : Int} (h : nr_pre P m e z) (hm : 0 ≤ m ∧ m ≤ 200) (he : (e : Int) ≤ 2 * m) (hn : P ((e : Int) - m) = true) : nr_pre P m (e + 1) (if z = -10004 ∨ ((e : Int) - m).natAbs < z.natAbs then (e : Int) - m else z) := by
  rcases h with ⟨h1, h2⟩ | ⟨i, i1, i2, i3, i4⟩
  · rw [if_pos (Or.inl h1)]
    refine Or.inr ⟨e, by omega, hn, rfl, fun i' hi hp => ?_⟩
    by_cases q : i' = e
    · subst q; right; omega
    · rw [h2 i' (by omega)] at hp; cases hp
  · by_cases q : ((e : Int) - m).natAbs < z.natAbs
    · rw [if_pos (Or.inr q)]
      refine Or.inr ⟨e, by omega, hn, rfl, fun i' hi hp => ?_⟩
      by_cases q2 : i' = e
      · subst q2; right; omega
      · have := i4 i' (by omega) hp
        omega
    · rw [if_neg (by omega)]
      refine Or.inr ⟨i, by omega, i2, i3, fun i' hi hp => ?_⟩
      by_cases q2 : i' = e
      · subst q2; omega
      · exact i4 i' (by omega) hp
theorem nr_pre_b {P : Int → Bool} {m : Int} {e : Nat} {z : Int} (h : nr_pre P m e z) (hm : 0 ≤ m ∧ m ≤ 200) (he : (e : Int) ≤ 2 * m + 1) : z = -10004 ∨ -200 ≤ z ∧ z ≤ 200 := by
  rcases h with ⟨h1, h2⟩ | ⟨i, i1, i2, i3, i4⟩ <;> omega
theorem nr_pre_end {P : Int → Bool} {m : Int} {e : Nat} {z : Int} (h : nr_pre P m e z) (hm : 0 ≤ m ∧ m ≤ 200) (he : (e : Int) = 2 * m + 1) : nr_is P m z := by
  rcases h with ⟨h1, h2⟩ | ⟨i, i1, i2, i3, i4⟩
  · exact Or.inr ⟨fun l hl => by
      have := h2 (l + m).toNat (by omega)
      rw [show (((l + m).toNat : Nat) : Int) - m = l by omega] at this
      exact this, h1⟩
  · refine Or.inl ⟨(i : Int) - m, by omega, i2, fun l hl hp => ?_, i3⟩
    have := i4 (l + m).toNat (by omega) (by rw [show (((l + m).toNat : Nat) : Int) - m = l by omega]; exact hp)
    omega
theorem c_mPush_loop {G : xa_G} {h0 : xa_H} {k v pc : Nat} {turn mm q : Int} {F : Nat → Nat → Int} {s : Nat → Int} {ld dg : Nat → Int} {pa jo : Nat} {wa sr pu ri : Int} (hk : 2 ≤ k) (hw : v ≤ 3) (htu : 0 ≤ turn ∧ turn ≤ 359) (hmm : 0 ≤ mm ∧ mm ≤ 200) (hq : 0 ≤ q ∧ q ≤ 1) (ho : mOk F ld dg pa jo wa sr pu ri) (hpc : F 11 0 = (pc : Int)) (hfi : fiOk pa (F 12) pc) : ∀ (d : Nat) (e : Nat) (z : Int) (s1 : Nat → Int) (g8 : Option xa_V) (h : xa_H), (2 * mm + 1).toNat - e < d → (e : Int) ≤ 2 * mm + 1 → (nr_pre (fun l => fl_P ld dg pa jo wa sr l (F 10) (F 9) (v : Int) (F 12) pc turn) mm e z) → (msF s s1) → (h.2 = h0.2) → (k + 16 < h.2) → (h.1 k = xa_o 10 [xa_i (s1 0), xa_r (k + 1), xa_r (k + 2), xa_r (k + 3), xa_r (k + 4), xa_r (k + 5), xa_r (k + 6), xa_r (k + 7), xa_r (k + 8), xa_r (k + 9), xa_r (k + 10), xa_r (k + 11), xa_r (k + 12), xa_i (s1 13), xa_i (s1 14), xa_i (s1 15), xa_r (k + 13), xa_i (s1 17), xa_i (s1 18), xa_i (s1 19), xa_i (s1 20), xa_r (k + 14), xa_r (k + 15), xa_i (s1 23), xa_r (k + 16)]) → (h.1 (k + 1) = xa_a 120 (F 1)) → (h.1 (k + 2) = xa_a 2 (F 2)) → (h.1 (k + 3) = xa_a 18 (F 3)) → (h.1 (k + 4) = xa_a 2 (F 4)) → (h.1 (k + 5) = xa_a 4 (F 5)) → (h.1 (k + 6) = xa_a 4 (F 6)) → (h.1 (k + 7) = xa_a 2 (F 7)) → (h.1 (k + 8) = xa_a 2 (F 8)) → (h.1 (k + 9) = xa_a 12 (F 9)) → (h.1 (k + 10) = xa_a 720 (F 10)) → (h.1 (k + 11) = xa_a 3 (F 11)) → (h.1 (k + 12) = xa_a 360 (F 12)) → (h.1 (k + 13) = xa_a 3 (F 13)) → (h.1 (k + 14) = xa_a 583200 (F 14)) → (h.1 (k + 15) = xa_a 583200 (F 15)) → (h.1 (k + 16) = xa_a 4 (F 16)) → (∀ i, (i < k ∨ k + 17 ≤ i) → h.1 i = h0.1 i) → xa_W G mX10_pushed (xa_Z G (fun r h' => (∃ (r0 : Int) (s' : Nat → Int), r = some (xa_i r0) ∧ (if q = 0 then r0 = (ct_n (fun i => fl_P ld dg pa jo wa sr (((i : Nat) : Int) - mm) (F 10) (F 9) (v : Int) (F 12) pc turn) (2 * mm + 1).toNat : Int) else nr_is (fun l => fl_P ld dg pa jo wa sr l (F 10) (F 9) (v : Int) (F 12) pc turn) mm r0) ∧ msF s s' ∧ xM h' k F s') ∧ h'.2 = h0.2 ∧ ∀ i, (i < k ∨ k + 17 ≤ i) → h'.1 i = h0.1 i)) 53 [some (xa_r k), some (xa_i ((v : Nat) : Int)), some (xa_i turn), some (xa_i mm), some (xa_i q), some (xa_i ((ct_n (fun i => fl_P ld dg pa jo wa sr (((i : Nat) : Int) - mm) (F 10) (F 9) (v : Int) (F 12) pc turn) e : Nat) : Int)), some (xa_i z), some (xa_i (((e : Nat) : Int) - mm)), g8] [] h 0 0 := by
  intro d
  induction d with
  | zero => intros; exfalso; omega
  | succ d ih =>
    intro e z s1 g8 h hd he hz hms hn0 hkn hM0 hM1 hM2 hM3 hM4 hM5 hM6 hM7 hM8 hM9 hM10 hM11 hM12 hM13 hM14 hM15 hM16 fr0
    have hn : h.2 = h.2 := rfl
    have fr : ∀ i, (i < k ∨ k + 17 ≤ i) → h.1 i = h.1 i := fun _ _ => rfl
    have hcl := ct_le (fun i => fl_P ld dg pa jo wa sr (((i : Nat) : Int) - mm) (F 10) (F 9) (v : Int) (F 12) pc turn) e
    have hzb := nr_pre_b hz hmm he
    refine xa_iload (pc := 53) dX10_pushed_53 rfl ?_
    refine xa_iload_n (pc := 55) dX10_pushed_55 rfl ?_
    refine xa_icmp_gt (pc := 56) (tgt := 133) dX10_pushed_56 (by decide) ⟨by omega, by omega⟩ ⟨by omega, by omega⟩ (fun c_56 => ?_) (fun c_56 => ?_)
    · skip
      refine xa_iload (pc := 133) dX10_pushed_133 rfl ?_
      refine xa_if_ne (pc := 135) (tgt := 143) dX10_pushed_135 (by decide) ⟨by omega, by omega⟩ (fun c_135 => ?_) (fun c_135 => ?_)
      · skip
        refine xa_iload (pc := 143) dX10_pushed_143 rfl ?_
        refine xa_ireturn (pc := 145) dX10_pushed_145 rfl trivial ?_
        have he3 : (2 * mm + 1).toNat = e := by omega
        exact ⟨⟨_, s1, rfl, (by rw [if_neg (by omega)]; exact nr_pre_end hz hmm (by omega)), hms, ⟨hM0, hM1, hM2, hM3, hM4, hM5, hM6, hM7, hM8, hM9, hM10, hM11, hM12, hM13, hM14, hM15, hM16, by omega, by omega⟩⟩, by omega, fun i hi => (fr i hi).trans (fr0 i hi)⟩
      · skip
        refine xa_iload (pc := 138) dX10_pushed_138 rfl ?_
        refine xa_goto (pc := 140) (tgt := 145) dX10_pushed_140 (by decide) ?_
        refine xa_ireturn (pc := 145) dX10_pushed_145 rfl trivial ?_
        have he3 : (2 * mm + 1).toNat = e := by omega
        exact ⟨⟨_, s1, rfl, (by rw [if_pos (by omega), he3]), hms, ⟨hM0, hM1, hM2, hM3, hM4, hM5, hM6, hM7, hM8, hM9, hM10, hM11, hM12, hM13, hM14, hM15, hM16, by omega, by omega⟩⟩, by omega, fun i hi => (fr i hi).trans (fr0 i hi)⟩
    · skip
      refine xa_aload_n (pc := 59) dX10_pushed_59 rfl ?_
      refine xa_iload (pc := 60) dX10_pushed_60 rfl ?_
      refine xa_putw (pc := 62) [xa_i (s1 0), xa_r (k + 1), xa_r (k + 2), xa_r (k + 3), xa_r (k + 4), xa_r (k + 5), xa_r (k + 6), xa_r (k + 7), xa_r (k + 8), xa_r (k + 9), xa_r (k + 10), xa_r (k + 11), xa_r (k + 12), xa_i (s1 13), xa_i (((e : Nat) : Int) - mm), xa_i (s1 15), xa_r (k + 13), xa_i (s1 17), xa_i (s1 18), xa_i (s1 19), xa_i (s1 20), xa_r (k + 14), xa_r (k + 15), xa_i (s1 23), xa_r (k + 16)] dX10_pushed_62 flRX10_149 plX10_14 (by omega) (by omega) hM0 trivial rfl (fun h1 nh1 ch1 oh1 => ?_)
      have hM0 : h1.1 k = xa_o 10 [xa_i (s1 0), xa_r (k + 1), xa_r (k + 2), xa_r (k + 3), xa_r (k + 4), xa_r (k + 5), xa_r (k + 6), xa_r (k + 7), xa_r (k + 8), xa_r (k + 9), xa_r (k + 10), xa_r (k + 11), xa_r (k + 12), xa_i (s1 13), xa_i (((e : Nat) : Int) - mm), xa_i (s1 15), xa_r (k + 13), xa_i (s1 17), xa_i (s1 18), xa_i (s1 19), xa_i (s1 20), xa_r (k + 14), xa_r (k + 15), xa_i (s1 23), xa_r (k + 16)] := ch1
      have hM1 : h1.1 (k + 1) = xa_a 120 (F 1) := (oh1 _ (by omega)).trans hM1
      have hM2 : h1.1 (k + 2) = xa_a 2 (F 2) := (oh1 _ (by omega)).trans hM2
      have hM3 : h1.1 (k + 3) = xa_a 18 (F 3) := (oh1 _ (by omega)).trans hM3
      have hM4 : h1.1 (k + 4) = xa_a 2 (F 4) := (oh1 _ (by omega)).trans hM4
      have hM5 : h1.1 (k + 5) = xa_a 4 (F 5) := (oh1 _ (by omega)).trans hM5
      have hM6 : h1.1 (k + 6) = xa_a 4 (F 6) := (oh1 _ (by omega)).trans hM6
      have hM7 : h1.1 (k + 7) = xa_a 2 (F 7) := (oh1 _ (by omega)).trans hM7
      have hM8 : h1.1 (k + 8) = xa_a 2 (F 8) := (oh1 _ (by omega)).trans hM8
      have hM9 : h1.1 (k + 9) = xa_a 12 (F 9) := (oh1 _ (by omega)).trans hM9
      have hM10 : h1.1 (k + 10) = xa_a 720 (F 10) := (oh1 _ (by omega)).trans hM10
      have hM11 : h1.1 (k + 11) = xa_a 3 (F 11) := (oh1 _ (by omega)).trans hM11
      have hM12 : h1.1 (k + 12) = xa_a 360 (F 12) := (oh1 _ (by omega)).trans hM12
      have hM13 : h1.1 (k + 13) = xa_a 3 (F 13) := (oh1 _ (by omega)).trans hM13
      have hM14 : h1.1 (k + 14) = xa_a 583200 (F 14) := (oh1 _ (by omega)).trans hM14
      have hM15 : h1.1 (k + 15) = xa_a 583200 (F 15) := (oh1 _ (by omega)).trans hM15
      have hM16 : h1.1 (k + 16) = xa_a 4 (F 16) := (oh1 _ (by omega)).trans hM16
      have hn : h1.2 = h.2 := nh1.trans hn
      have fr : ∀ i, (i < k ∨ k + 17 ≤ i) → h1.1 i = h.1 i := fun i hi => (oh1 i (by omega)).trans (fr i hi)
      refine xa_aload_n (pc := 65) dX10_pushed_65 rfl ?_
      refine xa_iload_n (pc := 66) dX10_pushed_66 rfl ?_
      refine xa_iload_n (pc := 67) dX10_pushed_67 rfl ?_
      refine xa_callV (pc := 68) (as := [xa_i ((v : Nat) : Int), xa_i turn]) (rest := []) dX10_pushed_68 ⟨qX10_mayBe.1, qX10_mayBe.2.1, qX10_mayBe.2.2, by decide, by decide⟩ lkRX10_251 imX10_mayBe seX10_mayBe rfl rfl (by omega) (by omega) hM0 rfl (Nat.le_of_ble_eq_true rfl) (Nat.zero_le _) (Nat.zero_le _) (c_mMayBe _ v pc turn (((e : Nat) : Int) - mm) F (xa_upf (xa_upf (xa_upf (xa_upf (xa_upf (xa_upf (xa_upf (xa_upf (xa_upf s 0 (s1 0)) 13 (s1 13)) 14 (((e : Nat) : Int) - mm)) 15 (s1 15)) 17 (s1 17)) 18 (s1 18)) 19 (s1 19)) 20 (s1 20)) 23 (s1 23)) ld dg pa jo wa sr pu ri (by omega) (by omega) ho hpc hfi rfl (by omega) ⟨hM0, hM1, hM2, hM3, hM4, hM5, hM6, hM7, hM8, hM9, hM10, hM11, hM12, hM13, hM14, hM15, hM16, by omega, by omega⟩) (fun r h' hq => ?_)
      obtain ⟨⟨s102, rfl, hmss102, h14, hM⟩, hqn, hqf⟩ := hq
      have hmss102 : msF s s102 := ⟨hmss102.1.trans hms.1, hmss102.2.1.trans hms.2.1, hmss102.2.2.trans hms.2.2⟩
      obtain ⟨hM0, hM1, hM2, hM3, hM4, hM5, hM6, hM7, hM8, hM9, hM10, hM11, hM12, hM13, hM14, hM15, hM16, hMk, hMn⟩ := hM
      rw [h14] at hM0
      have hM0 : h'.1 k = xa_o 10 [xa_i (s102 0), xa_r (k + 1), xa_r (k + 2), xa_r (k + 3), xa_r (k + 4), xa_r (k + 5), xa_r (k + 6), xa_r (k + 7), xa_r (k + 8), xa_r (k + 9), xa_r (k + 10), xa_r (k + 11), xa_r (k + 12), xa_i (s102 13), xa_i (((e : Nat) : Int) - mm), xa_i (s102 15), xa_r (k + 13), xa_i (s102 17), xa_i (s102 18), xa_i (s102 19), xa_i (s102 20), xa_r (k + 14), xa_r (k + 15), xa_i (s102 23), xa_r (k + 16)] := hM0
      have hM1 : h'.1 (k + 1) = xa_a 120 (F 1) := hM1
      have hM2 : h'.1 (k + 2) = xa_a 2 (F 2) := hM2
      have hM3 : h'.1 (k + 3) = xa_a 18 (F 3) := hM3
      have hM4 : h'.1 (k + 4) = xa_a 2 (F 4) := hM4
      have hM5 : h'.1 (k + 5) = xa_a 4 (F 5) := hM5
      have hM6 : h'.1 (k + 6) = xa_a 4 (F 6) := hM6
      have hM7 : h'.1 (k + 7) = xa_a 2 (F 7) := hM7
      have hM8 : h'.1 (k + 8) = xa_a 2 (F 8) := hM8
      have hM9 : h'.1 (k + 9) = xa_a 12 (F 9) := hM9
      have hM10 : h'.1 (k + 10) = xa_a 720 (F 10) := hM10
      have hM11 : h'.1 (k + 11) = xa_a 3 (F 11) := hM11
      have hM12 : h'.1 (k + 12) = xa_a 360 (F 12) := hM12
      have hM13 : h'.1 (k + 13) = xa_a 3 (F 13) := hM13
      have hM14 : h'.1 (k + 14) = xa_a 583200 (F 14) := hM14
      have hM15 : h'.1 (k + 15) = xa_a 583200 (F 15) := hM15
      have hM16 : h'.1 (k + 16) = xa_a 4 (F 16) := hM16
      have hn : h'.2 = h.2 := hqn.trans hn
      have fr : ∀ i, (i < k ∨ k + 17 ≤ i) → h'.1 i = h.1 i := fun i hi => (hqf i (by omega)).trans (fr i hi)
      refine xa_if_eq (pc := 71) (tgt := 127) dX10_pushed_71 (by decide) xa_okb (fun c_71 => ?_) (fun c_71 => ?_)
      · have c_71 := xa_b0.mp c_71
        refine xa_iincw (pc := 127) (y := ((e + 1 : Nat) : Int) - mm) [some (xa_r k), some (xa_i ((v : Nat) : Int)), some (xa_i turn), some (xa_i mm), some (xa_i q), some (xa_i ((ct_n (fun i => fl_P ld dg pa jo wa sr (((i : Nat) : Int) - mm) (F 10) (F 9) (v : Int) (F 12) pc turn) e : Nat) : Int)), some (xa_i z), some (xa_i (((e + 1 : Nat) : Int) - mm)), g8] dX10_pushed_127 (by decide) rfl rfl (by omega) rfl ?_
        refine xa_goto (pc := 130) (tgt := 53) dX10_pushed_130 (by decide) ?_
        have ec : ((ct_n (fun i => fl_P ld dg pa jo wa sr (((i : Nat) : Int) - mm) (F 10) (F 9) (v : Int) (F 12) pc turn) e : Nat) : Int) = ((ct_n (fun i => fl_P ld dg pa jo wa sr (((i : Nat) : Int) - mm) (F 10) (F 9) (v : Int) (F 12) pc turn) (e + 1) : Nat) : Int) := by
          show ((ct_n (fun i => fl_P ld dg pa jo wa sr (((i : Nat) : Int) - mm) (F 10) (F 9) (v : Int) (F 12) pc turn) e : Nat) : Int) = ((ct_n (fun i => fl_P ld dg pa jo wa sr (((i : Nat) : Int) - mm) (F 10) (F 9) (v : Int) (F 12) pc turn) e + (if (fun i => fl_P ld dg pa jo wa sr (((i : Nat) : Int) - mm) (F 10) (F 9) (v : Int) (F 12) pc turn) e = true then 1 else 0) : Nat) : Int)
          rw [if_neg (by rw [show (fun i => fl_P ld dg pa jo wa sr (((i : Nat) : Int) - mm) (F 10) (F 9) (v : Int) (F 12) pc turn) e = _ from (show (fun l => fl_P ld dg pa jo wa sr l (F 10) (F 9) (v : Int) (F 12) pc turn) (((e : Nat) : Int) - mm) = false from Bool.eq_false_iff.mpr c_71)]; decide)]
          first | rfl | omega
        rw [ec]
        have hzy := nr_pre_n (P := (fun l => fl_P ld dg pa jo wa sr l (F 10) (F 9) (v : Int) (F 12) pc turn)) hz (show (fun l => fl_P ld dg pa jo wa sr l (F 10) (F 9) (v : Int) (F 12) pc turn) (((e : Nat) : Int) - mm) = false from Bool.eq_false_iff.mpr c_71)
        exact ih (e + 1) _ (xa_upf s102 14 (((e : Nat) : Int) - mm)) _ _ (by omega) (by omega) hzy hmss102 (by omega) (by omega) hM0 hM1 hM2 hM3 hM4 hM5 hM6 hM7 hM8 hM9 hM10 hM11 hM12 hM13 hM14 hM15 hM16 (fun i hi => (fr i hi).trans (fr0 i hi))
      · have c_71 := xa_b1.mp c_71
        refine xa_iincw (pc := 74) (y := ((ct_n (fun i => fl_P ld dg pa jo wa sr (((i : Nat) : Int) - mm) (F 10) (F 9) (v : Int) (F 12) pc turn) e : Nat) : Int) + 1) [some (xa_r k), some (xa_i ((v : Nat) : Int)), some (xa_i turn), some (xa_i mm), some (xa_i q), some (xa_i (((ct_n (fun i => fl_P ld dg pa jo wa sr (((i : Nat) : Int) - mm) (F 10) (F 9) (v : Int) (F 12) pc turn) e : Nat) : Int) + 1)), some (xa_i z), some (xa_i (((e : Nat) : Int) - mm)), g8] dX10_pushed_74 (by decide) rfl rfl rfl rfl ?_
        refine xa_iload (pc := 77) dX10_pushed_77 rfl ?_
        refine xa_if_ge (pc := 79) (tgt := 88) dX10_pushed_79 (by decide) ⟨by omega, by omega⟩ (fun c_79 => ?_) (fun c_79 => ?_)
        · skip
          refine xa_iload (pc := 88) dX10_pushed_88 rfl ?_
          refine xa_istorew (pc := 90) [some (xa_r k), some (xa_i ((v : Nat) : Int)), some (xa_i turn), some (xa_i mm), some (xa_i q), some (xa_i (((ct_n (fun i => fl_P ld dg pa jo wa sr (((i : Nat) : Int) - mm) (F 10) (F 9) (v : Int) (F 12) pc turn) e : Nat) : Int) + 1)), some (xa_i z), some (xa_i (((e : Nat) : Int) - mm)), some (xa_i z)] dX10_pushed_90 (by decide) (Nat.le_of_ble_eq_true rfl) rfl rfl ?_
          refine xa_iload (pc := 92) dX10_pushed_92 rfl ?_
          refine xa_sipush (pc := 94) dX10_pushed_94 rfl ?_
          refine xa_icmp_eq (pc := 97) (tgt := 118) dX10_pushed_97 (by decide) ⟨by omega, by omega⟩ (by decide) (fun c_97 => ?_) (fun c_97 => ?_)
          · skip
            refine xa_iload (pc := 118) dX10_pushed_118 rfl ?_
            refine xa_goto (pc := 120) (tgt := 125) dX10_pushed_120 (by decide) ?_
            refine xa_istorew (pc := 125) [some (xa_r k), some (xa_i ((v : Nat) : Int)), some (xa_i turn), some (xa_i mm), some (xa_i q), some (xa_i (((ct_n (fun i => fl_P ld dg pa jo wa sr (((i : Nat) : Int) - mm) (F 10) (F 9) (v : Int) (F 12) pc turn) e : Nat) : Int) + 1)), some (xa_i (((e : Nat) : Int) - mm)), some (xa_i (((e : Nat) : Int) - mm)), some (xa_i z)] dX10_pushed_125 (by decide) (Nat.le_of_ble_eq_true rfl) rfl rfl ?_
            refine xa_iincw (pc := 127) (y := ((e + 1 : Nat) : Int) - mm) [some (xa_r k), some (xa_i ((v : Nat) : Int)), some (xa_i turn), some (xa_i mm), some (xa_i q), some (xa_i (((ct_n (fun i => fl_P ld dg pa jo wa sr (((i : Nat) : Int) - mm) (F 10) (F 9) (v : Int) (F 12) pc turn) e : Nat) : Int) + 1)), some (xa_i (((e : Nat) : Int) - mm)), some (xa_i (((e + 1 : Nat) : Int) - mm)), some (xa_i z)] dX10_pushed_127 (by decide) rfl rfl (by omega) rfl ?_
            refine xa_goto (pc := 130) (tgt := 53) dX10_pushed_130 (by decide) ?_
            have ec : ((ct_n (fun i => fl_P ld dg pa jo wa sr (((i : Nat) : Int) - mm) (F 10) (F 9) (v : Int) (F 12) pc turn) e : Nat) : Int) + 1 = ((ct_n (fun i => fl_P ld dg pa jo wa sr (((i : Nat) : Int) - mm) (F 10) (F 9) (v : Int) (F 12) pc turn) (e + 1) : Nat) : Int) := by
              show ((ct_n (fun i => fl_P ld dg pa jo wa sr (((i : Nat) : Int) - mm) (F 10) (F 9) (v : Int) (F 12) pc turn) e : Nat) : Int) + 1 = ((ct_n (fun i => fl_P ld dg pa jo wa sr (((i : Nat) : Int) - mm) (F 10) (F 9) (v : Int) (F 12) pc turn) e + (if (fun i => fl_P ld dg pa jo wa sr (((i : Nat) : Int) - mm) (F 10) (F 9) (v : Int) (F 12) pc turn) e = true then 1 else 0) : Nat) : Int)
              rw [if_pos (show (fun l => fl_P ld dg pa jo wa sr l (F 10) (F 9) (v : Int) (F 12) pc turn) (((e : Nat) : Int) - mm) = true from c_71)]
              first | rfl | omega
            rw [ec]
            have hzy := nr_pre_y (P := (fun l => fl_P ld dg pa jo wa sr l (F 10) (F 9) (v : Int) (F 12) pc turn)) hz hmm (by omega) (show (fun l => fl_P ld dg pa jo wa sr l (F 10) (F 9) (v : Int) (F 12) pc turn) (((e : Nat) : Int) - mm) = true from c_71)
            have ez : (if z = -10004 ∨ (((e : Nat) : Int) - mm).natAbs < z.natAbs then ((e : Nat) : Int) - mm else z) = ((e : Nat) : Int) - mm := by first | exact if_pos (by omega) | exact if_neg (by omega)
            rw [ez] at hzy
            exact ih (e + 1) _ (xa_upf s102 14 (((e : Nat) : Int) - mm)) _ _ (by omega) (by omega) hzy hmss102 (by omega) (by omega) hM0 hM1 hM2 hM3 hM4 hM5 hM6 hM7 hM8 hM9 hM10 hM11 hM12 hM13 hM14 hM15 hM16 (fun i hi => (fr i hi).trans (fr0 i hi))
          · skip
            refine xa_iload (pc := 100) dX10_pushed_100 rfl ?_
            refine xa_if_ge (pc := 102) (tgt := 111) dX10_pushed_102 (by decide) ⟨by omega, by omega⟩ (fun c_102 => ?_) (fun c_102 => ?_)
            · skip
              refine xa_iload (pc := 111) dX10_pushed_111 rfl ?_
              refine xa_iload (pc := 113) dX10_pushed_113 rfl ?_
              refine xa_icmp_ge (pc := 115) (tgt := 123) dX10_pushed_115 (by decide) ⟨by omega, by omega⟩ ⟨by omega, by omega⟩ (fun c_115 => ?_) (fun c_115 => ?_)
              · skip
                refine xa_iload (pc := 123) dX10_pushed_123 rfl ?_
                refine xa_istorew (pc := 125) [some (xa_r k), some (xa_i ((v : Nat) : Int)), some (xa_i turn), some (xa_i mm), some (xa_i q), some (xa_i (((ct_n (fun i => fl_P ld dg pa jo wa sr (((i : Nat) : Int) - mm) (F 10) (F 9) (v : Int) (F 12) pc turn) e : Nat) : Int) + 1)), some (xa_i z), some (xa_i (((e : Nat) : Int) - mm)), some (xa_i z)] dX10_pushed_125 (by decide) (Nat.le_of_ble_eq_true rfl) rfl rfl ?_
                refine xa_iincw (pc := 127) (y := ((e + 1 : Nat) : Int) - mm) [some (xa_r k), some (xa_i ((v : Nat) : Int)), some (xa_i turn), some (xa_i mm), some (xa_i q), some (xa_i (((ct_n (fun i => fl_P ld dg pa jo wa sr (((i : Nat) : Int) - mm) (F 10) (F 9) (v : Int) (F 12) pc turn) e : Nat) : Int) + 1)), some (xa_i z), some (xa_i (((e + 1 : Nat) : Int) - mm)), some (xa_i z)] dX10_pushed_127 (by decide) rfl rfl (by omega) rfl ?_
                refine xa_goto (pc := 130) (tgt := 53) dX10_pushed_130 (by decide) ?_
                have ec : ((ct_n (fun i => fl_P ld dg pa jo wa sr (((i : Nat) : Int) - mm) (F 10) (F 9) (v : Int) (F 12) pc turn) e : Nat) : Int) + 1 = ((ct_n (fun i => fl_P ld dg pa jo wa sr (((i : Nat) : Int) - mm) (F 10) (F 9) (v : Int) (F 12) pc turn) (e + 1) : Nat) : Int) := by
                  show ((ct_n (fun i => fl_P ld dg pa jo wa sr (((i : Nat) : Int) - mm) (F 10) (F 9) (v : Int) (F 12) pc turn) e : Nat) : Int) + 1 = ((ct_n (fun i => fl_P ld dg pa jo wa sr (((i : Nat) : Int) - mm) (F 10) (F 9) (v : Int) (F 12) pc turn) e + (if (fun i => fl_P ld dg pa jo wa sr (((i : Nat) : Int) - mm) (F 10) (F 9) (v : Int) (F 12) pc turn) e = true then 1 else 0) : Nat) : Int)
                  rw [if_pos (show (fun l => fl_P ld dg pa jo wa sr l (F 10) (F 9) (v : Int) (F 12) pc turn) (((e : Nat) : Int) - mm) = true from c_71)]
                  first | rfl | omega
                rw [ec]
                have hzy := nr_pre_y (P := (fun l => fl_P ld dg pa jo wa sr l (F 10) (F 9) (v : Int) (F 12) pc turn)) hz hmm (by omega) (show (fun l => fl_P ld dg pa jo wa sr l (F 10) (F 9) (v : Int) (F 12) pc turn) (((e : Nat) : Int) - mm) = true from c_71)
                have ez : (if z = -10004 ∨ (((e : Nat) : Int) - mm).natAbs < z.natAbs then ((e : Nat) : Int) - mm else z) = z := by first | exact if_pos (by omega) | exact if_neg (by omega)
                rw [ez] at hzy
                exact ih (e + 1) _ (xa_upf s102 14 (((e : Nat) : Int) - mm)) _ _ (by omega) (by omega) hzy hmss102 (by omega) (by omega) hM0 hM1 hM2 hM3 hM4 hM5 hM6 hM7 hM8 hM9 hM10 hM11 hM12 hM13 hM14 hM15 hM16 (fun i hi => (fr i hi).trans (fr0 i hi))
              · skip
                refine xa_iload (pc := 118) dX10_pushed_118 rfl ?_
                refine xa_goto (pc := 120) (tgt := 125) dX10_pushed_120 (by decide) ?_
                refine xa_istorew (pc := 125) [some (xa_r k), some (xa_i ((v : Nat) : Int)), some (xa_i turn), some (xa_i mm), some (xa_i q), some (xa_i (((ct_n (fun i => fl_P ld dg pa jo wa sr (((i : Nat) : Int) - mm) (F 10) (F 9) (v : Int) (F 12) pc turn) e : Nat) : Int) + 1)), some (xa_i (((e : Nat) : Int) - mm)), some (xa_i (((e : Nat) : Int) - mm)), some (xa_i z)] dX10_pushed_125 (by decide) (Nat.le_of_ble_eq_true rfl) rfl rfl ?_
                refine xa_iincw (pc := 127) (y := ((e + 1 : Nat) : Int) - mm) [some (xa_r k), some (xa_i ((v : Nat) : Int)), some (xa_i turn), some (xa_i mm), some (xa_i q), some (xa_i (((ct_n (fun i => fl_P ld dg pa jo wa sr (((i : Nat) : Int) - mm) (F 10) (F 9) (v : Int) (F 12) pc turn) e : Nat) : Int) + 1)), some (xa_i (((e : Nat) : Int) - mm)), some (xa_i (((e + 1 : Nat) : Int) - mm)), some (xa_i z)] dX10_pushed_127 (by decide) rfl rfl (by omega) rfl ?_
                refine xa_goto (pc := 130) (tgt := 53) dX10_pushed_130 (by decide) ?_
                have ec : ((ct_n (fun i => fl_P ld dg pa jo wa sr (((i : Nat) : Int) - mm) (F 10) (F 9) (v : Int) (F 12) pc turn) e : Nat) : Int) + 1 = ((ct_n (fun i => fl_P ld dg pa jo wa sr (((i : Nat) : Int) - mm) (F 10) (F 9) (v : Int) (F 12) pc turn) (e + 1) : Nat) : Int) := by
                  show ((ct_n (fun i => fl_P ld dg pa jo wa sr (((i : Nat) : Int) - mm) (F 10) (F 9) (v : Int) (F 12) pc turn) e : Nat) : Int) + 1 = ((ct_n (fun i => fl_P ld dg pa jo wa sr (((i : Nat) : Int) - mm) (F 10) (F 9) (v : Int) (F 12) pc turn) e + (if (fun i => fl_P ld dg pa jo wa sr (((i : Nat) : Int) - mm) (F 10) (F 9) (v : Int) (F 12) pc turn) e = true then 1 else 0) : Nat) : Int)
                  rw [if_pos (show (fun l => fl_P ld dg pa jo wa sr l (F 10) (F 9) (v : Int) (F 12) pc turn) (((e : Nat) : Int) - mm) = true from c_71)]
                  first | rfl | omega
                rw [ec]
                have hzy := nr_pre_y (P := (fun l => fl_P ld dg pa jo wa sr l (F 10) (F 9) (v : Int) (F 12) pc turn)) hz hmm (by omega) (show (fun l => fl_P ld dg pa jo wa sr l (F 10) (F 9) (v : Int) (F 12) pc turn) (((e : Nat) : Int) - mm) = true from c_71)
                have ez : (if z = -10004 ∨ (((e : Nat) : Int) - mm).natAbs < z.natAbs then ((e : Nat) : Int) - mm else z) = ((e : Nat) : Int) - mm := by first | exact if_pos (by omega) | exact if_neg (by omega)
                rw [ez] at hzy
                exact ih (e + 1) _ (xa_upf s102 14 (((e : Nat) : Int) - mm)) _ _ (by omega) (by omega) hzy hmss102 (by omega) (by omega) hM0 hM1 hM2 hM3 hM4 hM5 hM6 hM7 hM8 hM9 hM10 hM11 hM12 hM13 hM14 hM15 hM16 (fun i hi => (fr i hi).trans (fr0 i hi))
            · skip
              refine xa_iload (pc := 105) dX10_pushed_105 rfl ?_
              refine xa_ineg (pc := 107) dX10_pushed_107 ?_
              refine xa_goto (pc := 108) (tgt := 113) dX10_pushed_108 (by decide) ?_
              refine xa_iload (pc := 113) dX10_pushed_113 rfl ?_
              refine xa_icmp_ge (pc := 115) (tgt := 123) dX10_pushed_115 (by decide) ⟨by omega, by omega⟩ ⟨by omega, by omega⟩ (fun c_115 => ?_) (fun c_115 => ?_)
              · skip
                refine xa_iload (pc := 123) dX10_pushed_123 rfl ?_
                refine xa_istorew (pc := 125) [some (xa_r k), some (xa_i ((v : Nat) : Int)), some (xa_i turn), some (xa_i mm), some (xa_i q), some (xa_i (((ct_n (fun i => fl_P ld dg pa jo wa sr (((i : Nat) : Int) - mm) (F 10) (F 9) (v : Int) (F 12) pc turn) e : Nat) : Int) + 1)), some (xa_i z), some (xa_i (((e : Nat) : Int) - mm)), some (xa_i z)] dX10_pushed_125 (by decide) (Nat.le_of_ble_eq_true rfl) rfl rfl ?_
                refine xa_iincw (pc := 127) (y := ((e + 1 : Nat) : Int) - mm) [some (xa_r k), some (xa_i ((v : Nat) : Int)), some (xa_i turn), some (xa_i mm), some (xa_i q), some (xa_i (((ct_n (fun i => fl_P ld dg pa jo wa sr (((i : Nat) : Int) - mm) (F 10) (F 9) (v : Int) (F 12) pc turn) e : Nat) : Int) + 1)), some (xa_i z), some (xa_i (((e + 1 : Nat) : Int) - mm)), some (xa_i z)] dX10_pushed_127 (by decide) rfl rfl (by omega) rfl ?_
                refine xa_goto (pc := 130) (tgt := 53) dX10_pushed_130 (by decide) ?_
                have ec : ((ct_n (fun i => fl_P ld dg pa jo wa sr (((i : Nat) : Int) - mm) (F 10) (F 9) (v : Int) (F 12) pc turn) e : Nat) : Int) + 1 = ((ct_n (fun i => fl_P ld dg pa jo wa sr (((i : Nat) : Int) - mm) (F 10) (F 9) (v : Int) (F 12) pc turn) (e + 1) : Nat) : Int) := by
                  show ((ct_n (fun i => fl_P ld dg pa jo wa sr (((i : Nat) : Int) - mm) (F 10) (F 9) (v : Int) (F 12) pc turn) e : Nat) : Int) + 1 = ((ct_n (fun i => fl_P ld dg pa jo wa sr (((i : Nat) : Int) - mm) (F 10) (F 9) (v : Int) (F 12) pc turn) e + (if (fun i => fl_P ld dg pa jo wa sr (((i : Nat) : Int) - mm) (F 10) (F 9) (v : Int) (F 12) pc turn) e = true then 1 else 0) : Nat) : Int)
                  rw [if_pos (show (fun l => fl_P ld dg pa jo wa sr l (F 10) (F 9) (v : Int) (F 12) pc turn) (((e : Nat) : Int) - mm) = true from c_71)]
                  first | rfl | omega
                rw [ec]
                have hzy := nr_pre_y (P := (fun l => fl_P ld dg pa jo wa sr l (F 10) (F 9) (v : Int) (F 12) pc turn)) hz hmm (by omega) (show (fun l => fl_P ld dg pa jo wa sr l (F 10) (F 9) (v : Int) (F 12) pc turn) (((e : Nat) : Int) - mm) = true from c_71)
                have ez : (if z = -10004 ∨ (((e : Nat) : Int) - mm).natAbs < z.natAbs then ((e : Nat) : Int) - mm else z) = z := by first | exact if_pos (by omega) | exact if_neg (by omega)
                rw [ez] at hzy
                exact ih (e + 1) _ (xa_upf s102 14 (((e : Nat) : Int) - mm)) _ _ (by omega) (by omega) hzy hmss102 (by omega) (by omega) hM0 hM1 hM2 hM3 hM4 hM5 hM6 hM7 hM8 hM9 hM10 hM11 hM12 hM13 hM14 hM15 hM16 (fun i hi => (fr i hi).trans (fr0 i hi))
              · skip
                refine xa_iload (pc := 118) dX10_pushed_118 rfl ?_
                refine xa_goto (pc := 120) (tgt := 125) dX10_pushed_120 (by decide) ?_
                refine xa_istorew (pc := 125) [some (xa_r k), some (xa_i ((v : Nat) : Int)), some (xa_i turn), some (xa_i mm), some (xa_i q), some (xa_i (((ct_n (fun i => fl_P ld dg pa jo wa sr (((i : Nat) : Int) - mm) (F 10) (F 9) (v : Int) (F 12) pc turn) e : Nat) : Int) + 1)), some (xa_i (((e : Nat) : Int) - mm)), some (xa_i (((e : Nat) : Int) - mm)), some (xa_i z)] dX10_pushed_125 (by decide) (Nat.le_of_ble_eq_true rfl) rfl rfl ?_
                refine xa_iincw (pc := 127) (y := ((e + 1 : Nat) : Int) - mm) [some (xa_r k), some (xa_i ((v : Nat) : Int)), some (xa_i turn), some (xa_i mm), some (xa_i q), some (xa_i (((ct_n (fun i => fl_P ld dg pa jo wa sr (((i : Nat) : Int) - mm) (F 10) (F 9) (v : Int) (F 12) pc turn) e : Nat) : Int) + 1)), some (xa_i (((e : Nat) : Int) - mm)), some (xa_i (((e + 1 : Nat) : Int) - mm)), some (xa_i z)] dX10_pushed_127 (by decide) rfl rfl (by omega) rfl ?_
                refine xa_goto (pc := 130) (tgt := 53) dX10_pushed_130 (by decide) ?_
                have ec : ((ct_n (fun i => fl_P ld dg pa jo wa sr (((i : Nat) : Int) - mm) (F 10) (F 9) (v : Int) (F 12) pc turn) e : Nat) : Int) + 1 = ((ct_n (fun i => fl_P ld dg pa jo wa sr (((i : Nat) : Int) - mm) (F 10) (F 9) (v : Int) (F 12) pc turn) (e + 1) : Nat) : Int) := by
                  show ((ct_n (fun i => fl_P ld dg pa jo wa sr (((i : Nat) : Int) - mm) (F 10) (F 9) (v : Int) (F 12) pc turn) e : Nat) : Int) + 1 = ((ct_n (fun i => fl_P ld dg pa jo wa sr (((i : Nat) : Int) - mm) (F 10) (F 9) (v : Int) (F 12) pc turn) e + (if (fun i => fl_P ld dg pa jo wa sr (((i : Nat) : Int) - mm) (F 10) (F 9) (v : Int) (F 12) pc turn) e = true then 1 else 0) : Nat) : Int)
                  rw [if_pos (show (fun l => fl_P ld dg pa jo wa sr l (F 10) (F 9) (v : Int) (F 12) pc turn) (((e : Nat) : Int) - mm) = true from c_71)]
                  first | rfl | omega
                rw [ec]
                have hzy := nr_pre_y (P := (fun l => fl_P ld dg pa jo wa sr l (F 10) (F 9) (v : Int) (F 12) pc turn)) hz hmm (by omega) (show (fun l => fl_P ld dg pa jo wa sr l (F 10) (F 9) (v : Int) (F 12) pc turn) (((e : Nat) : Int) - mm) = true from c_71)
                have ez : (if z = -10004 ∨ (((e : Nat) : Int) - mm).natAbs < z.natAbs then ((e : Nat) : Int) - mm else z) = ((e : Nat) : Int) - mm := by first | exact if_pos (by omega) | exact if_neg (by omega)
                rw [ez] at hzy
                exact ih (e + 1) _ (xa_upf s102 14 (((e : Nat) : Int) - mm)) _ _ (by omega) (by omega) hzy hmss102 (by omega) (by omega) hM0 hM1 hM2 hM3 hM4 hM5 hM6 hM7 hM8 hM9 hM10 hM11 hM12 hM13 hM14 hM15 hM16 (fun i hi => (fr i hi).trans (fr0 i hi))
        · skip
          refine xa_iload (pc := 82) dX10_pushed_82 rfl ?_
          refine xa_ineg (pc := 84) dX10_pushed_84 ?_
          refine xa_goto (pc := 85) (tgt := 90) dX10_pushed_85 (by decide) ?_
          refine xa_istorew (pc := 90) [some (xa_r k), some (xa_i ((v : Nat) : Int)), some (xa_i turn), some (xa_i mm), some (xa_i q), some (xa_i (((ct_n (fun i => fl_P ld dg pa jo wa sr (((i : Nat) : Int) - mm) (F 10) (F 9) (v : Int) (F 12) pc turn) e : Nat) : Int) + 1)), some (xa_i z), some (xa_i (((e : Nat) : Int) - mm)), some (xa_i (-z))] dX10_pushed_90 (by decide) (Nat.le_of_ble_eq_true rfl) rfl rfl ?_
          refine xa_iload (pc := 92) dX10_pushed_92 rfl ?_
          refine xa_sipush (pc := 94) dX10_pushed_94 rfl ?_
          refine xa_icmp_eq (pc := 97) (tgt := 118) dX10_pushed_97 (by decide) ⟨by omega, by omega⟩ (by decide) (fun c_97 => ?_) (fun c_97 => ?_)
          · skip
            refine xa_iload (pc := 118) dX10_pushed_118 rfl ?_
            refine xa_goto (pc := 120) (tgt := 125) dX10_pushed_120 (by decide) ?_
            refine xa_istorew (pc := 125) [some (xa_r k), some (xa_i ((v : Nat) : Int)), some (xa_i turn), some (xa_i mm), some (xa_i q), some (xa_i (((ct_n (fun i => fl_P ld dg pa jo wa sr (((i : Nat) : Int) - mm) (F 10) (F 9) (v : Int) (F 12) pc turn) e : Nat) : Int) + 1)), some (xa_i (((e : Nat) : Int) - mm)), some (xa_i (((e : Nat) : Int) - mm)), some (xa_i (-z))] dX10_pushed_125 (by decide) (Nat.le_of_ble_eq_true rfl) rfl rfl ?_
            refine xa_iincw (pc := 127) (y := ((e + 1 : Nat) : Int) - mm) [some (xa_r k), some (xa_i ((v : Nat) : Int)), some (xa_i turn), some (xa_i mm), some (xa_i q), some (xa_i (((ct_n (fun i => fl_P ld dg pa jo wa sr (((i : Nat) : Int) - mm) (F 10) (F 9) (v : Int) (F 12) pc turn) e : Nat) : Int) + 1)), some (xa_i (((e : Nat) : Int) - mm)), some (xa_i (((e + 1 : Nat) : Int) - mm)), some (xa_i (-z))] dX10_pushed_127 (by decide) rfl rfl (by omega) rfl ?_
            refine xa_goto (pc := 130) (tgt := 53) dX10_pushed_130 (by decide) ?_
            have ec : ((ct_n (fun i => fl_P ld dg pa jo wa sr (((i : Nat) : Int) - mm) (F 10) (F 9) (v : Int) (F 12) pc turn) e : Nat) : Int) + 1 = ((ct_n (fun i => fl_P ld dg pa jo wa sr (((i : Nat) : Int) - mm) (F 10) (F 9) (v : Int) (F 12) pc turn) (e + 1) : Nat) : Int) := by
              show ((ct_n (fun i => fl_P ld dg pa jo wa sr (((i : Nat) : Int) - mm) (F 10) (F 9) (v : Int) (F 12) pc turn) e : Nat) : Int) + 1 = ((ct_n (fun i => fl_P ld dg pa jo wa sr (((i : Nat) : Int) - mm) (F 10) (F 9) (v : Int) (F 12) pc turn) e + (if (fun i => fl_P ld dg pa jo wa sr (((i : Nat) : Int) - mm) (F 10) (F 9) (v : Int) (F 12) pc turn) e = true then 1 else 0) : Nat) : Int)
              rw [if_pos (show (fun l => fl_P ld dg pa jo wa sr l (F 10) (F 9) (v : Int) (F 12) pc turn) (((e : Nat) : Int) - mm) = true from c_71)]
              first | rfl | omega
            rw [ec]
            have hzy := nr_pre_y (P := (fun l => fl_P ld dg pa jo wa sr l (F 10) (F 9) (v : Int) (F 12) pc turn)) hz hmm (by omega) (show (fun l => fl_P ld dg pa jo wa sr l (F 10) (F 9) (v : Int) (F 12) pc turn) (((e : Nat) : Int) - mm) = true from c_71)
            have ez : (if z = -10004 ∨ (((e : Nat) : Int) - mm).natAbs < z.natAbs then ((e : Nat) : Int) - mm else z) = ((e : Nat) : Int) - mm := by first | exact if_pos (by omega) | exact if_neg (by omega)
            rw [ez] at hzy
            exact ih (e + 1) _ (xa_upf s102 14 (((e : Nat) : Int) - mm)) _ _ (by omega) (by omega) hzy hmss102 (by omega) (by omega) hM0 hM1 hM2 hM3 hM4 hM5 hM6 hM7 hM8 hM9 hM10 hM11 hM12 hM13 hM14 hM15 hM16 (fun i hi => (fr i hi).trans (fr0 i hi))
          · skip
            refine xa_iload (pc := 100) dX10_pushed_100 rfl ?_
            refine xa_if_ge (pc := 102) (tgt := 111) dX10_pushed_102 (by decide) ⟨by omega, by omega⟩ (fun c_102 => ?_) (fun c_102 => ?_)
            · skip
              refine xa_iload (pc := 111) dX10_pushed_111 rfl ?_
              refine xa_iload (pc := 113) dX10_pushed_113 rfl ?_
              refine xa_icmp_ge (pc := 115) (tgt := 123) dX10_pushed_115 (by decide) ⟨by omega, by omega⟩ ⟨by omega, by omega⟩ (fun c_115 => ?_) (fun c_115 => ?_)
              · skip
                refine xa_iload (pc := 123) dX10_pushed_123 rfl ?_
                refine xa_istorew (pc := 125) [some (xa_r k), some (xa_i ((v : Nat) : Int)), some (xa_i turn), some (xa_i mm), some (xa_i q), some (xa_i (((ct_n (fun i => fl_P ld dg pa jo wa sr (((i : Nat) : Int) - mm) (F 10) (F 9) (v : Int) (F 12) pc turn) e : Nat) : Int) + 1)), some (xa_i z), some (xa_i (((e : Nat) : Int) - mm)), some (xa_i (-z))] dX10_pushed_125 (by decide) (Nat.le_of_ble_eq_true rfl) rfl rfl ?_
                refine xa_iincw (pc := 127) (y := ((e + 1 : Nat) : Int) - mm) [some (xa_r k), some (xa_i ((v : Nat) : Int)), some (xa_i turn), some (xa_i mm), some (xa_i q), some (xa_i (((ct_n (fun i => fl_P ld dg pa jo wa sr (((i : Nat) : Int) - mm) (F 10) (F 9) (v : Int) (F 12) pc turn) e : Nat) : Int) + 1)), some (xa_i z), some (xa_i (((e + 1 : Nat) : Int) - mm)), some (xa_i (-z))] dX10_pushed_127 (by decide) rfl rfl (by omega) rfl ?_
                refine xa_goto (pc := 130) (tgt := 53) dX10_pushed_130 (by decide) ?_
                have ec : ((ct_n (fun i => fl_P ld dg pa jo wa sr (((i : Nat) : Int) - mm) (F 10) (F 9) (v : Int) (F 12) pc turn) e : Nat) : Int) + 1 = ((ct_n (fun i => fl_P ld dg pa jo wa sr (((i : Nat) : Int) - mm) (F 10) (F 9) (v : Int) (F 12) pc turn) (e + 1) : Nat) : Int) := by
                  show ((ct_n (fun i => fl_P ld dg pa jo wa sr (((i : Nat) : Int) - mm) (F 10) (F 9) (v : Int) (F 12) pc turn) e : Nat) : Int) + 1 = ((ct_n (fun i => fl_P ld dg pa jo wa sr (((i : Nat) : Int) - mm) (F 10) (F 9) (v : Int) (F 12) pc turn) e + (if (fun i => fl_P ld dg pa jo wa sr (((i : Nat) : Int) - mm) (F 10) (F 9) (v : Int) (F 12) pc turn) e = true then 1 else 0) : Nat) : Int)
                  rw [if_pos (show (fun l => fl_P ld dg pa jo wa sr l (F 10) (F 9) (v : Int) (F 12) pc turn) (((e : Nat) : Int) - mm) = true from c_71)]
                  first | rfl | omega
                rw [ec]
                have hzy := nr_pre_y (P := (fun l => fl_P ld dg pa jo wa sr l (F 10) (F 9) (v : Int) (F 12) pc turn)) hz hmm (by omega) (show (fun l => fl_P ld dg pa jo wa sr l (F 10) (F 9) (v : Int) (F 12) pc turn) (((e : Nat) : Int) - mm) = true from c_71)
                have ez : (if z = -10004 ∨ (((e : Nat) : Int) - mm).natAbs < z.natAbs then ((e : Nat) : Int) - mm else z) = z := by first | exact if_pos (by omega) | exact if_neg (by omega)
                rw [ez] at hzy
                exact ih (e + 1) _ (xa_upf s102 14 (((e : Nat) : Int) - mm)) _ _ (by omega) (by omega) hzy hmss102 (by omega) (by omega) hM0 hM1 hM2 hM3 hM4 hM5 hM6 hM7 hM8 hM9 hM10 hM11 hM12 hM13 hM14 hM15 hM16 (fun i hi => (fr i hi).trans (fr0 i hi))
              · skip
                refine xa_iload (pc := 118) dX10_pushed_118 rfl ?_
                refine xa_goto (pc := 120) (tgt := 125) dX10_pushed_120 (by decide) ?_
                refine xa_istorew (pc := 125) [some (xa_r k), some (xa_i ((v : Nat) : Int)), some (xa_i turn), some (xa_i mm), some (xa_i q), some (xa_i (((ct_n (fun i => fl_P ld dg pa jo wa sr (((i : Nat) : Int) - mm) (F 10) (F 9) (v : Int) (F 12) pc turn) e : Nat) : Int) + 1)), some (xa_i (((e : Nat) : Int) - mm)), some (xa_i (((e : Nat) : Int) - mm)), some (xa_i (-z))] dX10_pushed_125 (by decide) (Nat.le_of_ble_eq_true rfl) rfl rfl ?_
                refine xa_iincw (pc := 127) (y := ((e + 1 : Nat) : Int) - mm) [some (xa_r k), some (xa_i ((v : Nat) : Int)), some (xa_i turn), some (xa_i mm), some (xa_i q), some (xa_i (((ct_n (fun i => fl_P ld dg pa jo wa sr (((i : Nat) : Int) - mm) (F 10) (F 9) (v : Int) (F 12) pc turn) e : Nat) : Int) + 1)), some (xa_i (((e : Nat) : Int) - mm)), some (xa_i (((e + 1 : Nat) : Int) - mm)), some (xa_i (-z))] dX10_pushed_127 (by decide) rfl rfl (by omega) rfl ?_
                refine xa_goto (pc := 130) (tgt := 53) dX10_pushed_130 (by decide) ?_
                have ec : ((ct_n (fun i => fl_P ld dg pa jo wa sr (((i : Nat) : Int) - mm) (F 10) (F 9) (v : Int) (F 12) pc turn) e : Nat) : Int) + 1 = ((ct_n (fun i => fl_P ld dg pa jo wa sr (((i : Nat) : Int) - mm) (F 10) (F 9) (v : Int) (F 12) pc turn) (e + 1) : Nat) : Int) := by
                  show ((ct_n (fun i => fl_P ld dg pa jo wa sr (((i : Nat) : Int) - mm) (F 10) (F 9) (v : Int) (F 12) pc turn) e : Nat) : Int) + 1 = ((ct_n (fun i => fl_P ld dg pa jo wa sr (((i : Nat) : Int) - mm) (F 10) (F 9) (v : Int) (F 12) pc turn) e + (if (fun i => fl_P ld dg pa jo wa sr (((i : Nat) : Int) - mm) (F 10) (F 9) (v : Int) (F 12) pc turn) e = true then 1 else 0) : Nat) : Int)
                  rw [if_pos (show (fun l => fl_P ld dg pa jo wa sr l (F 10) (F 9) (v : Int) (F 12) pc turn) (((e : Nat) : Int) - mm) = true from c_71)]
                  first | rfl | omega
                rw [ec]
                have hzy := nr_pre_y (P := (fun l => fl_P ld dg pa jo wa sr l (F 10) (F 9) (v : Int) (F 12) pc turn)) hz hmm (by omega) (show (fun l => fl_P ld dg pa jo wa sr l (F 10) (F 9) (v : Int) (F 12) pc turn) (((e : Nat) : Int) - mm) = true from c_71)
                have ez : (if z = -10004 ∨ (((e : Nat) : Int) - mm).natAbs < z.natAbs then ((e : Nat) : Int) - mm else z) = ((e : Nat) : Int) - mm := by first | exact if_pos (by omega) | exact if_neg (by omega)
                rw [ez] at hzy
                exact ih (e + 1) _ (xa_upf s102 14 (((e : Nat) : Int) - mm)) _ _ (by omega) (by omega) hzy hmss102 (by omega) (by omega) hM0 hM1 hM2 hM3 hM4 hM5 hM6 hM7 hM8 hM9 hM10 hM11 hM12 hM13 hM14 hM15 hM16 (fun i hi => (fr i hi).trans (fr0 i hi))
            · skip
              refine xa_iload (pc := 105) dX10_pushed_105 rfl ?_
              refine xa_ineg (pc := 107) dX10_pushed_107 ?_
              refine xa_goto (pc := 108) (tgt := 113) dX10_pushed_108 (by decide) ?_
              refine xa_iload (pc := 113) dX10_pushed_113 rfl ?_
              refine xa_icmp_ge (pc := 115) (tgt := 123) dX10_pushed_115 (by decide) ⟨by omega, by omega⟩ ⟨by omega, by omega⟩ (fun c_115 => ?_) (fun c_115 => ?_)
              · skip
                refine xa_iload (pc := 123) dX10_pushed_123 rfl ?_
                refine xa_istorew (pc := 125) [some (xa_r k), some (xa_i ((v : Nat) : Int)), some (xa_i turn), some (xa_i mm), some (xa_i q), some (xa_i (((ct_n (fun i => fl_P ld dg pa jo wa sr (((i : Nat) : Int) - mm) (F 10) (F 9) (v : Int) (F 12) pc turn) e : Nat) : Int) + 1)), some (xa_i z), some (xa_i (((e : Nat) : Int) - mm)), some (xa_i (-z))] dX10_pushed_125 (by decide) (Nat.le_of_ble_eq_true rfl) rfl rfl ?_
                refine xa_iincw (pc := 127) (y := ((e + 1 : Nat) : Int) - mm) [some (xa_r k), some (xa_i ((v : Nat) : Int)), some (xa_i turn), some (xa_i mm), some (xa_i q), some (xa_i (((ct_n (fun i => fl_P ld dg pa jo wa sr (((i : Nat) : Int) - mm) (F 10) (F 9) (v : Int) (F 12) pc turn) e : Nat) : Int) + 1)), some (xa_i z), some (xa_i (((e + 1 : Nat) : Int) - mm)), some (xa_i (-z))] dX10_pushed_127 (by decide) rfl rfl (by omega) rfl ?_
                refine xa_goto (pc := 130) (tgt := 53) dX10_pushed_130 (by decide) ?_
                have ec : ((ct_n (fun i => fl_P ld dg pa jo wa sr (((i : Nat) : Int) - mm) (F 10) (F 9) (v : Int) (F 12) pc turn) e : Nat) : Int) + 1 = ((ct_n (fun i => fl_P ld dg pa jo wa sr (((i : Nat) : Int) - mm) (F 10) (F 9) (v : Int) (F 12) pc turn) (e + 1) : Nat) : Int) := by
                  show ((ct_n (fun i => fl_P ld dg pa jo wa sr (((i : Nat) : Int) - mm) (F 10) (F 9) (v : Int) (F 12) pc turn) e : Nat) : Int) + 1 = ((ct_n (fun i => fl_P ld dg pa jo wa sr (((i : Nat) : Int) - mm) (F 10) (F 9) (v : Int) (F 12) pc turn) e + (if (fun i => fl_P ld dg pa jo wa sr (((i : Nat) : Int) - mm) (F 10) (F 9) (v : Int) (F 12) pc turn) e = true then 1 else 0) : Nat) : Int)
                  rw [if_pos (show (fun l => fl_P ld dg pa jo wa sr l (F 10) (F 9) (v : Int) (F 12) pc turn) (((e : Nat) : Int) - mm) = true from c_71)]
                  first | rfl | omega
                rw [ec]
                have hzy := nr_pre_y (P := (fun l => fl_P ld dg pa jo wa sr l (F 10) (F 9) (v : Int) (F 12) pc turn)) hz hmm (by omega) (show (fun l => fl_P ld dg pa jo wa sr l (F 10) (F 9) (v : Int) (F 12) pc turn) (((e : Nat) : Int) - mm) = true from c_71)
                have ez : (if z = -10004 ∨ (((e : Nat) : Int) - mm).natAbs < z.natAbs then ((e : Nat) : Int) - mm else z) = z := by first | exact if_pos (by omega) | exact if_neg (by omega)
                rw [ez] at hzy
                exact ih (e + 1) _ (xa_upf s102 14 (((e : Nat) : Int) - mm)) _ _ (by omega) (by omega) hzy hmss102 (by omega) (by omega) hM0 hM1 hM2 hM3 hM4 hM5 hM6 hM7 hM8 hM9 hM10 hM11 hM12 hM13 hM14 hM15 hM16 (fun i hi => (fr i hi).trans (fr0 i hi))
              · skip
                refine xa_iload (pc := 118) dX10_pushed_118 rfl ?_
                refine xa_goto (pc := 120) (tgt := 125) dX10_pushed_120 (by decide) ?_
                refine xa_istorew (pc := 125) [some (xa_r k), some (xa_i ((v : Nat) : Int)), some (xa_i turn), some (xa_i mm), some (xa_i q), some (xa_i (((ct_n (fun i => fl_P ld dg pa jo wa sr (((i : Nat) : Int) - mm) (F 10) (F 9) (v : Int) (F 12) pc turn) e : Nat) : Int) + 1)), some (xa_i (((e : Nat) : Int) - mm)), some (xa_i (((e : Nat) : Int) - mm)), some (xa_i (-z))] dX10_pushed_125 (by decide) (Nat.le_of_ble_eq_true rfl) rfl rfl ?_
                refine xa_iincw (pc := 127) (y := ((e + 1 : Nat) : Int) - mm) [some (xa_r k), some (xa_i ((v : Nat) : Int)), some (xa_i turn), some (xa_i mm), some (xa_i q), some (xa_i (((ct_n (fun i => fl_P ld dg pa jo wa sr (((i : Nat) : Int) - mm) (F 10) (F 9) (v : Int) (F 12) pc turn) e : Nat) : Int) + 1)), some (xa_i (((e : Nat) : Int) - mm)), some (xa_i (((e + 1 : Nat) : Int) - mm)), some (xa_i (-z))] dX10_pushed_127 (by decide) rfl rfl (by omega) rfl ?_
                refine xa_goto (pc := 130) (tgt := 53) dX10_pushed_130 (by decide) ?_
                have ec : ((ct_n (fun i => fl_P ld dg pa jo wa sr (((i : Nat) : Int) - mm) (F 10) (F 9) (v : Int) (F 12) pc turn) e : Nat) : Int) + 1 = ((ct_n (fun i => fl_P ld dg pa jo wa sr (((i : Nat) : Int) - mm) (F 10) (F 9) (v : Int) (F 12) pc turn) (e + 1) : Nat) : Int) := by
                  show ((ct_n (fun i => fl_P ld dg pa jo wa sr (((i : Nat) : Int) - mm) (F 10) (F 9) (v : Int) (F 12) pc turn) e : Nat) : Int) + 1 = ((ct_n (fun i => fl_P ld dg pa jo wa sr (((i : Nat) : Int) - mm) (F 10) (F 9) (v : Int) (F 12) pc turn) e + (if (fun i => fl_P ld dg pa jo wa sr (((i : Nat) : Int) - mm) (F 10) (F 9) (v : Int) (F 12) pc turn) e = true then 1 else 0) : Nat) : Int)
                  rw [if_pos (show (fun l => fl_P ld dg pa jo wa sr l (F 10) (F 9) (v : Int) (F 12) pc turn) (((e : Nat) : Int) - mm) = true from c_71)]
                  first | rfl | omega
                rw [ec]
                have hzy := nr_pre_y (P := (fun l => fl_P ld dg pa jo wa sr l (F 10) (F 9) (v : Int) (F 12) pc turn)) hz hmm (by omega) (show (fun l => fl_P ld dg pa jo wa sr l (F 10) (F 9) (v : Int) (F 12) pc turn) (((e : Nat) : Int) - mm) = true from c_71)
                have ez : (if z = -10004 ∨ (((e : Nat) : Int) - mm).natAbs < z.natAbs then ((e : Nat) : Int) - mm else z) = ((e : Nat) : Int) - mm := by first | exact if_pos (by omega) | exact if_neg (by omega)
                rw [ez] at hzy
                exact ih (e + 1) _ (xa_upf s102 14 (((e : Nat) : Int) - mm)) _ _ (by omega) (by omega) hzy hmss102 (by omega) (by omega) hM0 hM1 hM2 hM3 hM4 hM5 hM6 hM7 hM8 hM9 hM10 hM11 hM12 hM13 hM14 hM15 hM16 (fun i hi => (fr i hi).trans (fr0 i hi))
theorem c_mPushed {G : xa_G} {h : xa_H} (k pc : Nat) (w turn mm q : Int) (F : Nat → Nat → Int) (s : Nat → Int) (ld dg : Nat → Int) (pa jo : Nat) (wa sr pu ri : Int) (h1 : xa_ok w) (h2 : xa_ok turn) (h3 : xa_ok mm) (h4 : xa_ok q) (ho : mOk F ld dg pa jo wa sr pu ri) (hpc : F 11 0 = (pc : Int)) (hfi : fiOk pa (F 12) pc) (hM : xM h k F s)  : xa_M G mX10_pushed [xa_r k, xa_i w, xa_i turn, xa_i mm, xa_i q] h 0 0 (fun r h' => (∃ (r0 : Int) (s' : Nat → Int), r = some (xa_i r0) ∧ sq_pushed ld dg pa jo wa sr (F 10) (F 9) (F 12) pc w turn mm q r0 ∧ msF s s' ∧ xM h' k F s') ∧ h'.2 = h.2 ∧ ∀ i, (i < k ∨ k + 17 ≤ i) → h'.1 i = h.1 i) := by
  refine xa_enter (by decide +kernel) (Nat.le_of_ble_eq_true rfl) ?_
  refine xa_locals (ls' := [some (xa_r k), some (xa_i w), some (xa_i turn), some (xa_i mm), some (xa_i q), none, none, none, none]) rfl ?_
  have hn : h.2 = h.2 := rfl
  have fr : ∀ i, (i < k ∨ k + 17 ≤ i) → h.1 i = h.1 i := fun _ _ => rfl
  obtain ⟨hM0, hM1, hM2, hM3, hM4, hM5, hM6, hM7, hM8, hM9, hM10, hM11, hM12, hM13, hM14, hM15, hM16, hMk, hMn⟩ := hM
  have hpa := ho.1.1
  have hR := ho.2.1.1
  refine xa_iload_n (pc := 0) dX10_pushed_0 rfl ?_
  refine xa_callS (pc := 1) (as := [xa_i w]) (rest := []) dX10_pushed_1 ⟨qX10_isWay.1, qX10_isWay.2.1, qX10_isWay.2.2, by decide, by decide⟩ lkRX10_156 smX10_isWay rfl rfl (Nat.le_of_ble_eq_true rfl) (Nat.zero_le _) (Nat.zero_le _) (c_mWay _ ⟨by omega, by omega⟩) (fun r h' hq => ?_)
  obtain ⟨rfl, hq⟩ := hq
  have hq := hq.symm
  subst hq
  refine xa_if_eq (pc := 4) (tgt := 37) dX10_pushed_4 (by decide) xa_okb (fun c_4 => ?_) (fun c_4 => ?_)
  · have c_4 := xa_b0.mp c_4
    refine xa_sipush (pc := 37) dX10_pushed_37 rfl ?_
    refine xa_ireturn (pc := 40) dX10_pushed_40 rfl trivial ?_
    exact ⟨⟨_, s, rfl, Or.inl ⟨by omega, rfl⟩, ⟨rfl, rfl, rfl⟩, ⟨hM0, hM1, hM2, hM3, hM4, hM5, hM6, hM7, hM8, hM9, hM10, hM11, hM12, hM13, hM14, hM15, hM16, by omega, by omega⟩⟩, hn, fr⟩
  · have c_4 := xa_b1.mp c_4
    refine xa_iload_n (pc := 7) dX10_pushed_7 rfl ?_
    refine xa_callS (pc := 8) (as := [xa_i turn]) (rest := []) dX10_pushed_8 ⟨qX10_isTurn.1, qX10_isTurn.2.1, qX10_isTurn.2.2, by decide, by decide⟩ lkRX10_182 smX10_isTurn rfl rfl (Nat.le_of_ble_eq_true rfl) (Nat.zero_le _) (Nat.zero_le _) (c_mTurn _ ⟨by omega, by omega⟩) (fun r h' hq => ?_)
    obtain ⟨rfl, hq⟩ := hq
    have hq := hq.symm
    subst hq
    refine xa_if_eq (pc := 11) (tgt := 37) dX10_pushed_11 (by decide) xa_okb (fun c_11 => ?_) (fun c_11 => ?_)
    · have c_11 := xa_b0.mp c_11
      refine xa_sipush (pc := 37) dX10_pushed_37 rfl ?_
      refine xa_ireturn (pc := 40) dX10_pushed_40 rfl trivial ?_
      exact ⟨⟨_, s, rfl, Or.inl ⟨by omega, rfl⟩, ⟨rfl, rfl, rfl⟩, ⟨hM0, hM1, hM2, hM3, hM4, hM5, hM6, hM7, hM8, hM9, hM10, hM11, hM12, hM13, hM14, hM15, hM16, by omega, by omega⟩⟩, hn, fr⟩
    · have c_11 := xa_b1.mp c_11
      refine xa_iload_n (pc := 14) dX10_pushed_14 rfl ?_
      refine xa_i2l (pc := 15) dX10_pushed_15 ⟨by omega, by omega⟩ ?_
      refine xa_lconst (pc := 16) (n := 0) dX10_pushed_16 rfl ?_
      refine xa_ldc2 (pc := 17) (n := 200) dX10_pushed_17 ctRX10_226 rfl ?_
      refine xa_callS (pc := 20) (as := [xa_l mm, xa_l 0, xa_l 200]) (rest := []) dX10_pushed_20 ⟨qX10_in.1, qX10_in.2.1, qX10_in.2.2, by decide, by decide⟩ lkRX10_65 smX10_in rfl rfl (Nat.le_of_ble_eq_true rfl) (Nat.zero_le _) (Nat.zero_le _) (c_in _ _ _ ⟨by omega, by omega⟩ ⟨by omega, by omega⟩ ⟨by omega, by omega⟩) (fun r h' hq => ?_)
      obtain ⟨rfl, hq⟩ := hq
      have hq := hq.symm
      subst hq
      refine xa_if_eq (pc := 23) (tgt := 37) dX10_pushed_23 (by decide) xa_okb (fun c_23 => ?_) (fun c_23 => ?_)
      · have c_23 := xa_b0.mp c_23
        refine xa_sipush (pc := 37) dX10_pushed_37 rfl ?_
        refine xa_ireturn (pc := 40) dX10_pushed_40 rfl trivial ?_
        exact ⟨⟨_, s, rfl, Or.inl ⟨by omega, rfl⟩, ⟨rfl, rfl, rfl⟩, ⟨hM0, hM1, hM2, hM3, hM4, hM5, hM6, hM7, hM8, hM9, hM10, hM11, hM12, hM13, hM14, hM15, hM16, by omega, by omega⟩⟩, hn, fr⟩
      · have c_23 := xa_b1.mp c_23
        refine xa_iload (pc := 26) dX10_pushed_26 rfl ?_
        refine xa_i2l (pc := 28) dX10_pushed_28 ⟨by omega, by omega⟩ ?_
        refine xa_lconst (pc := 29) (n := 0) dX10_pushed_29 rfl ?_
        refine xa_lconst (pc := 30) (n := 1) dX10_pushed_30 rfl ?_
        refine xa_callS (pc := 31) (as := [xa_l q, xa_l 0, xa_l 1]) (rest := []) dX10_pushed_31 ⟨qX10_in.1, qX10_in.2.1, qX10_in.2.2, by decide, by decide⟩ lkRX10_65 smX10_in rfl rfl (Nat.le_of_ble_eq_true rfl) (Nat.zero_le _) (Nat.zero_le _) (c_in _ _ _ ⟨by omega, by omega⟩ ⟨by omega, by omega⟩ ⟨by omega, by omega⟩) (fun r h' hq => ?_)
        obtain ⟨rfl, hq⟩ := hq
        have hq := hq.symm
        subst hq
        refine xa_if_ne (pc := 34) (tgt := 41) dX10_pushed_34 (by decide) xa_okb (fun c_34 => ?_) (fun c_34 => ?_)
        · have c_34 := xa_b1.mp c_34
          obtain ⟨v, rfl⟩ : ∃ v : Nat, w = (v : Int) := ⟨w.toNat, by omega⟩
          have ef : F 9 ((v : Nat) : Int).toNat = F 9 v := rfl
          refine xa_iconst (pc := 41) dX10_pushed_41 ?_
          refine xa_istorew (pc := 42) [some (xa_r k), some (xa_i ((v : Nat) : Int)), some (xa_i turn), some (xa_i mm), some (xa_i q), some (xa_i 0), none, none, none] dX10_pushed_42 (by decide) (Nat.le_of_ble_eq_true rfl) rfl rfl ?_
          refine xa_sipush (pc := 44) dX10_pushed_44 rfl ?_
          refine xa_istorew (pc := 47) [some (xa_r k), some (xa_i ((v : Nat) : Int)), some (xa_i turn), some (xa_i mm), some (xa_i q), some (xa_i 0), some (xa_i (-10004)), none, none] dX10_pushed_47 (by decide) (Nat.le_of_ble_eq_true rfl) rfl rfl ?_
          refine xa_iload_n (pc := 49) dX10_pushed_49 rfl ?_
          refine xa_ineg (pc := 50) dX10_pushed_50 ?_
          refine xa_istorew (pc := 51) [some (xa_r k), some (xa_i ((v : Nat) : Int)), some (xa_i turn), some (xa_i mm), some (xa_i q), some (xa_i 0), some (xa_i (-10004)), some (xa_i (-mm)), none] dX10_pushed_51 (by decide) (Nat.le_of_ble_eq_true rfl) rfl rfl ?_
          have e7 : -mm = ((0 : Nat) : Int) - mm := by omega
          rw [e7]
          refine xa_wmono ?_ (c_mPush_loop hMk (by omega) (by omega) (by omega) (by omega) ho hpc hfi 402 0 (-10004) s _ _ (by omega) (by omega) (Or.inl ⟨rfl, fun i hi => absurd hi (Nat.not_lt_zero _)⟩) ⟨rfl, rfl, rfl⟩ (by omega) (by omega) hM0 hM1 hM2 hM3 hM4 hM5 hM6 hM7 hM8 hM9 hM10 hM11 hM12 hM13 hM14 hM15 hM16 fr)
          rintro r h1 ⟨⟨r0, s1, e1, e2, e3, e4⟩, e5⟩
          exact ⟨⟨r0, s1, e1, Or.inr ⟨by omega, e2⟩, e3, e4⟩, e5⟩
        · have c_34 := xa_b0.mp c_34
          refine xa_sipush (pc := 37) dX10_pushed_37 rfl ?_
          refine xa_ireturn (pc := 40) dX10_pushed_40 rfl trivial ?_
          exact ⟨⟨_, s, rfl, Or.inl ⟨by omega, rfl⟩, ⟨rfl, rfl, rfl⟩, ⟨hM0, hM1, hM2, hM3, hM4, hM5, hM6, hM7, hM8, hM9, hM10, hM11, hM12, hM13, hM14, hM15, hM16, by omega, by omega⟩⟩, hn, fr⟩
