/-! The model: ways that are run -/
theorem c_mGo_loop {G : xa_G} {h0 : xa_H} {k w : Nat} {most turn : Int} {F : Nat → Nat → Int} {s : Nat → Int} {ld dg : Nat → Int} {pa jo : Nat} {wa sr pu ri : Int} (hk : 2 ≤ k) (hw : w ≤ 3) (hmo : 0 ≤ most ∧ most ≤ 60) (htu : 0 ≤ turn ∧ turn ≤ 359) (ho : mOk F ld dg pa jo wa sr pu ri) (hpu : -9999 ≤ s 14 ∧ s 14 ≤ 9999) : ∀ (d : Nat) (m : Nat) (c : xCf) (u : Int) (g5 g6 : Option xa_V) (h : xa_H), 60 - m < d → (m : Int) ≤ F 9 w → (m : Int) ≤ most → (cr_run ld dg pa jo wa sr (s 14) (fun i => F 10 (60 * w + i)) m = some (c, u)) → (cf_ok pa jo wa sr c) → (h.2 = h0.2) → (k + 16 < h.2) → (h.1 k = xa_o 10 [xa_i (s 0), xa_r (k + 1), xa_r (k + 2), xa_r (k + 3), xa_r (k + 4), xa_r (k + 5), xa_r (k + 6), xa_r (k + 7), xa_r (k + 8), xa_r (k + 9), xa_r (k + 10), xa_r (k + 11), xa_r (k + 12), xa_i (s 13), xa_i (s 14), xa_i (s 15), xa_r (k + 13), xa_i (mE jo wa sr c), xa_i ((turn + u) % 360), xa_i ((m : Nat) : Int), xa_i (s 20), xa_r (k + 14), xa_r (k + 15), xa_i (s 23), xa_r (k + 16)]) → (h.1 (k + 1) = xa_a 120 (F 1)) → (h.1 (k + 2) = xa_a 2 (F 2)) → (h.1 (k + 3) = xa_a 18 (F 3)) → (h.1 (k + 4) = xa_a 2 (F 4)) → (h.1 (k + 5) = xa_a 4 (F 5)) → (h.1 (k + 6) = xa_a 4 (F 6)) → (h.1 (k + 7) = xa_a 2 (F 7)) → (h.1 (k + 8) = xa_a 2 (F 8)) → (h.1 (k + 9) = xa_a 12 (F 9)) → (h.1 (k + 10) = xa_a 720 (F 10)) → (h.1 (k + 11) = xa_a 3 (F 11)) → (h.1 (k + 12) = xa_a 360 (F 12)) → (h.1 (k + 13) = xa_a 3 (F 13)) → (h.1 (k + 14) = xa_a 583200 (F 14)) → (h.1 (k + 15) = xa_a 583200 (F 15)) → (h.1 (k + 16) = xa_a 4 (F 16)) → (∀ i, (i < k ∨ k + 17 ≤ i) → h.1 i = h0.1 i) → xa_W G mX10_go (xa_Z G (fun r h' => (r = none ∧ ∃ (m : Nat) (c : xCf) (u : Int), (m : Int) ≤ F 9 w ∧ (m : Int) ≤ most ∧ cr_run ld dg pa jo wa sr (s 14) (fun i => F 10 (60 * w + i)) m = some (c, u) ∧ cf_ok pa jo wa sr c ∧ ((m : Int) < F 9 w → (m : Int) < most → cf_move pa jo wa sr c (F 10 (60 * w + m)) = none) ∧ xM h' k F (xa_upf (xa_upf (xa_upf s 17 (mE jo wa sr c)) 18 ((turn + u) % 360)) 19 ((m : Nat) : Int))) ∧ h'.2 = h0.2 ∧ ∀ i, (i < k ∨ k + 17 ≤ i) → h'.1 i = h0.1 i)) 21 [some (xa_r k), some (xa_i ((w : Nat) : Int)), some (xa_i turn), some (xa_i most), some (xa_i 1), g5, g6] [] h 0 0 := by
  intro d
  induction d with
  | zero => intros; exfalso; omega
  | succ d ih =>
    intro m c u g5 g6 h hd hm hm2 hrun hc hn0 hkn hM0 hM1 hM2 hM3 hM4 hM5 hM6 hM7 hM8 hM9 hM10 hM11 hM12 hM13 hM14 hM15 hM16 fr0
    have hn : h.2 = h.2 := rfl
    have fr : ∀ i, (i < k ∨ k + 17 ≤ i) → h.1 i = h.1 i := fun _ _ => rfl
    have hmb := mE_9 ho.1 ho.2.1 hc
    have h9 := ho.2.2.2.2.2.1 w
    refine xa_iload (pc := 21) dX10_go_21 rfl ?_
    refine xa_if_eq (pc := 23) (tgt := 131) dX10_go_23 (by decide) (by decide) (fun c_23 => ?_) (fun c_23 => ?_)
    · skip
      exfalso; omega
    · skip
      refine xa_aload_n (pc := 26) dX10_go_26 rfl ?_
      refine xa_getfield (pc := 27) dX10_go_27 flRX10_170 (by omega) (by omega) hM0 rfl ?_
      refine xa_aload_n (pc := 30) dX10_go_30 rfl ?_
      refine xa_getfield (pc := 31) dX10_go_31 flRX10_34 (by omega) (by omega) hM0 rfl ?_
      refine xa_iload_n (pc := 34) dX10_go_34 rfl ?_
      refine xa_ialdw (pc := 35) w dX10_go_35 (by omega) hM9 (by omega) (by omega) (Int.toNat_natCast _) ?_
      have b9_35 := ho.2.2.2.2.2.1 (w)
      refine xa_icmp_ge (pc := 36) (tgt := 131) dX10_go_36 (by decide) ⟨by omega, by omega⟩ ⟨by omega, by omega⟩ (fun c_36 => ?_) (fun c_36 => ?_)
      · skip
        refine xa_return (pc := 131) dX10_go_131 rfl ?_
        exact ⟨⟨rfl, m, c, u, hm, hm2, hrun, hc, fun z1 z2 => by first | (exfalso; omega) | exact hcm, ⟨hM0, hM1, hM2, hM3, hM4, hM5, hM6, hM7, hM8, hM9, hM10, hM11, hM12, hM13, hM14, hM15, hM16, by omega, by omega⟩⟩, by omega, fun i hi => (fr i hi).trans (fr0 i hi)⟩
      · skip
        refine xa_aload_n (pc := 39) dX10_go_39 rfl ?_
        refine xa_getfield (pc := 40) dX10_go_40 flRX10_170 (by omega) (by omega) hM0 rfl ?_
        refine xa_iload_n (pc := 43) dX10_go_43 rfl ?_
        refine xa_icmp_ge (pc := 44) (tgt := 131) dX10_go_44 (by decide) ⟨by omega, by omega⟩ ⟨by omega, by omega⟩ (fun c_44 => ?_) (fun c_44 => ?_)
        · skip
          refine xa_return (pc := 131) dX10_go_131 rfl ?_
          exact ⟨⟨rfl, m, c, u, hm, hm2, hrun, hc, fun z1 z2 => by first | (exfalso; omega) | exact hcm, ⟨hM0, hM1, hM2, hM3, hM4, hM5, hM6, hM7, hM8, hM9, hM10, hM11, hM12, hM13, hM14, hM15, hM16, by omega, by omega⟩⟩, by omega, fun i hi => (fr i hi).trans (fr0 i hi)⟩
        · skip
          refine xa_aload_n (pc := 47) dX10_go_47 rfl ?_
          refine xa_getfield (pc := 48) dX10_go_48 flRX10_37 (by omega) (by omega) hM0 rfl ?_
          refine xa_bipush (pc := 51) dX10_go_51 rfl ?_
          refine xa_iload_n (pc := 53) dX10_go_53 rfl ?_
          refine xa_imul (pc := 54) dX10_go_54 ?_
          refine xa_aload_n (pc := 55) dX10_go_55 rfl ?_
          refine xa_getfield (pc := 56) dX10_go_56 flRX10_170 (by omega) (by omega) hM0 rfl ?_
          refine xa_iadd (pc := 59) dX10_go_59 ?_
          refine xa_ialdw (pc := 60) (60 * w + m) dX10_go_60 (by omega) hM10 (by omega) (by omega) (by omega) ?_
          have b_60 := ho.2.2.2.2.2.2 ((60 * w + m))
          refine xa_istorew (pc := 61) [some (xa_r k), some (xa_i ((w : Nat) : Int)), some (xa_i turn), some (xa_i most), some (xa_i 1), some (xa_i ((F 10) (60 * w + m))), g6] dX10_go_61 (by decide) (Nat.le_of_ble_eq_true rfl) rfl rfl ?_
          refine xa_aload_n (pc := 63) dX10_go_63 rfl ?_
          refine xa_aload_n (pc := 64) dX10_go_64 rfl ?_
          refine xa_getfield (pc := 65) dX10_go_65 flRX10_164 (by omega) (by omega) hM0 rfl ?_
          refine xa_iload (pc := 68) dX10_go_68 rfl ?_
          refine xa_callV (pc := 70) (as := [xa_i (mE jo wa sr c), xa_i ((F 10) (60 * w + m))]) (rest := []) dX10_go_70 ⟨qX10_moved.1, qX10_moved.2.1, qX10_moved.2.2, by decide, by decide⟩ lkRX10_173 imX10_moved seX10_moved rfl rfl (by omega) (by omega) hM0 rfl (Nat.le_of_ble_eq_true rfl) (Nat.zero_le _) (Nat.zero_le _) (c_kMoved (F := F) (s := xa_upf (xa_upf (xa_upf s 17 (mE jo wa sr c)) 18 ((turn + u) % 360)) 19 ((m : Nat) : Int)) ho ⟨hM0, hM1, hM2, hM3, hM4, hM5, hM6, hM7, hM8, hM9, hM10, hM11, hM12, hM13, hM14, hM15, hM16, by omega, by omega⟩ hc ((F 10) (60 * w + m)) (by omega)) (fun r h' hq => ?_)
          obtain ⟨hq2, hq⟩ := hq
          have hq := hq.symm
          subst hq
          have hq := hq2
          rcases hq with ⟨c', hcm, hc1, rfl⟩ | ⟨hcm, rfl⟩
          · skip
            have mE1 := mE_9 ho.1 ho.2.1 hc1
            refine xa_istorew (pc := 73) [some (xa_r k), some (xa_i ((w : Nat) : Int)), some (xa_i turn), some (xa_i most), some (xa_i 1), some (xa_i ((F 10) (60 * w + m))), some (xa_i (mE jo wa sr c'))] dX10_go_73 (by decide) (Nat.le_of_ble_eq_true rfl) rfl rfl ?_
            refine xa_iload (pc := 75) dX10_go_75 rfl ?_
            refine xa_if_lt (pc := 77) (tgt := 84) dX10_go_77 (by decide) ⟨by omega, by omega⟩ (fun c_77 => ?_) (fun c_77 => ?_)
            · skip
              refine xa_iconst (pc := 84) dX10_go_84 ?_
              refine xa_istorew (pc := 85) [some (xa_r k), some (xa_i ((w : Nat) : Int)), some (xa_i turn), some (xa_i most), some (xa_i 0), some (xa_i ((F 10) (60 * w + m))), some (xa_i (mE jo wa sr c'))] dX10_go_85 (by decide) (Nat.le_of_ble_eq_true rfl) rfl rfl ?_
              refine xa_iload (pc := 87) dX10_go_87 rfl ?_
              refine xa_if_eq (pc := 89) (tgt := 128) dX10_go_89 (by decide) (by decide) (fun c_89 => ?_) (fun c_89 => ?_)
              · skip
                refine xa_goto (pc := 128) (tgt := 21) dX10_go_128 (by decide) ?_
                refine xa_iload (pc := 21) dX10_go_21 rfl ?_
                refine xa_if_eq (pc := 23) (tgt := 131) dX10_go_23 (by decide) (by decide) (fun c_23 => ?_) (fun c_23 => ?_)
                · skip
                  refine xa_return (pc := 131) dX10_go_131 rfl ?_
                  exact ⟨⟨rfl, m, c, u, hm, hm2, hrun, hc, fun z1 z2 => by first | (exfalso; omega) | exact hcm, ⟨hM0, hM1, hM2, hM3, hM4, hM5, hM6, hM7, hM8, hM9, hM10, hM11, hM12, hM13, hM14, hM15, hM16, by omega, by omega⟩⟩, by omega, fun i hi => (fr i hi).trans (fr0 i hi)⟩
                · skip
                  exfalso; omega
              · skip
                exfalso; omega
            · skip
              refine xa_iconst (pc := 80) dX10_go_80 ?_
              refine xa_goto (pc := 81) (tgt := 85) dX10_go_81 (by decide) ?_
              refine xa_istorew (pc := 85) [some (xa_r k), some (xa_i ((w : Nat) : Int)), some (xa_i turn), some (xa_i most), some (xa_i 1), some (xa_i ((F 10) (60 * w + m))), some (xa_i (mE jo wa sr c'))] dX10_go_85 (by decide) (Nat.le_of_ble_eq_true rfl) rfl rfl ?_
              refine xa_iload (pc := 87) dX10_go_87 rfl ?_
              refine xa_if_eq (pc := 89) (tgt := 128) dX10_go_89 (by decide) (by decide) (fun c_89 => ?_) (fun c_89 => ?_)
              · skip
                exfalso; omega
              · skip
                refine xa_aload_n (pc := 92) dX10_go_92 rfl ?_
                refine xa_iload (pc := 93) dX10_go_93 rfl ?_
                refine xa_putw (pc := 95) [xa_i (s 0), xa_r (k + 1), xa_r (k + 2), xa_r (k + 3), xa_r (k + 4), xa_r (k + 5), xa_r (k + 6), xa_r (k + 7), xa_r (k + 8), xa_r (k + 9), xa_r (k + 10), xa_r (k + 11), xa_r (k + 12), xa_i (s 13), xa_i (s 14), xa_i (s 15), xa_r (k + 13), xa_i (mE jo wa sr c'), xa_i ((turn + u) % 360), xa_i ((m : Nat) : Int), xa_i (s 20), xa_r (k + 14), xa_r (k + 15), xa_i (s 23), xa_r (k + 16)] dX10_go_95 flRX10_164 plX10_17 (by omega) (by omega) hM0 trivial rfl (fun h1 nh1 ch1 oh1 => ?_)
                have hM0 : h1.1 k = xa_o 10 [xa_i (s 0), xa_r (k + 1), xa_r (k + 2), xa_r (k + 3), xa_r (k + 4), xa_r (k + 5), xa_r (k + 6), xa_r (k + 7), xa_r (k + 8), xa_r (k + 9), xa_r (k + 10), xa_r (k + 11), xa_r (k + 12), xa_i (s 13), xa_i (s 14), xa_i (s 15), xa_r (k + 13), xa_i (mE jo wa sr c'), xa_i ((turn + u) % 360), xa_i ((m : Nat) : Int), xa_i (s 20), xa_r (k + 14), xa_r (k + 15), xa_i (s 23), xa_r (k + 16)] := ch1
                have hM1 : h1.1 (k + 1) = xa_a 120 (F 1) := (oh1 _ (by omega)).trans hM1
                have hM2 : h1.1 (k + 2) = xa_a 2 (F 2) := (oh1 _ (by omega)).trans hM2
                have hM3 : h1.1 (k + 3) = xa_a 18 (F 3) := (oh1 _ (by omega)).trans hM3
                have hM4 : h1.1 (k + 4) = xa_a 2 (F 4) := (oh1 _ (by omega)).trans hM4
                have hM5 : h1.1 (k + 5) = xa_a 4 (F 5) := (oh1 _ (by omega)).trans hM5
                have hM6 : h1.1 (k + 6) = xa_a 4 (F 6) := (oh1 _ (by omega)).trans hM6
                have hM7 : h1.1 (k + 7) = xa_a 2 (F 7) := (oh1 _ (by omega)).trans hM7
                have hM8 : h1.1 (k + 8) = xa_a 2 (F 8) := (oh1 _ (by omega)).trans hM8
                have hM9 : h1.1 (k + 9) = xa_a 12 (F 9) := (oh1 _ (by omega)).trans hM9
                have hM10 : h1.1 (k + 10) = xa_a 720 (F 10) := (oh1 _ (by omega)).trans hM10
                have hM11 : h1.1 (k + 11) = xa_a 3 (F 11) := (oh1 _ (by omega)).trans hM11
                have hM12 : h1.1 (k + 12) = xa_a 360 (F 12) := (oh1 _ (by omega)).trans hM12
                have hM13 : h1.1 (k + 13) = xa_a 3 (F 13) := (oh1 _ (by omega)).trans hM13
                have hM14 : h1.1 (k + 14) = xa_a 583200 (F 14) := (oh1 _ (by omega)).trans hM14
                have hM15 : h1.1 (k + 15) = xa_a 583200 (F 15) := (oh1 _ (by omega)).trans hM15
                have hM16 : h1.1 (k + 16) = xa_a 4 (F 16) := (oh1 _ (by omega)).trans hM16
                have hn : h1.2 = h.2 := nh1.trans hn
                have fr : ∀ i, (i < k ∨ k + 17 ≤ i) → h1.1 i = h.1 i := fun i hi => (oh1 i (by omega)).trans (fr i hi)
                refine xa_aload_n (pc := 98) dX10_go_98 rfl ?_
                refine xa_aload_n (pc := 99) dX10_go_99 rfl ?_
                refine xa_getfield (pc := 100) dX10_go_100 flRX10_167 (by omega) (by omega) hM0 rfl ?_
                refine xa_aload_n (pc := 103) dX10_go_103 rfl ?_
                refine xa_iload (pc := 104) dX10_go_104 rfl ?_
                refine xa_iload (pc := 106) dX10_go_106 rfl ?_
                refine xa_callV (pc := 108) (as := [xa_i (mE jo wa sr c'), xa_i ((F 10) (60 * w + m))]) (rest := [xa_i ((turn + u) % 360), xa_r k]) dX10_go_108 ⟨qX10_turnedBy.1, qX10_turnedBy.2.1, qX10_turnedBy.2.2, by decide, by decide⟩ lkRX10_176 imX10_turnedBy seX10_turnedBy rfl rfl (by omega) (by omega) hM0 rfl (Nat.le_of_ble_eq_true rfl) (Nat.zero_le _) (Nat.zero_le _) (c_kTurned (F := F) (s := xa_upf (xa_upf (xa_upf s 17 (mE jo wa sr c')) 18 ((turn + u) % 360)) 19 ((m : Nat) : Int)) ho ⟨hM0, hM1, hM2, hM3, hM4, hM5, hM6, hM7, hM8, hM9, hM10, hM11, hM12, hM13, hM14, hM15, hM16, by omega, by omega⟩ hc1 ((F 10) (60 * w + m)) (by omega) (cf_move_j hcm) hpu) (fun r h' hq => ?_)
                obtain ⟨rfl, hq⟩ := hq
                have hq := hq.symm
                subst hq
                have tb := cf_turn_b ho.1 hc1 hpu ((F 10) (60 * w + m))
                refine xa_iadd (pc := 111) dX10_go_111 ?_
                refine xa_callS (pc := 112) (as := [xa_i (((turn + u) % 360) + (cf_turn ld dg pa (s 14) c' ((F 10) (60 * w + m))))]) (rest := [xa_r k]) dX10_go_112 ⟨qX10_round.1, qX10_round.2.1, qX10_round.2.2, by decide, by decide⟩ lkRX10_179 smX10_round rfl rfl (Nat.le_of_ble_eq_true rfl) (Nat.zero_le _) (Nat.zero_le _) (c_round _ (by omega)) (fun r h' hq => ?_)
                obtain ⟨rfl, hq⟩ := hq
                have hq := hq.symm
                subst hq
                refine xa_putw (pc := 115) [xa_i (s 0), xa_r (k + 1), xa_r (k + 2), xa_r (k + 3), xa_r (k + 4), xa_r (k + 5), xa_r (k + 6), xa_r (k + 7), xa_r (k + 8), xa_r (k + 9), xa_r (k + 10), xa_r (k + 11), xa_r (k + 12), xa_i (s 13), xa_i (s 14), xa_i (s 15), xa_r (k + 13), xa_i (mE jo wa sr c'), xa_i ((((turn + u) % 360) + (cf_turn ld dg pa (s 14) c' ((F 10) (60 * w + m)))) % 360), xa_i ((m : Nat) : Int), xa_i (s 20), xa_r (k + 14), xa_r (k + 15), xa_i (s 23), xa_r (k + 16)] dX10_go_115 flRX10_167 plX10_18 (by omega) (by omega) hM0 trivial rfl (fun h2 nh2 ch2 oh2 => ?_)
                have hM0 : h2.1 k = xa_o 10 [xa_i (s 0), xa_r (k + 1), xa_r (k + 2), xa_r (k + 3), xa_r (k + 4), xa_r (k + 5), xa_r (k + 6), xa_r (k + 7), xa_r (k + 8), xa_r (k + 9), xa_r (k + 10), xa_r (k + 11), xa_r (k + 12), xa_i (s 13), xa_i (s 14), xa_i (s 15), xa_r (k + 13), xa_i (mE jo wa sr c'), xa_i ((((turn + u) % 360) + (cf_turn ld dg pa (s 14) c' ((F 10) (60 * w + m)))) % 360), xa_i ((m : Nat) : Int), xa_i (s 20), xa_r (k + 14), xa_r (k + 15), xa_i (s 23), xa_r (k + 16)] := ch2
                have hM1 : h2.1 (k + 1) = xa_a 120 (F 1) := (oh2 _ (by omega)).trans hM1
                have hM2 : h2.1 (k + 2) = xa_a 2 (F 2) := (oh2 _ (by omega)).trans hM2
                have hM3 : h2.1 (k + 3) = xa_a 18 (F 3) := (oh2 _ (by omega)).trans hM3
                have hM4 : h2.1 (k + 4) = xa_a 2 (F 4) := (oh2 _ (by omega)).trans hM4
                have hM5 : h2.1 (k + 5) = xa_a 4 (F 5) := (oh2 _ (by omega)).trans hM5
                have hM6 : h2.1 (k + 6) = xa_a 4 (F 6) := (oh2 _ (by omega)).trans hM6
                have hM7 : h2.1 (k + 7) = xa_a 2 (F 7) := (oh2 _ (by omega)).trans hM7
                have hM8 : h2.1 (k + 8) = xa_a 2 (F 8) := (oh2 _ (by omega)).trans hM8
                have hM9 : h2.1 (k + 9) = xa_a 12 (F 9) := (oh2 _ (by omega)).trans hM9
                have hM10 : h2.1 (k + 10) = xa_a 720 (F 10) := (oh2 _ (by omega)).trans hM10
                have hM11 : h2.1 (k + 11) = xa_a 3 (F 11) := (oh2 _ (by omega)).trans hM11
                have hM12 : h2.1 (k + 12) = xa_a 360 (F 12) := (oh2 _ (by omega)).trans hM12
                have hM13 : h2.1 (k + 13) = xa_a 3 (F 13) := (oh2 _ (by omega)).trans hM13
                have hM14 : h2.1 (k + 14) = xa_a 583200 (F 14) := (oh2 _ (by omega)).trans hM14
                have hM15 : h2.1 (k + 15) = xa_a 583200 (F 15) := (oh2 _ (by omega)).trans hM15
                have hM16 : h2.1 (k + 16) = xa_a 4 (F 16) := (oh2 _ (by omega)).trans hM16
                have hn : h2.2 = h.2 := nh2.trans hn
                have fr : ∀ i, (i < k ∨ k + 17 ≤ i) → h2.1 i = h.1 i := fun i hi => (oh2 i (by omega)).trans (fr i hi)
                refine xa_aload_n (pc := 118) dX10_go_118 rfl ?_
                refine xa_dup (pc := 119) dX10_go_119 rfl ?_
                refine xa_getfield (pc := 120) dX10_go_120 flRX10_170 (by omega) (by omega) hM0 rfl ?_
                refine xa_iconst (pc := 123) dX10_go_123 ?_
                refine xa_iadd (pc := 124) dX10_go_124 ?_
                refine xa_top (y := ((m + 1 : Nat) : Int)) (by omega) ?_
                refine xa_putw (pc := 125) [xa_i (s 0), xa_r (k + 1), xa_r (k + 2), xa_r (k + 3), xa_r (k + 4), xa_r (k + 5), xa_r (k + 6), xa_r (k + 7), xa_r (k + 8), xa_r (k + 9), xa_r (k + 10), xa_r (k + 11), xa_r (k + 12), xa_i (s 13), xa_i (s 14), xa_i (s 15), xa_r (k + 13), xa_i (mE jo wa sr c'), xa_i ((((turn + u) % 360) + (cf_turn ld dg pa (s 14) c' ((F 10) (60 * w + m)))) % 360), xa_i ((m + 1 : Nat) : Int), xa_i (s 20), xa_r (k + 14), xa_r (k + 15), xa_i (s 23), xa_r (k + 16)] dX10_go_125 flRX10_170 plX10_19 (by omega) (by omega) hM0 trivial rfl (fun h3 nh3 ch3 oh3 => ?_)
                have hM0 : h3.1 k = xa_o 10 [xa_i (s 0), xa_r (k + 1), xa_r (k + 2), xa_r (k + 3), xa_r (k + 4), xa_r (k + 5), xa_r (k + 6), xa_r (k + 7), xa_r (k + 8), xa_r (k + 9), xa_r (k + 10), xa_r (k + 11), xa_r (k + 12), xa_i (s 13), xa_i (s 14), xa_i (s 15), xa_r (k + 13), xa_i (mE jo wa sr c'), xa_i ((((turn + u) % 360) + (cf_turn ld dg pa (s 14) c' ((F 10) (60 * w + m)))) % 360), xa_i ((m + 1 : Nat) : Int), xa_i (s 20), xa_r (k + 14), xa_r (k + 15), xa_i (s 23), xa_r (k + 16)] := ch3
                have hM1 : h3.1 (k + 1) = xa_a 120 (F 1) := (oh3 _ (by omega)).trans hM1
                have hM2 : h3.1 (k + 2) = xa_a 2 (F 2) := (oh3 _ (by omega)).trans hM2
                have hM3 : h3.1 (k + 3) = xa_a 18 (F 3) := (oh3 _ (by omega)).trans hM3
                have hM4 : h3.1 (k + 4) = xa_a 2 (F 4) := (oh3 _ (by omega)).trans hM4
                have hM5 : h3.1 (k + 5) = xa_a 4 (F 5) := (oh3 _ (by omega)).trans hM5
                have hM6 : h3.1 (k + 6) = xa_a 4 (F 6) := (oh3 _ (by omega)).trans hM6
                have hM7 : h3.1 (k + 7) = xa_a 2 (F 7) := (oh3 _ (by omega)).trans hM7
                have hM8 : h3.1 (k + 8) = xa_a 2 (F 8) := (oh3 _ (by omega)).trans hM8
                have hM9 : h3.1 (k + 9) = xa_a 12 (F 9) := (oh3 _ (by omega)).trans hM9
                have hM10 : h3.1 (k + 10) = xa_a 720 (F 10) := (oh3 _ (by omega)).trans hM10
                have hM11 : h3.1 (k + 11) = xa_a 3 (F 11) := (oh3 _ (by omega)).trans hM11
                have hM12 : h3.1 (k + 12) = xa_a 360 (F 12) := (oh3 _ (by omega)).trans hM12
                have hM13 : h3.1 (k + 13) = xa_a 3 (F 13) := (oh3 _ (by omega)).trans hM13
                have hM14 : h3.1 (k + 14) = xa_a 583200 (F 14) := (oh3 _ (by omega)).trans hM14
                have hM15 : h3.1 (k + 15) = xa_a 583200 (F 15) := (oh3 _ (by omega)).trans hM15
                have hM16 : h3.1 (k + 16) = xa_a 4 (F 16) := (oh3 _ (by omega)).trans hM16
                have hn : h3.2 = h.2 := nh3.trans hn
                have fr : ∀ i, (i < k ∨ k + 17 ≤ i) → h3.1 i = h.1 i := fun i hi => (oh3 i (by omega)).trans (fr i hi)
                refine xa_goto (pc := 128) (tgt := 21) dX10_go_128 (by decide) ?_
                have hm1 := mE_9 ho.1 ho.2.1 hc1
                have hrun1 := cr_run_s hrun hcm
                have e18 : ((turn + u) % 360 + cf_turn ld dg pa (s 14) c' (F 10 (60 * w + m))) % 360 = (turn + (u + cf_turn ld dg pa (s 14) c' (F 10 (60 * w + m)))) % 360 := by omega
                rw [e18] at hM0
                exact ih (m + 1) c' _ _ _ _ (by omega) (by omega) (by omega) hrun1 hc1 (by omega) (by omega) hM0 hM1 hM2 hM3 hM4 hM5 hM6 hM7 hM8 hM9 hM10 hM11 hM12 hM13 hM14 hM15 hM16 (fun i hi => (fr i hi).trans (fr0 i hi))
          · skip
            refine xa_istorew (pc := 73) [some (xa_r k), some (xa_i ((w : Nat) : Int)), some (xa_i turn), some (xa_i most), some (xa_i 1), some (xa_i ((F 10) (60 * w + m))), some (xa_i (-4))] dX10_go_73 (by decide) (Nat.le_of_ble_eq_true rfl) rfl rfl ?_
            refine xa_iload (pc := 75) dX10_go_75 rfl ?_
            refine xa_if_lt (pc := 77) (tgt := 84) dX10_go_77 (by decide) (by decide) (fun c_77 => ?_) (fun c_77 => ?_)
            · skip
              refine xa_iconst (pc := 84) dX10_go_84 ?_
              refine xa_istorew (pc := 85) [some (xa_r k), some (xa_i ((w : Nat) : Int)), some (xa_i turn), some (xa_i most), some (xa_i 0), some (xa_i ((F 10) (60 * w + m))), some (xa_i (-4))] dX10_go_85 (by decide) (Nat.le_of_ble_eq_true rfl) rfl rfl ?_
              refine xa_iload (pc := 87) dX10_go_87 rfl ?_
              refine xa_if_eq (pc := 89) (tgt := 128) dX10_go_89 (by decide) (by decide) (fun c_89 => ?_) (fun c_89 => ?_)
              · skip
                refine xa_goto (pc := 128) (tgt := 21) dX10_go_128 (by decide) ?_
                refine xa_iload (pc := 21) dX10_go_21 rfl ?_
                refine xa_if_eq (pc := 23) (tgt := 131) dX10_go_23 (by decide) (by decide) (fun c_23 => ?_) (fun c_23 => ?_)
                · skip
                  refine xa_return (pc := 131) dX10_go_131 rfl ?_
                  exact ⟨⟨rfl, m, c, u, hm, hm2, hrun, hc, fun z1 z2 => by first | (exfalso; omega) | exact hcm, ⟨hM0, hM1, hM2, hM3, hM4, hM5, hM6, hM7, hM8, hM9, hM10, hM11, hM12, hM13, hM14, hM15, hM16, by omega, by omega⟩⟩, by omega, fun i hi => (fr i hi).trans (fr0 i hi)⟩
                · skip
                  exfalso; omega
              · skip
                exfalso; omega
            · skip
              exfalso; omega
theorem c_mGo {G : xa_G} {h : xa_H} (k w : Nat) (turn most : Int) (F : Nat → Nat → Int) (s : Nat → Int) (ld dg : Nat → Int) (pa jo : Nat) (wa sr pu ri : Int) (hw : w ≤ 3) (hmo : 0 ≤ most ∧ most ≤ 60) (htu : 0 ≤ turn ∧ turn ≤ 359) (ho : mOk F ld dg pa jo wa sr pu ri) (hpu : -9999 ≤ s 14 ∧ s 14 ≤ 9999) (hM : xM h k F s)  : xa_M G mX10_go [xa_r k, xa_i ((w : Nat) : Int), xa_i turn, xa_i most] h 0 0 (fun r h' => (r = none ∧ ∃ (m : Nat) (c : xCf) (u : Int), (m : Int) ≤ F 9 w ∧ (m : Int) ≤ most ∧ cr_run ld dg pa jo wa sr (s 14) (fun i => F 10 (60 * w + i)) m = some (c, u) ∧ cf_ok pa jo wa sr c ∧ ((m : Int) < F 9 w → (m : Int) < most → cf_move pa jo wa sr c (F 10 (60 * w + m)) = none) ∧ xM h' k F (xa_upf (xa_upf (xa_upf s 17 (mE jo wa sr c)) 18 ((turn + u) % 360)) 19 ((m : Nat) : Int))) ∧ h'.2 = h.2 ∧ ∀ i, (i < k ∨ k + 17 ≤ i) → h'.1 i = h.1 i) := by
  refine xa_enter (by decide +kernel) (Nat.le_of_ble_eq_true rfl) ?_
  refine xa_locals (ls' := [some (xa_r k), some (xa_i ((w : Nat) : Int)), some (xa_i turn), some (xa_i most), none, none, none]) rfl ?_
  have hn : h.2 = h.2 := rfl
  have fr : ∀ i, (i < k ∨ k + 17 ≤ i) → h.1 i = h.1 i := fun _ _ => rfl
  obtain ⟨hM0, hM1, hM2, hM3, hM4, hM5, hM6, hM7, hM8, hM9, hM10, hM11, hM12, hM13, hM14, hM15, hM16, hMk, hMn⟩ := hM
  have hc := cf_rest_ok ho.1
  have h9 := ho.2.2.2.2.2.1 w
  refine xa_aload_n (pc := 0) dX10_go_0 rfl ?_
  refine xa_aload_n (pc := 1) dX10_go_1 rfl ?_
  refine xa_callV (pc := 2) (as := []) (rest := [xa_r k]) dX10_go_2 ⟨qX10_rest.1, qX10_rest.2.1, qX10_rest.2.2, by decide, by decide⟩ lkRX10_161 imX10_rest seX10_rest rfl rfl (by omega) (by omega) hM0 rfl (Nat.le_of_ble_eq_true rfl) (Nat.zero_le _) (Nat.zero_le _) (c_kRest (F := F) (s := s) ho ⟨hM0, hM1, hM2, hM3, hM4, hM5, hM6, hM7, hM8, hM9, hM10, hM11, hM12, hM13, hM14, hM15, hM16, by omega, by omega⟩) (fun r h' hq => ?_)
  obtain ⟨rfl, hq⟩ := hq
  have hq := hq.symm
  subst hq
  refine xa_putw (pc := 5) [xa_i (s 0), xa_r (k + 1), xa_r (k + 2), xa_r (k + 3), xa_r (k + 4), xa_r (k + 5), xa_r (k + 6), xa_r (k + 7), xa_r (k + 8), xa_r (k + 9), xa_r (k + 10), xa_r (k + 11), xa_r (k + 12), xa_i (s 13), xa_i (s 14), xa_i (s 15), xa_r (k + 13), xa_i (mE jo wa sr (cf_rest pa)), xa_i (s 18), xa_i (s 19), xa_i (s 20), xa_r (k + 14), xa_r (k + 15), xa_i (s 23), xa_r (k + 16)] dX10_go_5 flRX10_164 plX10_17 (by omega) (by omega) hM0 trivial rfl (fun h1 nh1 ch1 oh1 => ?_)
  have hM0 : h1.1 k = xa_o 10 [xa_i (s 0), xa_r (k + 1), xa_r (k + 2), xa_r (k + 3), xa_r (k + 4), xa_r (k + 5), xa_r (k + 6), xa_r (k + 7), xa_r (k + 8), xa_r (k + 9), xa_r (k + 10), xa_r (k + 11), xa_r (k + 12), xa_i (s 13), xa_i (s 14), xa_i (s 15), xa_r (k + 13), xa_i (mE jo wa sr (cf_rest pa)), xa_i (s 18), xa_i (s 19), xa_i (s 20), xa_r (k + 14), xa_r (k + 15), xa_i (s 23), xa_r (k + 16)] := ch1
  have hM1 : h1.1 (k + 1) = xa_a 120 (F 1) := (oh1 _ (by omega)).trans hM1
  have hM2 : h1.1 (k + 2) = xa_a 2 (F 2) := (oh1 _ (by omega)).trans hM2
  have hM3 : h1.1 (k + 3) = xa_a 18 (F 3) := (oh1 _ (by omega)).trans hM3
  have hM4 : h1.1 (k + 4) = xa_a 2 (F 4) := (oh1 _ (by omega)).trans hM4
  have hM5 : h1.1 (k + 5) = xa_a 4 (F 5) := (oh1 _ (by omega)).trans hM5
  have hM6 : h1.1 (k + 6) = xa_a 4 (F 6) := (oh1 _ (by omega)).trans hM6
  have hM7 : h1.1 (k + 7) = xa_a 2 (F 7) := (oh1 _ (by omega)).trans hM7
  have hM8 : h1.1 (k + 8) = xa_a 2 (F 8) := (oh1 _ (by omega)).trans hM8
  have hM9 : h1.1 (k + 9) = xa_a 12 (F 9) := (oh1 _ (by omega)).trans hM9
  have hM10 : h1.1 (k + 10) = xa_a 720 (F 10) := (oh1 _ (by omega)).trans hM10
  have hM11 : h1.1 (k + 11) = xa_a 3 (F 11) := (oh1 _ (by omega)).trans hM11
  have hM12 : h1.1 (k + 12) = xa_a 360 (F 12) := (oh1 _ (by omega)).trans hM12
  have hM13 : h1.1 (k + 13) = xa_a 3 (F 13) := (oh1 _ (by omega)).trans hM13
  have hM14 : h1.1 (k + 14) = xa_a 583200 (F 14) := (oh1 _ (by omega)).trans hM14
  have hM15 : h1.1 (k + 15) = xa_a 583200 (F 15) := (oh1 _ (by omega)).trans hM15
  have hM16 : h1.1 (k + 16) = xa_a 4 (F 16) := (oh1 _ (by omega)).trans hM16
  have hn : h1.2 = h.2 := nh1.trans hn
  have fr : ∀ i, (i < k ∨ k + 17 ≤ i) → h1.1 i = h.1 i := fun i hi => (oh1 i (by omega)).trans (fr i hi)
  refine xa_aload_n (pc := 8) dX10_go_8 rfl ?_
  refine xa_iload_n (pc := 9) dX10_go_9 rfl ?_
  refine xa_putw (pc := 10) [xa_i (s 0), xa_r (k + 1), xa_r (k + 2), xa_r (k + 3), xa_r (k + 4), xa_r (k + 5), xa_r (k + 6), xa_r (k + 7), xa_r (k + 8), xa_r (k + 9), xa_r (k + 10), xa_r (k + 11), xa_r (k + 12), xa_i (s 13), xa_i (s 14), xa_i (s 15), xa_r (k + 13), xa_i (mE jo wa sr (cf_rest pa)), xa_i turn, xa_i (s 19), xa_i (s 20), xa_r (k + 14), xa_r (k + 15), xa_i (s 23), xa_r (k + 16)] dX10_go_10 flRX10_167 plX10_18 (by omega) (by omega) hM0 trivial rfl (fun h2 nh2 ch2 oh2 => ?_)
  have hM0 : h2.1 k = xa_o 10 [xa_i (s 0), xa_r (k + 1), xa_r (k + 2), xa_r (k + 3), xa_r (k + 4), xa_r (k + 5), xa_r (k + 6), xa_r (k + 7), xa_r (k + 8), xa_r (k + 9), xa_r (k + 10), xa_r (k + 11), xa_r (k + 12), xa_i (s 13), xa_i (s 14), xa_i (s 15), xa_r (k + 13), xa_i (mE jo wa sr (cf_rest pa)), xa_i turn, xa_i (s 19), xa_i (s 20), xa_r (k + 14), xa_r (k + 15), xa_i (s 23), xa_r (k + 16)] := ch2
  have hM1 : h2.1 (k + 1) = xa_a 120 (F 1) := (oh2 _ (by omega)).trans hM1
  have hM2 : h2.1 (k + 2) = xa_a 2 (F 2) := (oh2 _ (by omega)).trans hM2
  have hM3 : h2.1 (k + 3) = xa_a 18 (F 3) := (oh2 _ (by omega)).trans hM3
  have hM4 : h2.1 (k + 4) = xa_a 2 (F 4) := (oh2 _ (by omega)).trans hM4
  have hM5 : h2.1 (k + 5) = xa_a 4 (F 5) := (oh2 _ (by omega)).trans hM5
  have hM6 : h2.1 (k + 6) = xa_a 4 (F 6) := (oh2 _ (by omega)).trans hM6
  have hM7 : h2.1 (k + 7) = xa_a 2 (F 7) := (oh2 _ (by omega)).trans hM7
  have hM8 : h2.1 (k + 8) = xa_a 2 (F 8) := (oh2 _ (by omega)).trans hM8
  have hM9 : h2.1 (k + 9) = xa_a 12 (F 9) := (oh2 _ (by omega)).trans hM9
  have hM10 : h2.1 (k + 10) = xa_a 720 (F 10) := (oh2 _ (by omega)).trans hM10
  have hM11 : h2.1 (k + 11) = xa_a 3 (F 11) := (oh2 _ (by omega)).trans hM11
  have hM12 : h2.1 (k + 12) = xa_a 360 (F 12) := (oh2 _ (by omega)).trans hM12
  have hM13 : h2.1 (k + 13) = xa_a 3 (F 13) := (oh2 _ (by omega)).trans hM13
  have hM14 : h2.1 (k + 14) = xa_a 583200 (F 14) := (oh2 _ (by omega)).trans hM14
  have hM15 : h2.1 (k + 15) = xa_a 583200 (F 15) := (oh2 _ (by omega)).trans hM15
  have hM16 : h2.1 (k + 16) = xa_a 4 (F 16) := (oh2 _ (by omega)).trans hM16
  have hn : h2.2 = h.2 := nh2.trans hn
  have fr : ∀ i, (i < k ∨ k + 17 ≤ i) → h2.1 i = h.1 i := fun i hi => (oh2 i (by omega)).trans (fr i hi)
  refine xa_aload_n (pc := 13) dX10_go_13 rfl ?_
  refine xa_iconst (pc := 14) dX10_go_14 ?_
  refine xa_putw (pc := 15) [xa_i (s 0), xa_r (k + 1), xa_r (k + 2), xa_r (k + 3), xa_r (k + 4), xa_r (k + 5), xa_r (k + 6), xa_r (k + 7), xa_r (k + 8), xa_r (k + 9), xa_r (k + 10), xa_r (k + 11), xa_r (k + 12), xa_i (s 13), xa_i (s 14), xa_i (s 15), xa_r (k + 13), xa_i (mE jo wa sr (cf_rest pa)), xa_i turn, xa_i 0, xa_i (s 20), xa_r (k + 14), xa_r (k + 15), xa_i (s 23), xa_r (k + 16)] dX10_go_15 flRX10_170 plX10_19 (by omega) (by omega) hM0 trivial rfl (fun h3 nh3 ch3 oh3 => ?_)
  have hM0 : h3.1 k = xa_o 10 [xa_i (s 0), xa_r (k + 1), xa_r (k + 2), xa_r (k + 3), xa_r (k + 4), xa_r (k + 5), xa_r (k + 6), xa_r (k + 7), xa_r (k + 8), xa_r (k + 9), xa_r (k + 10), xa_r (k + 11), xa_r (k + 12), xa_i (s 13), xa_i (s 14), xa_i (s 15), xa_r (k + 13), xa_i (mE jo wa sr (cf_rest pa)), xa_i turn, xa_i 0, xa_i (s 20), xa_r (k + 14), xa_r (k + 15), xa_i (s 23), xa_r (k + 16)] := ch3
  have hM1 : h3.1 (k + 1) = xa_a 120 (F 1) := (oh3 _ (by omega)).trans hM1
  have hM2 : h3.1 (k + 2) = xa_a 2 (F 2) := (oh3 _ (by omega)).trans hM2
  have hM3 : h3.1 (k + 3) = xa_a 18 (F 3) := (oh3 _ (by omega)).trans hM3
  have hM4 : h3.1 (k + 4) = xa_a 2 (F 4) := (oh3 _ (by omega)).trans hM4
  have hM5 : h3.1 (k + 5) = xa_a 4 (F 5) := (oh3 _ (by omega)).trans hM5
  have hM6 : h3.1 (k + 6) = xa_a 4 (F 6) := (oh3 _ (by omega)).trans hM6
  have hM7 : h3.1 (k + 7) = xa_a 2 (F 7) := (oh3 _ (by omega)).trans hM7
  have hM8 : h3.1 (k + 8) = xa_a 2 (F 8) := (oh3 _ (by omega)).trans hM8
  have hM9 : h3.1 (k + 9) = xa_a 12 (F 9) := (oh3 _ (by omega)).trans hM9
  have hM10 : h3.1 (k + 10) = xa_a 720 (F 10) := (oh3 _ (by omega)).trans hM10
  have hM11 : h3.1 (k + 11) = xa_a 3 (F 11) := (oh3 _ (by omega)).trans hM11
  have hM12 : h3.1 (k + 12) = xa_a 360 (F 12) := (oh3 _ (by omega)).trans hM12
  have hM13 : h3.1 (k + 13) = xa_a 3 (F 13) := (oh3 _ (by omega)).trans hM13
  have hM14 : h3.1 (k + 14) = xa_a 583200 (F 14) := (oh3 _ (by omega)).trans hM14
  have hM15 : h3.1 (k + 15) = xa_a 583200 (F 15) := (oh3 _ (by omega)).trans hM15
  have hM16 : h3.1 (k + 16) = xa_a 4 (F 16) := (oh3 _ (by omega)).trans hM16
  have hn : h3.2 = h.2 := nh3.trans hn
  have fr : ∀ i, (i < k ∨ k + 17 ≤ i) → h3.1 i = h.1 i := fun i hi => (oh3 i (by omega)).trans (fr i hi)
  refine xa_iconst (pc := 18) dX10_go_18 ?_
  refine xa_istorew (pc := 19) [some (xa_r k), some (xa_i ((w : Nat) : Int)), some (xa_i turn), some (xa_i most), some (xa_i 1), none, none] dX10_go_19 (by decide) (Nat.le_of_ble_eq_true rfl) rfl rfl ?_
  have e18 : turn = (turn + 0) % 360 := by omega
  rw [e18] at hM0
  exact c_mGo_loop hMk hw hmo htu ho hpu 61 0 (cf_rest pa) 0 _ _ _ (by omega) (by omega) (by omega) rfl hc (by omega) (by omega) hM0 hM1 hM2 hM3 hM4 hM5 hM6 hM7 hM8 hM9 hM10 hM11 hM12 hM13 hM14 hM15 hM16 fr
