/-! The model: the whole text read; fault; lay -/
theorem c_mReadAll_loop {G : xa_G} {h0 : xa_H} {k n : Nat} {F : Nat → Nat → Int} {s : Nat → Int} {b0 : xBt} (hk : 2 ≤ k) (hs0 : s 0 = (n : Int)) (hn9 : n ≤ 120) (hf : ∀ i, 0 ≤ F 1 i ∧ F 1 i ≤ 255) : ∀ (d : Nat) (l p : Nat) (b : xBt) (F1 : Nat → Nat → Int) (g1 : Option xa_V) (h : xa_H), n - p < d → (n ≤ p + l) → (p ≤ 200) → (vD b) → (mD F1 b) → (mBd F1) → (mFr F F1) → (rd_go n (F 1) 120 0 b0 = rd_go n (F1 1) l p b) → (h.2 = h0.2) → (k + 16 < h.2) → (h.1 k = xa_o 10 [xa_i (s 0), xa_r (k + 1), xa_r (k + 2), xa_r (k + 3), xa_r (k + 4), xa_r (k + 5), xa_r (k + 6), xa_r (k + 7), xa_r (k + 8), xa_r (k + 9), xa_r (k + 10), xa_r (k + 11), xa_r (k + 12), xa_i (s 13), xa_i (s 14), xa_i ((p : Nat) : Int), xa_r (k + 13), xa_i (s 17), xa_i (s 18), xa_i (s 19), xa_i (s 20), xa_r (k + 14), xa_r (k + 15), xa_i (s 23), xa_r (k + 16)]) → (h.1 (k + 1) = xa_a 120 (F1 1)) → (h.1 (k + 2) = xa_a 2 (F1 2)) → (h.1 (k + 3) = xa_a 18 (F1 3)) → (h.1 (k + 4) = xa_a 2 (F1 4)) → (h.1 (k + 5) = xa_a 4 (F1 5)) → (h.1 (k + 6) = xa_a 4 (F1 6)) → (h.1 (k + 7) = xa_a 2 (F1 7)) → (h.1 (k + 8) = xa_a 2 (F1 8)) → (h.1 (k + 9) = xa_a 12 (F1 9)) → (h.1 (k + 10) = xa_a 720 (F1 10)) → (h.1 (k + 11) = xa_a 3 (F1 11)) → (h.1 (k + 12) = xa_a 360 (F1 12)) → (h.1 (k + 13) = xa_a 3 (F1 13)) → (h.1 (k + 14) = xa_a 583200 (F1 14)) → (h.1 (k + 15) = xa_a 583200 (F1 15)) → (h.1 (k + 16) = xa_a 4 (F1 16)) → (∀ i, (i < k ∨ k + 17 ≤ i) → h.1 i = h0.1 i) → xa_W G mX10_readAll (xa_Z G (fun r h' => (∃ (F' : Nat → Nat → Int) (x : Int), r = some (xa_i (rd_res (rd_go n (F 1) 120 0 b0).1)) ∧ ((rd_go n (F 1) 120 0 b0).1 = none → mD F' (rd_go n (F 1) 120 0 b0).2) ∧ vD (rd_go n (F 1) 120 0 b0).2 ∧ mBd F' ∧ mFr F F' ∧ xM h' k F' (xa_upf s 15 x)) ∧ h'.2 = h0.2 ∧ ∀ i, (i < k ∨ k + 17 ≤ i) → h'.1 i = h0.1 i)) 34 [some (xa_r k), g1] [] h 0 0 := by
  intro d
  induction d with
  | zero => intros; exfalso; omega
  | succ d ih =>
    intro l p b F1 g1 h hd hl hp9 hv hD hBd hfr hgo hn0 hkn hM0 hM1 hM2 hM3 hM4 hM5 hM6 hM7 hM8 hM9 hM10 hM11 hM12 hM13 hM14 hM15 hM16 fr0
    have hn : h.2 = h.2 := rfl
    have fr : ∀ i, (i < k ∨ k + 17 ≤ i) → h.1 i = h.1 i := fun _ _ => rfl
    refine xa_aload_n (pc := 34) dX10_readAll_34 rfl ?_
    refine xa_getfield (pc := 35) dX10_readAll_35 flRX10_74 (by omega) (by omega) hM0 rfl ?_
    refine xa_aload_n (pc := 38) dX10_readAll_38 rfl ?_
    refine xa_getfield (pc := 39) dX10_readAll_39 flRX10_69 (by omega) (by omega) hM0 rfl ?_
    refine xa_icmp_ge (pc := 42) (tgt := 62) dX10_readAll_42 (by decide) ⟨by omega, by omega⟩ ⟨by omega, by omega⟩ (fun c_42 => ?_) (fun c_42 => ?_)
    · skip
      refine xa_bipush (pc := 62) dX10_readAll_62 rfl ?_
      refine xa_ireturn (pc := 64) dX10_readAll_64 rfl trivial ?_
      have hG : rd_go n (F 1) 120 0 b0 = (none, b) := by rw [hgo]; exact rd_go_e (by omega)
      rw [hG]
      exact ⟨⟨F1, _, rfl, fun _ => hD, hv, hBd, hfr, ⟨hM0, hM1, hM2, hM3, hM4, hM5, hM6, hM7, hM8, hM9, hM10, hM11, hM12, hM13, hM14, hM15, hM16, by omega, by omega⟩⟩, by omega, fun i hi => (fr i hi).trans (fr0 i hi)⟩
    · skip
      refine xa_aload_n (pc := 45) dX10_readAll_45 rfl ?_
      refine xa_getfield (pc := 46) dX10_readAll_46 flRX10_74 (by omega) (by omega) hM0 rfl ?_
      refine xa_istoren (pc := 49) [some (xa_r k), some (xa_i ((p : Nat) : Int))] dX10_readAll_49 (by decide) (Nat.le_of_ble_eq_true rfl) rfl rfl ?_
      refine xa_aload_n (pc := 50) dX10_readAll_50 rfl ?_
      refine xa_callV (pc := 51) (as := []) (rest := []) dX10_readAll_51 ⟨qX10_item.1, qX10_item.2.1, qX10_item.2.2, by decide, by decide⟩ lkRX10_105 imX10_item seX10_item rfl rfl (by omega) (by omega) hM0 rfl (Nat.le_of_ble_eq_true rfl) (Nat.zero_le _) (Nat.zero_le _) (c_mItem _ n p F1 (xa_upf s 15 ((p : Nat) : Int)) b hs0 hn9 (by rw [hfr.1.1]; exact hf) rfl (by omega) hv hD hBd ⟨hM0, hM1, hM2, hM3, hM4, hM5, hM6, hM7, hM8, hM9, hM10, hM11, hM12, hM13, hM14, hM15, hM16, by omega, by omega⟩) (fun r h' hq => ?_)
      obtain ⟨hq, hq2⟩ := hq
      rcases hq with ⟨F', b', p', hit, rfl, hD, hBd, hfr1, hM⟩ | ⟨hit, rfl, F', x, hBd, hfr1, hM⟩
      · skip
        obtain ⟨hqn, hqf⟩ := hq2
        have hM := hM.p15
        have hfr := mFr.trans hfr hfr1
        have hb := rd_item_b hv hit
        obtain ⟨hM0, hM1, hM2, hM3, hM4, hM5, hM6, hM7, hM8, hM9, hM10, hM11, hM12, hM13, hM14, hM15, hM16, hMk, hMn⟩ := hM
        have hM0 : h'.1 k = xa_o 10 [xa_i (s 0), xa_r (k + 1), xa_r (k + 2), xa_r (k + 3), xa_r (k + 4), xa_r (k + 5), xa_r (k + 6), xa_r (k + 7), xa_r (k + 8), xa_r (k + 9), xa_r (k + 10), xa_r (k + 11), xa_r (k + 12), xa_i (s 13), xa_i (s 14), xa_i ((p' : Nat) : Int), xa_r (k + 13), xa_i (s 17), xa_i (s 18), xa_i (s 19), xa_i (s 20), xa_r (k + 14), xa_r (k + 15), xa_i (s 23), xa_r (k + 16)] := hM0
        have hM1 : h'.1 (k + 1) = xa_a 120 (F' 1) := hM1
        have hM2 : h'.1 (k + 2) = xa_a 2 (F' 2) := hM2
        have hM3 : h'.1 (k + 3) = xa_a 18 (F' 3) := hM3
        have hM4 : h'.1 (k + 4) = xa_a 2 (F' 4) := hM4
        have hM5 : h'.1 (k + 5) = xa_a 4 (F' 5) := hM5
        have hM6 : h'.1 (k + 6) = xa_a 4 (F' 6) := hM6
        have hM7 : h'.1 (k + 7) = xa_a 2 (F' 7) := hM7
        have hM8 : h'.1 (k + 8) = xa_a 2 (F' 8) := hM8
        have hM9 : h'.1 (k + 9) = xa_a 12 (F' 9) := hM9
        have hM10 : h'.1 (k + 10) = xa_a 720 (F' 10) := hM10
        have hM11 : h'.1 (k + 11) = xa_a 3 (F' 11) := hM11
        have hM12 : h'.1 (k + 12) = xa_a 360 (F' 12) := hM12
        have hM13 : h'.1 (k + 13) = xa_a 3 (F' 13) := hM13
        have hM14 : h'.1 (k + 14) = xa_a 583200 (F' 14) := hM14
        have hM15 : h'.1 (k + 15) = xa_a 583200 (F' 15) := hM15
        have hM16 : h'.1 (k + 16) = xa_a 4 (F' 16) := hM16
        have hn : h'.2 = h.2 := hqn.trans hn
        have fr : ∀ i, (i < k ∨ k + 17 ≤ i) → h'.1 i = h.1 i := fun i hi => (hqf i (by omega)).trans (fr i hi)
        refine xa_if_ne (pc := 54) (tgt := 59) dX10_readAll_54 (by decide) (by decide) (fun c_54 => ?_) (fun c_54 => ?_)
        · skip
          refine xa_goto (pc := 59) (tgt := 34) dX10_readAll_59 (by decide) ?_
          exact ih (l - 1) p' b' F' _ _ (by omega) (by omega) (by omega) hb.1 hD hBd hfr (by rw [hgo, show l = l - 1 + 1 by omega]; rw [hfr1.1.1]; exact rd_go_s (by omega) hit) (by omega) (by omega) hM0 hM1 hM2 hM3 hM4 hM5 hM6 hM7 hM8 hM9 hM10 hM11 hM12 hM13 hM14 hM15 hM16 (fun i hi => (fr i hi).trans (fr0 i hi))
        · skip
          exfalso; omega
      · skip
        obtain ⟨hqn, hqf⟩ := hq2
        have hM := hM.p15
        have hfr := mFr.trans hfr hfr1
        obtain ⟨hM0, hM1, hM2, hM3, hM4, hM5, hM6, hM7, hM8, hM9, hM10, hM11, hM12, hM13, hM14, hM15, hM16, hMk, hMn⟩ := hM
        have hM0 : h'.1 k = xa_o 10 [xa_i (s 0), xa_r (k + 1), xa_r (k + 2), xa_r (k + 3), xa_r (k + 4), xa_r (k + 5), xa_r (k + 6), xa_r (k + 7), xa_r (k + 8), xa_r (k + 9), xa_r (k + 10), xa_r (k + 11), xa_r (k + 12), xa_i (s 13), xa_i (s 14), xa_i x, xa_r (k + 13), xa_i (s 17), xa_i (s 18), xa_i (s 19), xa_i (s 20), xa_r (k + 14), xa_r (k + 15), xa_i (s 23), xa_r (k + 16)] := hM0
        have hM1 : h'.1 (k + 1) = xa_a 120 (F' 1) := hM1
        have hM2 : h'.1 (k + 2) = xa_a 2 (F' 2) := hM2
        have hM3 : h'.1 (k + 3) = xa_a 18 (F' 3) := hM3
        have hM4 : h'.1 (k + 4) = xa_a 2 (F' 4) := hM4
        have hM5 : h'.1 (k + 5) = xa_a 4 (F' 5) := hM5
        have hM6 : h'.1 (k + 6) = xa_a 4 (F' 6) := hM6
        have hM7 : h'.1 (k + 7) = xa_a 2 (F' 7) := hM7
        have hM8 : h'.1 (k + 8) = xa_a 2 (F' 8) := hM8
        have hM9 : h'.1 (k + 9) = xa_a 12 (F' 9) := hM9
        have hM10 : h'.1 (k + 10) = xa_a 720 (F' 10) := hM10
        have hM11 : h'.1 (k + 11) = xa_a 3 (F' 11) := hM11
        have hM12 : h'.1 (k + 12) = xa_a 360 (F' 12) := hM12
        have hM13 : h'.1 (k + 13) = xa_a 3 (F' 13) := hM13
        have hM14 : h'.1 (k + 14) = xa_a 583200 (F' 14) := hM14
        have hM15 : h'.1 (k + 15) = xa_a 583200 (F' 15) := hM15
        have hM16 : h'.1 (k + 16) = xa_a 4 (F' 16) := hM16
        have hn : h'.2 = h.2 := hqn.trans hn
        have fr : ∀ i, (i < k ∨ k + 17 ≤ i) → h'.1 i = h.1 i := fun i hi => (hqf i (by omega)).trans (fr i hi)
        refine xa_if_ne (pc := 54) (tgt := 59) dX10_readAll_54 (by decide) (by decide) (fun c_54 => ?_) (fun c_54 => ?_)
        · skip
          exfalso; omega
        · skip
          refine xa_iload_n (pc := 57) dX10_readAll_57 rfl ?_
          refine xa_ireturn (pc := 58) dX10_readAll_58 rfl trivial ?_
          have hG : rd_go n (F 1) 120 0 b0 = (some p, b) := by
            rw [hgo, show l = l - 1 + 1 by omega]
            exact rd_go_f (by omega) hit
          rw [hG]
          exact ⟨⟨F', x, rfl, fun z => (by cases z), hv, hBd, hfr, ⟨hM0, hM1, hM2, hM3, hM4, hM5, hM6, hM7, hM8, hM9, hM10, hM11, hM12, hM13, hM14, hM15, hM16, by omega, by omega⟩⟩, by omega, fun i hi => (fr i hi).trans (fr0 i hi)⟩
theorem c_mReadAll {G : xa_G} {h : xa_H} (k n : Nat) (F : Nat → Nat → Int) (s : Nat → Int) (ld dg : Nat → Int) (hs0 : s 0 = (n : Int)) (hn9 : n ≤ 120) (hf : ∀ i, 0 ≤ F 1 i ∧ F 1 i ≤ 255) (hl : ∀ i, 0 ≤ ld i ∧ ld i ≤ 99) (hd : ∀ i, 0 ≤ dg i ∧ dg i ≤ 120) (hBd : mBd F) (hM : xM h k F s)  : xa_M G mX10_readAll [xa_r k] h 0 0 (fun r h' => (∃ (F' : Nat → Nat → Int) (x : Int), r = some (xa_i (rd_res (rd_go n (F 1) 120 0 (rd_b0 ld dg)).1)) ∧ ((rd_go n (F 1) 120 0 (rd_b0 ld dg)).1 = none → mD F' (rd_go n (F 1) 120 0 (rd_b0 ld dg)).2) ∧ vD (rd_go n (F 1) 120 0 (rd_b0 ld dg)).2 ∧ mBd F' ∧ mFr F F' ∧ xM h' k F' (xa_upf s 15 x)) ∧ h'.2 = h.2 ∧ ∀ i, (i < k ∨ k + 17 ≤ i) → h'.1 i = h.1 i) := by
  refine xa_enter (by decide +kernel) (Nat.le_of_ble_eq_true rfl) ?_
  refine xa_locals (ls' := [some (xa_r k), none]) rfl ?_
  have hn : h.2 = h.2 := rfl
  have fr : ∀ i, (i < k ∨ k + 17 ≤ i) → h.1 i = h.1 i := fun _ _ => rfl
  obtain ⟨hM0, hM1, hM2, hM3, hM4, hM5, hM6, hM7, hM8, hM9, hM10, hM11, hM12, hM13, hM14, hM15, hM16, hMk, hMn⟩ := hM
  refine xa_aload_n (pc := 0) dX10_readAll_0 rfl ?_
  refine xa_getfield (pc := 1) dX10_readAll_1 flRX10_13 (by omega) (by omega) hM0 rfl ?_
  refine xa_iconst (pc := 4) dX10_readAll_4 ?_
  refine xa_iconst (pc := 5) dX10_readAll_5 ?_
  refine xa_iastw (pc := 6) 1 dX10_readAll_6 (by omega) (by omega) hM2 (by omega) (by omega) rfl (fun h1 nh1 ch1 oh1 => ?_)
  have hM2 : h1.1 (k + 2) = xa_a 2 (xa_upf (F 2) 1 0) := ch1
  have hM0 : h1.1 k = xa_o 10 [xa_i (s 0), xa_r (k + 1), xa_r (k + 2), xa_r (k + 3), xa_r (k + 4), xa_r (k + 5), xa_r (k + 6), xa_r (k + 7), xa_r (k + 8), xa_r (k + 9), xa_r (k + 10), xa_r (k + 11), xa_r (k + 12), xa_i (s 13), xa_i (s 14), xa_i (s 15), xa_r (k + 13), xa_i (s 17), xa_i (s 18), xa_i (s 19), xa_i (s 20), xa_r (k + 14), xa_r (k + 15), xa_i (s 23), xa_r (k + 16)] := (oh1 _ (by omega)).trans hM0
  have hM1 : h1.1 (k + 1) = xa_a 120 (F 1) := (oh1 _ (by omega)).trans hM1
  have hM3 : h1.1 (k + 3) = xa_a 18 (F 3) := (oh1 _ (by omega)).trans hM3
  have hM4 : h1.1 (k + 4) = xa_a 2 (F 4) := (oh1 _ (by omega)).trans hM4
  have hM5 : h1.1 (k + 5) = xa_a 4 (F 5) := (oh1 _ (by omega)).trans hM5
  have hM6 : h1.1 (k + 6) = xa_a 4 (F 6) := (oh1 _ (by omega)).trans hM6
  have hM7 : h1.1 (k + 7) = xa_a 2 (F 7) := (oh1 _ (by omega)).trans hM7
  have hM8 : h1.1 (k + 8) = xa_a 2 (F 8) := (oh1 _ (by omega)).trans hM8
  have hM9 : h1.1 (k + 9) = xa_a 12 (F 9) := (oh1 _ (by omega)).trans hM9
  have hM10 : h1.1 (k + 10) = xa_a 720 (F 10) := (oh1 _ (by omega)).trans hM10
  have hM11 : h1.1 (k + 11) = xa_a 3 (F 11) := (oh1 _ (by omega)).trans hM11
  have hM12 : h1.1 (k + 12) = xa_a 360 (F 12) := (oh1 _ (by omega)).trans hM12
  have hM13 : h1.1 (k + 13) = xa_a 3 (F 13) := (oh1 _ (by omega)).trans hM13
  have hM14 : h1.1 (k + 14) = xa_a 583200 (F 14) := (oh1 _ (by omega)).trans hM14
  have hM15 : h1.1 (k + 15) = xa_a 583200 (F 15) := (oh1 _ (by omega)).trans hM15
  have hM16 : h1.1 (k + 16) = xa_a 4 (F 16) := (oh1 _ (by omega)).trans hM16
  have hn : h1.2 = h.2 := nh1.trans hn
  have fr : ∀ i, (i < k ∨ k + 17 ≤ i) → h1.1 i = h.1 i := fun i hi => (oh1 i (by omega)).trans (fr i hi)
  refine xa_aload_n (pc := 7) dX10_readAll_7 rfl ?_
  refine xa_getfield (pc := 8) dX10_readAll_8 flRX10_19 (by omega) (by omega) hM0 rfl ?_
  refine xa_iconst (pc := 11) dX10_readAll_11 ?_
  refine xa_iconst (pc := 12) dX10_readAll_12 ?_
  refine xa_iastw (pc := 13) 1 dX10_readAll_13 (by omega) (by omega) hM4 (by omega) (by omega) rfl (fun h2 nh2 ch2 oh2 => ?_)
  have hM4 : h2.1 (k + 4) = xa_a 2 (xa_upf (F 4) 1 0) := ch2
  have hM0 : h2.1 k = xa_o 10 [xa_i (s 0), xa_r (k + 1), xa_r (k + 2), xa_r (k + 3), xa_r (k + 4), xa_r (k + 5), xa_r (k + 6), xa_r (k + 7), xa_r (k + 8), xa_r (k + 9), xa_r (k + 10), xa_r (k + 11), xa_r (k + 12), xa_i (s 13), xa_i (s 14), xa_i (s 15), xa_r (k + 13), xa_i (s 17), xa_i (s 18), xa_i (s 19), xa_i (s 20), xa_r (k + 14), xa_r (k + 15), xa_i (s 23), xa_r (k + 16)] := (oh2 _ (by omega)).trans hM0
  have hM1 : h2.1 (k + 1) = xa_a 120 (F 1) := (oh2 _ (by omega)).trans hM1
  have hM2 : h2.1 (k + 2) = xa_a 2 (xa_upf (F 2) 1 0) := (oh2 _ (by omega)).trans hM2
  have hM3 : h2.1 (k + 3) = xa_a 18 (F 3) := (oh2 _ (by omega)).trans hM3
  have hM5 : h2.1 (k + 5) = xa_a 4 (F 5) := (oh2 _ (by omega)).trans hM5
  have hM6 : h2.1 (k + 6) = xa_a 4 (F 6) := (oh2 _ (by omega)).trans hM6
  have hM7 : h2.1 (k + 7) = xa_a 2 (F 7) := (oh2 _ (by omega)).trans hM7
  have hM8 : h2.1 (k + 8) = xa_a 2 (F 8) := (oh2 _ (by omega)).trans hM8
  have hM9 : h2.1 (k + 9) = xa_a 12 (F 9) := (oh2 _ (by omega)).trans hM9
  have hM10 : h2.1 (k + 10) = xa_a 720 (F 10) := (oh2 _ (by omega)).trans hM10
  have hM11 : h2.1 (k + 11) = xa_a 3 (F 11) := (oh2 _ (by omega)).trans hM11
  have hM12 : h2.1 (k + 12) = xa_a 360 (F 12) := (oh2 _ (by omega)).trans hM12
  have hM13 : h2.1 (k + 13) = xa_a 3 (F 13) := (oh2 _ (by omega)).trans hM13
  have hM14 : h2.1 (k + 14) = xa_a 583200 (F 14) := (oh2 _ (by omega)).trans hM14
  have hM15 : h2.1 (k + 15) = xa_a 583200 (F 15) := (oh2 _ (by omega)).trans hM15
  have hM16 : h2.1 (k + 16) = xa_a 4 (F 16) := (oh2 _ (by omega)).trans hM16
  have hn : h2.2 = h.2 := nh2.trans hn
  have fr : ∀ i, (i < k ∨ k + 17 ≤ i) → h2.1 i = h.1 i := fun i hi => (oh2 i (by omega)).trans (fr i hi)
  refine xa_aload_n (pc := 14) dX10_readAll_14 rfl ?_
  refine xa_getfield (pc := 15) dX10_readAll_15 flRX10_28 (by omega) (by omega) hM0 rfl ?_
  refine xa_iconst (pc := 18) dX10_readAll_18 ?_
  refine xa_iconst (pc := 19) dX10_readAll_19 ?_
  refine xa_iastw (pc := 20) 1 dX10_readAll_20 (by omega) (by omega) hM7 (by omega) (by omega) rfl (fun h3 nh3 ch3 oh3 => ?_)
  have hM7 : h3.1 (k + 7) = xa_a 2 (xa_upf (F 7) 1 0) := ch3
  have hM0 : h3.1 k = xa_o 10 [xa_i (s 0), xa_r (k + 1), xa_r (k + 2), xa_r (k + 3), xa_r (k + 4), xa_r (k + 5), xa_r (k + 6), xa_r (k + 7), xa_r (k + 8), xa_r (k + 9), xa_r (k + 10), xa_r (k + 11), xa_r (k + 12), xa_i (s 13), xa_i (s 14), xa_i (s 15), xa_r (k + 13), xa_i (s 17), xa_i (s 18), xa_i (s 19), xa_i (s 20), xa_r (k + 14), xa_r (k + 15), xa_i (s 23), xa_r (k + 16)] := (oh3 _ (by omega)).trans hM0
  have hM1 : h3.1 (k + 1) = xa_a 120 (F 1) := (oh3 _ (by omega)).trans hM1
  have hM2 : h3.1 (k + 2) = xa_a 2 (xa_upf (F 2) 1 0) := (oh3 _ (by omega)).trans hM2
  have hM3 : h3.1 (k + 3) = xa_a 18 (F 3) := (oh3 _ (by omega)).trans hM3
  have hM4 : h3.1 (k + 4) = xa_a 2 (xa_upf (F 4) 1 0) := (oh3 _ (by omega)).trans hM4
  have hM5 : h3.1 (k + 5) = xa_a 4 (F 5) := (oh3 _ (by omega)).trans hM5
  have hM6 : h3.1 (k + 6) = xa_a 4 (F 6) := (oh3 _ (by omega)).trans hM6
  have hM8 : h3.1 (k + 8) = xa_a 2 (F 8) := (oh3 _ (by omega)).trans hM8
  have hM9 : h3.1 (k + 9) = xa_a 12 (F 9) := (oh3 _ (by omega)).trans hM9
  have hM10 : h3.1 (k + 10) = xa_a 720 (F 10) := (oh3 _ (by omega)).trans hM10
  have hM11 : h3.1 (k + 11) = xa_a 3 (F 11) := (oh3 _ (by omega)).trans hM11
  have hM12 : h3.1 (k + 12) = xa_a 360 (F 12) := (oh3 _ (by omega)).trans hM12
  have hM13 : h3.1 (k + 13) = xa_a 3 (F 13) := (oh3 _ (by omega)).trans hM13
  have hM14 : h3.1 (k + 14) = xa_a 583200 (F 14) := (oh3 _ (by omega)).trans hM14
  have hM15 : h3.1 (k + 15) = xa_a 583200 (F 15) := (oh3 _ (by omega)).trans hM15
  have hM16 : h3.1 (k + 16) = xa_a 4 (F 16) := (oh3 _ (by omega)).trans hM16
  have hn : h3.2 = h.2 := nh3.trans hn
  have fr : ∀ i, (i < k ∨ k + 17 ≤ i) → h3.1 i = h.1 i := fun i hi => (oh3 i (by omega)).trans (fr i hi)
  refine xa_aload_n (pc := 21) dX10_readAll_21 rfl ?_
  refine xa_getfield (pc := 22) dX10_readAll_22 flRX10_31 (by omega) (by omega) hM0 rfl ?_
  refine xa_iconst (pc := 25) dX10_readAll_25 ?_
  refine xa_bipush (pc := 26) dX10_readAll_26 rfl ?_
  refine xa_iastw (pc := 28) 1 dX10_readAll_28 (by omega) (by omega) hM8 (by omega) (by omega) rfl (fun h4 nh4 ch4 oh4 => ?_)
  have hM8 : h4.1 (k + 8) = xa_a 2 (xa_upf (F 8) 1 10) := ch4
  have hM0 : h4.1 k = xa_o 10 [xa_i (s 0), xa_r (k + 1), xa_r (k + 2), xa_r (k + 3), xa_r (k + 4), xa_r (k + 5), xa_r (k + 6), xa_r (k + 7), xa_r (k + 8), xa_r (k + 9), xa_r (k + 10), xa_r (k + 11), xa_r (k + 12), xa_i (s 13), xa_i (s 14), xa_i (s 15), xa_r (k + 13), xa_i (s 17), xa_i (s 18), xa_i (s 19), xa_i (s 20), xa_r (k + 14), xa_r (k + 15), xa_i (s 23), xa_r (k + 16)] := (oh4 _ (by omega)).trans hM0
  have hM1 : h4.1 (k + 1) = xa_a 120 (F 1) := (oh4 _ (by omega)).trans hM1
  have hM2 : h4.1 (k + 2) = xa_a 2 (xa_upf (F 2) 1 0) := (oh4 _ (by omega)).trans hM2
  have hM3 : h4.1 (k + 3) = xa_a 18 (F 3) := (oh4 _ (by omega)).trans hM3
  have hM4 : h4.1 (k + 4) = xa_a 2 (xa_upf (F 4) 1 0) := (oh4 _ (by omega)).trans hM4
  have hM5 : h4.1 (k + 5) = xa_a 4 (F 5) := (oh4 _ (by omega)).trans hM5
  have hM6 : h4.1 (k + 6) = xa_a 4 (F 6) := (oh4 _ (by omega)).trans hM6
  have hM7 : h4.1 (k + 7) = xa_a 2 (xa_upf (F 7) 1 0) := (oh4 _ (by omega)).trans hM7
  have hM9 : h4.1 (k + 9) = xa_a 12 (F 9) := (oh4 _ (by omega)).trans hM9
  have hM10 : h4.1 (k + 10) = xa_a 720 (F 10) := (oh4 _ (by omega)).trans hM10
  have hM11 : h4.1 (k + 11) = xa_a 3 (F 11) := (oh4 _ (by omega)).trans hM11
  have hM12 : h4.1 (k + 12) = xa_a 360 (F 12) := (oh4 _ (by omega)).trans hM12
  have hM13 : h4.1 (k + 13) = xa_a 3 (F 13) := (oh4 _ (by omega)).trans hM13
  have hM14 : h4.1 (k + 14) = xa_a 583200 (F 14) := (oh4 _ (by omega)).trans hM14
  have hM15 : h4.1 (k + 15) = xa_a 583200 (F 15) := (oh4 _ (by omega)).trans hM15
  have hM16 : h4.1 (k + 16) = xa_a 4 (F 16) := (oh4 _ (by omega)).trans hM16
  have hn : h4.2 = h.2 := nh4.trans hn
  have fr : ∀ i, (i < k ∨ k + 17 ≤ i) → h4.1 i = h.1 i := fun i hi => (oh4 i (by omega)).trans (fr i hi)
  refine xa_aload_n (pc := 29) dX10_readAll_29 rfl ?_
  refine xa_iconst (pc := 30) dX10_readAll_30 ?_
  refine xa_putw (pc := 31) [xa_i (s 0), xa_r (k + 1), xa_r (k + 2), xa_r (k + 3), xa_r (k + 4), xa_r (k + 5), xa_r (k + 6), xa_r (k + 7), xa_r (k + 8), xa_r (k + 9), xa_r (k + 10), xa_r (k + 11), xa_r (k + 12), xa_i (s 13), xa_i (s 14), xa_i 0, xa_r (k + 13), xa_i (s 17), xa_i (s 18), xa_i (s 19), xa_i (s 20), xa_r (k + 14), xa_r (k + 15), xa_i (s 23), xa_r (k + 16)] dX10_readAll_31 flRX10_74 plX10_15 (by omega) (by omega) hM0 trivial rfl (fun h5 nh5 ch5 oh5 => ?_)
  have hM0 : h5.1 k = xa_o 10 [xa_i (s 0), xa_r (k + 1), xa_r (k + 2), xa_r (k + 3), xa_r (k + 4), xa_r (k + 5), xa_r (k + 6), xa_r (k + 7), xa_r (k + 8), xa_r (k + 9), xa_r (k + 10), xa_r (k + 11), xa_r (k + 12), xa_i (s 13), xa_i (s 14), xa_i 0, xa_r (k + 13), xa_i (s 17), xa_i (s 18), xa_i (s 19), xa_i (s 20), xa_r (k + 14), xa_r (k + 15), xa_i (s 23), xa_r (k + 16)] := ch5
  have hM1 : h5.1 (k + 1) = xa_a 120 (F 1) := (oh5 _ (by omega)).trans hM1
  have hM2 : h5.1 (k + 2) = xa_a 2 (xa_upf (F 2) 1 0) := (oh5 _ (by omega)).trans hM2
  have hM3 : h5.1 (k + 3) = xa_a 18 (F 3) := (oh5 _ (by omega)).trans hM3
  have hM4 : h5.1 (k + 4) = xa_a 2 (xa_upf (F 4) 1 0) := (oh5 _ (by omega)).trans hM4
  have hM5 : h5.1 (k + 5) = xa_a 4 (F 5) := (oh5 _ (by omega)).trans hM5
  have hM6 : h5.1 (k + 6) = xa_a 4 (F 6) := (oh5 _ (by omega)).trans hM6
  have hM7 : h5.1 (k + 7) = xa_a 2 (xa_upf (F 7) 1 0) := (oh5 _ (by omega)).trans hM7
  have hM8 : h5.1 (k + 8) = xa_a 2 (xa_upf (F 8) 1 10) := (oh5 _ (by omega)).trans hM8
  have hM9 : h5.1 (k + 9) = xa_a 12 (F 9) := (oh5 _ (by omega)).trans hM9
  have hM10 : h5.1 (k + 10) = xa_a 720 (F 10) := (oh5 _ (by omega)).trans hM10
  have hM11 : h5.1 (k + 11) = xa_a 3 (F 11) := (oh5 _ (by omega)).trans hM11
  have hM12 : h5.1 (k + 12) = xa_a 360 (F 12) := (oh5 _ (by omega)).trans hM12
  have hM13 : h5.1 (k + 13) = xa_a 3 (F 13) := (oh5 _ (by omega)).trans hM13
  have hM14 : h5.1 (k + 14) = xa_a 583200 (F 14) := (oh5 _ (by omega)).trans hM14
  have hM15 : h5.1 (k + 15) = xa_a 583200 (F 15) := (oh5 _ (by omega)).trans hM15
  have hM16 : h5.1 (k + 16) = xa_a 4 (F 16) := (oh5 _ (by omega)).trans hM16
  have hn : h5.2 = h.2 := nh5.trans hn
  have fr : ∀ i, (i < k ∨ k + 17 ≤ i) → h5.1 i = h.1 i := fun i hi => (oh5 i (by omega)).trans (fr i hi)
  have hBd1 : mBd (xa_uF (xa_uF (xa_uF (xa_uF F 2 (xa_upf (F 2) 1 0)) 4 (xa_upf (F 4) 1 0)) 7 (xa_upf (F 7) 1 0)) 8 (xa_upf (F 8) 1 10)) := ⟨hBd.1, hBd.2.1, hBd.2.2.1, xa_upf_b hBd.2.2.2.1 (by decide), xa_upf_b hBd.2.2.2.2.1 (by decide), xa_upf_b hBd.2.2.2.2.2.1 (by decide), xa_upf_b hBd.2.2.2.2.2.2 (by decide)⟩
  have hD1 : mD (xa_uF (xa_uF (xa_uF (xa_uF F 2 (xa_upf (F 2) 1 0)) 4 (xa_upf (F 4) 1 0)) 7 (xa_upf (F 7) 1 0)) 8 (xa_upf (F 8) 1 10)) (rd_b0 ld dg) := ⟨rfl, rfl, fun i hi => absurd hi (Nat.not_lt_zero _), fun i hi => absurd hi (Nat.not_lt_zero _), fun i hi => absurd hi (Nat.not_lt_zero _), rfl, rfl⟩
  have hfr1 : mFr F (xa_uF (xa_uF (xa_uF (xa_uF F 2 (xa_upf (F 2) 1 0)) 4 (xa_upf (F 4) 1 0)) 7 (xa_upf (F 7) 1 0)) 8 (xa_upf (F 8) 1 10)) := ⟨⟨rfl, rfl, rfl, rfl, rfl, rfl, rfl, rfl⟩, rfl, rfl, fun _ _ => rfl, fun _ _ => rfl, fun _ _ => rfl, rfl, rfl⟩
  exact c_mReadAll_loop (b0 := rd_b0 ld dg) hMk hs0 hn9 hf 121 120 0 (rd_b0 ld dg) (xa_uF (xa_uF (xa_uF (xa_uF F 2 (xa_upf (F 2) 1 0)) 4 (xa_upf (F 4) 1 0)) 7 (xa_upf (F 7) 1 0)) 8 (xa_upf (F 8) 1 10)) _ _ (by omega) (by omega) (by omega) (vD_b0 hl hd) hD1 hBd1 hfr1 rfl (by omega) (by omega) hM0 hM1 hM2 hM3 hM4 hM5 hM6 hM7 hM8 hM9 hM10 hM11 hM12 hM13 hM14 hM15 hM16 fr
