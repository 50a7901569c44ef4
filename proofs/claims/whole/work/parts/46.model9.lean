/-! The model: fault, lay -/
/-- what a body that is laid leaves in the model -/
def mLaid (F F' : Nat → Nat → Int) (s s' : Nat → Int) (b : xBt) : Prop := mR F' b.1 b.2.1 b.2.2.1 b.2.2.2.1 b.2.2.2.2.1 ∧ F' 7 0 = b.2.2.2.2.2.2.1 ∧ F' 8 0 = b.2.2.2.2.2.2.2 ∧ mBd F' ∧ F' 1 = F 1 ∧ F' 10 = F 10 ∧ F' 12 = F 12 ∧ (∀ i, F' 9 i = if i < 4 then 0 else F 9 i) ∧ (∀ i, F' 11 i = if i = 0 then 0 else F 11 i) ∧ (∀ i, i < 4 → F' 16 i = 0) ∧ s' 0 = s 0 ∧ s' 13 = 0 ∧ s' 20 = -4
theorem c_mFault {G : xa_G} {h : xa_H} (k n : Nat) (F : Nat → Nat → Int) (s : Nat → Int) (ld dg : Nat → Int) (hs0 : s 0 = (n : Int)) (hn9 : n ≤ 120) (hf : ∀ i, 0 ≤ F 1 i ∧ F 1 i ≤ 255) (hl : ∀ i, 0 ≤ ld i ∧ ld i ≤ 99) (hd : ∀ i, 0 ≤ dg i ∧ dg i ≤ 120) (hBd : mBd F) (hM : xM h k F s)  : xa_M G mX10_fault [xa_r k] h 0 0 (fun r h' => (∃ (F' : Nat → Nat → Int) (x : Int), r = some (xa_i (rd_res (rd_go n (F 1) 120 0 (rd_b0 ld dg)).1)) ∧ mBd F' ∧ mFr F F' ∧ xM h' k F' (xa_upf s 15 x)) ∧ h'.2 = h.2 ∧ ∀ i, (i < k ∨ k + 17 ≤ i) → h'.1 i = h.1 i) := by
  refine xa_enter (by decide +kernel) (Nat.le_of_ble_eq_true rfl) ?_
  refine xa_locals (ls' := [some (xa_r k)]) rfl ?_
  have hn : h.2 = h.2 := rfl
  have fr : ∀ i, (i < k ∨ k + 17 ≤ i) → h.1 i = h.1 i := fun _ _ => rfl
  obtain ⟨hM0, hM1, hM2, hM3, hM4, hM5, hM6, hM7, hM8, hM9, hM10, hM11, hM12, hM13, hM14, hM15, hM16, hMk, hMn⟩ := hM
  refine xa_aload_n (pc := 0) dX10_fault_0 rfl ?_
  refine xa_callV (pc := 1) (as := []) (rest := []) dX10_fault_1 ⟨qX10_readAll.1, qX10_readAll.2.1, qX10_readAll.2.2, by decide, by decide⟩ lkRX10_108 imX10_readAll seX10_readAll rfl rfl (by omega) (by omega) hM0 rfl (Nat.le_of_ble_eq_true rfl) (Nat.zero_le _) (Nat.zero_le _) (c_mReadAll _ n F s ld dg hs0 hn9 hf hl hd hBd ⟨hM0, hM1, hM2, hM3, hM4, hM5, hM6, hM7, hM8, hM9, hM10, hM11, hM12, hM13, hM14, hM15, hM16, by omega, by omega⟩) (fun r h' hq => ?_)
  obtain ⟨⟨F', x, rfl, hD, hv, hBd1, hfr, hM⟩, hqn, hqf⟩ := hq
  obtain ⟨hM0, hM1, hM2, hM3, hM4, hM5, hM6, hM7, hM8, hM9, hM10, hM11, hM12, hM13, hM14, hM15, hM16, hMk, hMn⟩ := hM
  have hM0 : h'.1 k = xa_o 10 [xa_i (s 0), xa_r (k + 1), xa_r (k + 2), xa_r (k + 3), xa_r (k + 4), xa_r (k + 5), xa_r (k + 6), xa_r (k + 7), xa_r (k + 8), xa_r (k + 9), xa_r (k + 10), xa_r (k + 11), xa_r (k + 12), xa_i (s 13), xa_i (s 14), xa_i x, xa_r (k + 13), xa_i (s 17), xa_i (s 18), xa_i (s 19), xa_i (s 20), xa_r (k + 14), xa_r (k + 15), xa_i (s 23), xa_r (k + 16)] := hM0
  have hM1 : h'.1 (k + 1) = xa_a 120 (F' 1) := hM1
  have hM2 : h'.1 (k + 2) = xa_a 2 (F' 2) := hM2
  have hM3 : h'.1 (k + 3) = xa_a 18 (F' 3) := hM3
  have hM4 : h'.1 (k + 4) = xa_a 2 (F' 4) := hM4
  have hM5 : h'.1 (k + 5) = xa_a 4 (F' 5) := hM5
  have hM6 : h'.1 (k + 6) = xa_a 4 (F' 6) := hM6
  have hM7 : h'.1 (k + 7) = xa_a 2 (F' 7) := hM7
  have hM8 : h'.1 (k + 8) = xa_a 2 (F' 8) := hM8
  have hM9 : h'.1 (k + 9) = xa_a 12 (F' 9) := hM9
  have hM10 : h'.1 (k + 10) = xa_a 720 (F' 10) := hM10
  have hM11 : h'.1 (k + 11) = xa_a 3 (F' 11) := hM11
  have hM12 : h'.1 (k + 12) = xa_a 360 (F' 12) := hM12
  have hM13 : h'.1 (k + 13) = xa_a 3 (F' 13) := hM13
  have hM14 : h'.1 (k + 14) = xa_a 583200 (F' 14) := hM14
  have hM15 : h'.1 (k + 15) = xa_a 583200 (F' 15) := hM15
  have hM16 : h'.1 (k + 16) = xa_a 4 (F' 16) := hM16
  have hn : h'.2 = h.2 := hqn.trans hn
  have fr : ∀ i, (i < k ∨ k + 17 ≤ i) → h'.1 i = h.1 i := fun i hi => (hqf i (by omega)).trans (fr i hi)
  refine xa_ireturn (pc := 4) dX10_fault_4 rfl trivial ?_
  exact ⟨⟨F', x, rfl, hBd1, hfr, ⟨hM0, hM1, hM2, hM3, hM4, hM5, hM6, hM7, hM8, hM9, hM10, hM11, hM12, hM13, hM14, hM15, hM16, by omega, by omega⟩⟩, hn, fr⟩
theorem rd_res_b (n : Nat) (f : Nat → Int) : ∀ (l p : Nat) (b : xBt), xa_ok n → xa_ok (rd_res (rd_go n f l p b).1)
  | 0, p, b, _ => by
    show xa_ok (-4)
    decide
  | l + 1, p, b, hn => by
    show xa_ok (rd_res (if p < n then (match rd_item n f p b with | some (p', b') => rd_go n f l p' b' | none => (some p, b)) else (none, b)).1)
    split
    · split
      · exact rd_res_b n f l _ _ hn
      · rename_i hp _
        show xa_ok ((p : Nat) : Int)
        have h1 := hn.1
        have h2 := hn.2
        exact ⟨by omega, by omega⟩
    · show xa_ok (-4)
      decide
theorem rd_res_none {r : Option Nat} : rd_res r = -4 ↔ r = none := by
  cases r with
  | none => exact ⟨fun _ => rfl, fun _ => rfl⟩
  | some q =>
    show ((q : Nat) : Int) = -4 ↔ _
    constructor
    · intro z; omega
    · intro z; cases z
set_option maxHeartbeats 4000000 in
theorem c_mLay {G : xa_G} {h : xa_H} (k n : Nat) (F : Nat → Nat → Int) (s : Nat → Int) (ld dg : Nat → Int) (hs0 : s 0 = (n : Int)) (hn9 : n ≤ 120) (hf : ∀ i, 0 ≤ F 1 i ∧ F 1 i ≤ 255) (hl : ∀ i, 0 ≤ ld i ∧ ld i ≤ 99) (hd : ∀ i, 0 ≤ dg i ∧ dg i ≤ 120) (hBd : mBd F) (hM : xM h k F s)  : xa_M G mX10_lay [xa_r k] h 0 0 (fun r h' => ((((rd_go n (F 1) 120 0 (rd_b0 ld dg)).1 = none ∧ (2 ≤ (rd_go n (F 1) 120 0 (rd_b0 ld dg)).2.2.2.1 ∧ (rd_go n (F 1) 120 0 (rd_b0 ld dg)).2.2.2.1 = (rd_go n (F 1) 120 0 (rd_b0 ld dg)).2.2.2.2.1 + 1)) ∧ ∃ (F' : Nat → Nat → Int) (s' : Nat → Int), r = some (xa_i (((rd_go n (F 1) 120 0 (rd_b0 ld dg)).2.2.2.1 : Nat) : Int)) ∧ mLaid F F' s s' (rd_go n (F 1) 120 0 (rd_b0 ld dg)).2 ∧ xM h' k F' s') ∨ (¬ ((rd_go n (F 1) 120 0 (rd_b0 ld dg)).1 = none ∧ (2 ≤ (rd_go n (F 1) 120 0 (rd_b0 ld dg)).2.2.2.1 ∧ (rd_go n (F 1) 120 0 (rd_b0 ld dg)).2.2.2.1 = (rd_go n (F 1) 120 0 (rd_b0 ld dg)).2.2.2.2.1 + 1)) ∧ r = some (xa_i (-2)) ∧ ∃ (F' : Nat → Nat → Int) (x : Int), mBd F' ∧ mFr F F' ∧ xM h' k F' (xa_upf s 15 x))) ∧ h'.2 = h.2 ∧ ∀ i, (i < k ∨ k + 17 ≤ i) → h'.1 i = h.1 i) := by
  refine xa_enter (by decide +kernel) (Nat.le_of_ble_eq_true rfl) ?_
  refine xa_locals (ls' := [some (xa_r k), none]) rfl ?_
  have hn : h.2 = h.2 := rfl
  have fr : ∀ i, (i < k ∨ k + 17 ≤ i) → h.1 i = h.1 i := fun _ _ => rfl
  obtain ⟨hM0, hM1, hM2, hM3, hM4, hM5, hM6, hM7, hM8, hM9, hM10, hM11, hM12, hM13, hM14, hM15, hM16, hMk, hMn⟩ := hM
  have hrb := rd_res_b n (F 1) 120 0 (rd_b0 ld dg) ⟨by omega, by omega⟩
  refine xa_aload_n (pc := 0) dX10_lay_0 rfl ?_
  refine xa_callV (pc := 1) (as := []) (rest := []) dX10_lay_1 ⟨qX10_readAll.1, qX10_readAll.2.1, qX10_readAll.2.2, by decide, by decide⟩ lkRX10_108 imX10_readAll seX10_readAll rfl rfl (by omega) (by omega) hM0 rfl (Nat.le_of_ble_eq_true rfl) (Nat.zero_le _) (Nat.zero_le _) (c_mReadAll _ n F s ld dg hs0 hn9 hf hl hd hBd ⟨hM0, hM1, hM2, hM3, hM4, hM5, hM6, hM7, hM8, hM9, hM10, hM11, hM12, hM13, hM14, hM15, hM16, by omega, by omega⟩) (fun r h' hq => ?_)
  obtain ⟨⟨F', x, rfl, hD, hv, hBd1, hfr, hM⟩, hqn, hqf⟩ := hq
  obtain ⟨hM0, hM1, hM2, hM3, hM4, hM5, hM6, hM7, hM8, hM9, hM10, hM11, hM12, hM13, hM14, hM15, hM16, hMk, hMn⟩ := hM
  have hM0 : h'.1 k = xa_o 10 [xa_i (s 0), xa_r (k + 1), xa_r (k + 2), xa_r (k + 3), xa_r (k + 4), xa_r (k + 5), xa_r (k + 6), xa_r (k + 7), xa_r (k + 8), xa_r (k + 9), xa_r (k + 10), xa_r (k + 11), xa_r (k + 12), xa_i (s 13), xa_i (s 14), xa_i x, xa_r (k + 13), xa_i (s 17), xa_i (s 18), xa_i (s 19), xa_i (s 20), xa_r (k + 14), xa_r (k + 15), xa_i (s 23), xa_r (k + 16)] := hM0
  have hM1 : h'.1 (k + 1) = xa_a 120 (F' 1) := hM1
  have hM2 : h'.1 (k + 2) = xa_a 2 (F' 2) := hM2
  have hM3 : h'.1 (k + 3) = xa_a 18 (F' 3) := hM3
  have hM4 : h'.1 (k + 4) = xa_a 2 (F' 4) := hM4
  have hM5 : h'.1 (k + 5) = xa_a 4 (F' 5) := hM5
  have hM6 : h'.1 (k + 6) = xa_a 4 (F' 6) := hM6
  have hM7 : h'.1 (k + 7) = xa_a 2 (F' 7) := hM7
  have hM8 : h'.1 (k + 8) = xa_a 2 (F' 8) := hM8
  have hM9 : h'.1 (k + 9) = xa_a 12 (F' 9) := hM9
  have hM10 : h'.1 (k + 10) = xa_a 720 (F' 10) := hM10
  have hM11 : h'.1 (k + 11) = xa_a 3 (F' 11) := hM11
  have hM12 : h'.1 (k + 12) = xa_a 360 (F' 12) := hM12
  have hM13 : h'.1 (k + 13) = xa_a 3 (F' 13) := hM13
  have hM14 : h'.1 (k + 14) = xa_a 583200 (F' 14) := hM14
  have hM15 : h'.1 (k + 15) = xa_a 583200 (F' 15) := hM15
  have hM16 : h'.1 (k + 16) = xa_a 4 (F' 16) := hM16
  have hn : h'.2 = h.2 := hqn.trans hn
  have fr : ∀ i, (i < k ∨ k + 17 ≤ i) → h'.1 i = h.1 i := fun i hi => (hqf i (by omega)).trans (fr i hi)
  refine xa_bipush (pc := 4) dX10_lay_4 rfl ?_
  refine xa_icmp_ne (pc := 6) (tgt := 36) dX10_lay_6 (by decide) ⟨by omega, by omega⟩ (by decide) (fun c_6 => ?_) (fun c_6 => ?_)
  · skip
    refine xa_bipush (pc := 36) dX10_lay_36 rfl ?_
    refine xa_ireturn (pc := 38) dX10_lay_38 rfl trivial ?_
    have hno : ¬ ((rd_go n (F 1) 120 0 (rd_b0 ld dg)).1 = none ∧ (2 ≤ (rd_go n (F 1) 120 0 (rd_b0 ld dg)).2.2.2.1 ∧ (rd_go n (F 1) 120 0 (rd_b0 ld dg)).2.2.2.1 = (rd_go n (F 1) 120 0 (rd_b0 ld dg)).2.2.2.2.1 + 1)) := by
      rintro ⟨z, z1, z2⟩
      obtain ⟨d1, d2, -⟩ := hD z
      have z3 := rd_res_none.mpr z
      generalize hG : rd_go n (F 1) 120 0 (rd_b0 ld dg) = G at *
      omega
    exact ⟨Or.inr ⟨hno, rfl, F', x, hBd1, hfr, ⟨hM0, hM1, hM2, hM3, hM4, hM5, hM6, hM7, hM8, hM9, hM10, hM11, hM12, hM13, hM14, hM15, hM16, by omega, by omega⟩⟩, hn, fr⟩
  · skip
    refine xa_aload_n (pc := 9) dX10_lay_9 rfl ?_
    refine xa_getfield (pc := 10) dX10_lay_10 flRX10_13 (by omega) (by omega) hM0 rfl ?_
    refine xa_iconst (pc := 13) dX10_lay_13 ?_
    refine xa_ialdw (pc := 14) 1 dX10_lay_14 (by omega) hM2 (by omega) (by omega) rfl ?_
    have b2_14 := hBd1.2.2.2.2.1 (1)
    refine xa_iconst (pc := 15) dX10_lay_15 ?_
    refine xa_icmp_lt (pc := 16) (tgt := 36) dX10_lay_16 (by decide) ⟨by omega, by omega⟩ (by decide) (fun c_16 => ?_) (fun c_16 => ?_)
    · skip
      refine xa_bipush (pc := 36) dX10_lay_36 rfl ?_
      refine xa_ireturn (pc := 38) dX10_lay_38 rfl trivial ?_
      have hno : ¬ ((rd_go n (F 1) 120 0 (rd_b0 ld dg)).1 = none ∧ (2 ≤ (rd_go n (F 1) 120 0 (rd_b0 ld dg)).2.2.2.1 ∧ (rd_go n (F 1) 120 0 (rd_b0 ld dg)).2.2.2.1 = (rd_go n (F 1) 120 0 (rd_b0 ld dg)).2.2.2.2.1 + 1)) := by
        rintro ⟨z, z1, z2⟩
        obtain ⟨d1, d2, -⟩ := hD z
        have z3 := rd_res_none.mpr z
        generalize hG : rd_go n (F 1) 120 0 (rd_b0 ld dg) = G at *
        omega
      exact ⟨Or.inr ⟨hno, rfl, F', x, hBd1, hfr, ⟨hM0, hM1, hM2, hM3, hM4, hM5, hM6, hM7, hM8, hM9, hM10, hM11, hM12, hM13, hM14, hM15, hM16, by omega, by omega⟩⟩, hn, fr⟩
    · skip
      refine xa_aload_n (pc := 19) dX10_lay_19 rfl ?_
      refine xa_getfield (pc := 20) dX10_lay_20 flRX10_19 (by omega) (by omega) hM0 rfl ?_
      refine xa_iconst (pc := 23) dX10_lay_23 ?_
      refine xa_ialdw (pc := 24) 1 dX10_lay_24 (by omega) hM4 (by omega) (by omega) rfl ?_
      have b4_24 := hBd1.2.2.2.1 (1)
      refine xa_aload_n (pc := 25) dX10_lay_25 rfl ?_
      refine xa_getfield (pc := 26) dX10_lay_26 flRX10_13 (by omega) (by omega) hM0 rfl ?_
      refine xa_iconst (pc := 29) dX10_lay_29 ?_
      refine xa_ialdw (pc := 30) 1 dX10_lay_30 (by omega) hM2 (by omega) (by omega) rfl ?_
      have b2_30 := hBd1.2.2.2.2.1 (1)
      refine xa_iconst (pc := 31) dX10_lay_31 ?_
      refine xa_isub (pc := 32) dX10_lay_32 ?_
      refine xa_icmp_eq (pc := 33) (tgt := 39) dX10_lay_33 (by decide) ⟨by omega, by omega⟩ ⟨by omega, by omega⟩ (fun c_33 => ?_) (fun c_33 => ?_)
      · skip
        refine xa_aload_n (pc := 39) dX10_lay_39 rfl ?_
        refine xa_getfield (pc := 40) dX10_lay_40 flRX10_13 (by omega) (by omega) hM0 rfl ?_
        refine xa_iconst (pc := 43) dX10_lay_43 ?_
        refine xa_aload_n (pc := 44) dX10_lay_44 rfl ?_
        refine xa_getfield (pc := 45) dX10_lay_45 flRX10_13 (by omega) (by omega) hM0 rfl ?_
        refine xa_iconst (pc := 48) dX10_lay_48 ?_
        refine xa_ialdw (pc := 49) 1 dX10_lay_49 (by omega) hM2 (by omega) (by omega) rfl ?_
        have b2_49 := hBd1.2.2.2.2.1 (1)
        refine xa_iastw (pc := 50) 0 dX10_lay_50 (by omega) (by omega) hM2 (by omega) (by omega) rfl (fun h1 nh1 ch1 oh1 => ?_)
        have hM2 : h1.1 (k + 2) = xa_a 2 (xa_upf (F' 2) 0 ((F' 2) 1)) := ch1
        have hM0 : h1.1 k = xa_o 10 [xa_i (s 0), xa_r (k + 1), xa_r (k + 2), xa_r (k + 3), xa_r (k + 4), xa_r (k + 5), xa_r (k + 6), xa_r (k + 7), xa_r (k + 8), xa_r (k + 9), xa_r (k + 10), xa_r (k + 11), xa_r (k + 12), xa_i (s 13), xa_i (s 14), xa_i x, xa_r (k + 13), xa_i (s 17), xa_i (s 18), xa_i (s 19), xa_i (s 20), xa_r (k + 14), xa_r (k + 15), xa_i (s 23), xa_r (k + 16)] := (oh1 _ (by omega)).trans hM0
        have hM1 : h1.1 (k + 1) = xa_a 120 (F' 1) := (oh1 _ (by omega)).trans hM1
        have hM3 : h1.1 (k + 3) = xa_a 18 (F' 3) := (oh1 _ (by omega)).trans hM3
        have hM4 : h1.1 (k + 4) = xa_a 2 (F' 4) := (oh1 _ (by omega)).trans hM4
        have hM5 : h1.1 (k + 5) = xa_a 4 (F' 5) := (oh1 _ (by omega)).trans hM5
        have hM6 : h1.1 (k + 6) = xa_a 4 (F' 6) := (oh1 _ (by omega)).trans hM6
        have hM7 : h1.1 (k + 7) = xa_a 2 (F' 7) := (oh1 _ (by omega)).trans hM7
        have hM8 : h1.1 (k + 8) = xa_a 2 (F' 8) := (oh1 _ (by omega)).trans hM8
        have hM9 : h1.1 (k + 9) = xa_a 12 (F' 9) := (oh1 _ (by omega)).trans hM9
        have hM10 : h1.1 (k + 10) = xa_a 720 (F' 10) := (oh1 _ (by omega)).trans hM10
        have hM11 : h1.1 (k + 11) = xa_a 3 (F' 11) := (oh1 _ (by omega)).trans hM11
        have hM12 : h1.1 (k + 12) = xa_a 360 (F' 12) := (oh1 _ (by omega)).trans hM12
        have hM13 : h1.1 (k + 13) = xa_a 3 (F' 13) := (oh1 _ (by omega)).trans hM13
        have hM14 : h1.1 (k + 14) = xa_a 583200 (F' 14) := (oh1 _ (by omega)).trans hM14
        have hM15 : h1.1 (k + 15) = xa_a 583200 (F' 15) := (oh1 _ (by omega)).trans hM15
        have hM16 : h1.1 (k + 16) = xa_a 4 (F' 16) := (oh1 _ (by omega)).trans hM16
        have hn : h1.2 = h.2 := nh1.trans hn
        have fr : ∀ i, (i < k ∨ k + 17 ≤ i) → h1.1 i = h.1 i := fun i hi => (oh1 i (by omega)).trans (fr i hi)
        refine xa_aload_n (pc := 51) dX10_lay_51 rfl ?_
        refine xa_getfield (pc := 52) dX10_lay_52 flRX10_19 (by omega) (by omega) hM0 rfl ?_
        refine xa_iconst (pc := 55) dX10_lay_55 ?_
        refine xa_aload_n (pc := 56) dX10_lay_56 rfl ?_
        refine xa_getfield (pc := 57) dX10_lay_57 flRX10_19 (by omega) (by omega) hM0 rfl ?_
        refine xa_iconst (pc := 60) dX10_lay_60 ?_
        refine xa_ialdw (pc := 61) 1 dX10_lay_61 (by omega) hM4 (by omega) (by omega) rfl ?_
        have b4_61 := hBd1.2.2.2.1 (1)
        refine xa_iastw (pc := 62) 0 dX10_lay_62 (by omega) (by omega) hM4 (by omega) (by omega) rfl (fun h2 nh2 ch2 oh2 => ?_)
        have hM4 : h2.1 (k + 4) = xa_a 2 (xa_upf (F' 4) 0 ((F' 4) 1)) := ch2
        have hM0 : h2.1 k = xa_o 10 [xa_i (s 0), xa_r (k + 1), xa_r (k + 2), xa_r (k + 3), xa_r (k + 4), xa_r (k + 5), xa_r (k + 6), xa_r (k + 7), xa_r (k + 8), xa_r (k + 9), xa_r (k + 10), xa_r (k + 11), xa_r (k + 12), xa_i (s 13), xa_i (s 14), xa_i x, xa_r (k + 13), xa_i (s 17), xa_i (s 18), xa_i (s 19), xa_i (s 20), xa_r (k + 14), xa_r (k + 15), xa_i (s 23), xa_r (k + 16)] := (oh2 _ (by omega)).trans hM0
        have hM1 : h2.1 (k + 1) = xa_a 120 (F' 1) := (oh2 _ (by omega)).trans hM1
        have hM2 : h2.1 (k + 2) = xa_a 2 (xa_upf (F' 2) 0 ((F' 2) 1)) := (oh2 _ (by omega)).trans hM2
        have hM3 : h2.1 (k + 3) = xa_a 18 (F' 3) := (oh2 _ (by omega)).trans hM3
        have hM5 : h2.1 (k + 5) = xa_a 4 (F' 5) := (oh2 _ (by omega)).trans hM5
        have hM6 : h2.1 (k + 6) = xa_a 4 (F' 6) := (oh2 _ (by omega)).trans hM6
        have hM7 : h2.1 (k + 7) = xa_a 2 (F' 7) := (oh2 _ (by omega)).trans hM7
        have hM8 : h2.1 (k + 8) = xa_a 2 (F' 8) := (oh2 _ (by omega)).trans hM8
        have hM9 : h2.1 (k + 9) = xa_a 12 (F' 9) := (oh2 _ (by omega)).trans hM9
        have hM10 : h2.1 (k + 10) = xa_a 720 (F' 10) := (oh2 _ (by omega)).trans hM10
        have hM11 : h2.1 (k + 11) = xa_a 3 (F' 11) := (oh2 _ (by omega)).trans hM11
        have hM12 : h2.1 (k + 12) = xa_a 360 (F' 12) := (oh2 _ (by omega)).trans hM12
        have hM13 : h2.1 (k + 13) = xa_a 3 (F' 13) := (oh2 _ (by omega)).trans hM13
        have hM14 : h2.1 (k + 14) = xa_a 583200 (F' 14) := (oh2 _ (by omega)).trans hM14
        have hM15 : h2.1 (k + 15) = xa_a 583200 (F' 15) := (oh2 _ (by omega)).trans hM15
        have hM16 : h2.1 (k + 16) = xa_a 4 (F' 16) := (oh2 _ (by omega)).trans hM16
        have hn : h2.2 = h.2 := nh2.trans hn
        have fr : ∀ i, (i < k ∨ k + 17 ≤ i) → h2.1 i = h.1 i := fun i hi => (oh2 i (by omega)).trans (fr i hi)
        refine xa_iconst (pc := 63) dX10_lay_63 ?_
        refine xa_istoren (pc := 64) [some (xa_r k), some (xa_i 0)] dX10_lay_64 (by decide) (Nat.le_of_ble_eq_true rfl) rfl rfl ?_
        refine xa_iload_n (pc := 65) dX10_lay_65 rfl ?_
        refine xa_bipush (pc := 66) dX10_lay_66 rfl ?_
        refine xa_icmp_ge (pc := 68) (tgt := 92) dX10_lay_68 (by decide) (by decide) (by decide) (fun c_68 => ?_) (fun c_68 => ?_)
        · skip
          exfalso; omega
        · skip
          refine xa_aload_n (pc := 71) dX10_lay_71 rfl ?_
          refine xa_getfield (pc := 72) dX10_lay_72 flRX10_16 (by omega) (by omega) hM0 rfl ?_
          refine xa_iload_n (pc := 75) dX10_lay_75 rfl ?_
          refine xa_aload_n (pc := 76) dX10_lay_76 rfl ?_
          refine xa_getfield (pc := 77) dX10_lay_77 flRX10_16 (by omega) (by omega) hM0 rfl ?_
          refine xa_bipush (pc := 80) dX10_lay_80 rfl ?_
          refine xa_iload_n (pc := 82) dX10_lay_82 rfl ?_
          refine xa_iadd (pc := 83) dX10_lay_83 ?_
          refine xa_top (y := 9) (by decide) ?_
          refine xa_ialdw (pc := 84) 9 dX10_lay_84 (by omega) hM3 (by omega) (by omega) rfl ?_
          refine xa_top (y := F' 3 9) rfl ?_
          refine xa_iastw (pc := 85) 0 dX10_lay_85 (by omega) (by omega) hM3 (by omega) (by omega) rfl (fun h3 nh3 ch3 oh3 => ?_)
          have hM3 : h3.1 (k + 3) = xa_a 18 (xa_upf (F' 3) 0 (F' 3 9)) := ch3
          have hM0 : h3.1 k = xa_o 10 [xa_i (s 0), xa_r (k + 1), xa_r (k + 2), xa_r (k + 3), xa_r (k + 4), xa_r (k + 5), xa_r (k + 6), xa_r (k + 7), xa_r (k + 8), xa_r (k + 9), xa_r (k + 10), xa_r (k + 11), xa_r (k + 12), xa_i (s 13), xa_i (s 14), xa_i x, xa_r (k + 13), xa_i (s 17), xa_i (s 18), xa_i (s 19), xa_i (s 20), xa_r (k + 14), xa_r (k + 15), xa_i (s 23), xa_r (k + 16)] := (oh3 _ (by omega)).trans hM0
          have hM1 : h3.1 (k + 1) = xa_a 120 (F' 1) := (oh3 _ (by omega)).trans hM1
          have hM2 : h3.1 (k + 2) = xa_a 2 (xa_upf (F' 2) 0 ((F' 2) 1)) := (oh3 _ (by omega)).trans hM2
          have hM4 : h3.1 (k + 4) = xa_a 2 (xa_upf (F' 4) 0 ((F' 4) 1)) := (oh3 _ (by omega)).trans hM4
          have hM5 : h3.1 (k + 5) = xa_a 4 (F' 5) := (oh3 _ (by omega)).trans hM5
          have hM6 : h3.1 (k + 6) = xa_a 4 (F' 6) := (oh3 _ (by omega)).trans hM6
          have hM7 : h3.1 (k + 7) = xa_a 2 (F' 7) := (oh3 _ (by omega)).trans hM7
          have hM8 : h3.1 (k + 8) = xa_a 2 (F' 8) := (oh3 _ (by omega)).trans hM8
          have hM9 : h3.1 (k + 9) = xa_a 12 (F' 9) := (oh3 _ (by omega)).trans hM9
          have hM10 : h3.1 (k + 10) = xa_a 720 (F' 10) := (oh3 _ (by omega)).trans hM10
          have hM11 : h3.1 (k + 11) = xa_a 3 (F' 11) := (oh3 _ (by omega)).trans hM11
          have hM12 : h3.1 (k + 12) = xa_a 360 (F' 12) := (oh3 _ (by omega)).trans hM12
          have hM13 : h3.1 (k + 13) = xa_a 3 (F' 13) := (oh3 _ (by omega)).trans hM13
          have hM14 : h3.1 (k + 14) = xa_a 583200 (F' 14) := (oh3 _ (by omega)).trans hM14
          have hM15 : h3.1 (k + 15) = xa_a 583200 (F' 15) := (oh3 _ (by omega)).trans hM15
          have hM16 : h3.1 (k + 16) = xa_a 4 (F' 16) := (oh3 _ (by omega)).trans hM16
          have hn : h3.2 = h.2 := nh3.trans hn
          have fr : ∀ i, (i < k ∨ k + 17 ≤ i) → h3.1 i = h.1 i := fun i hi => (oh3 i (by omega)).trans (fr i hi)
          refine xa_iincw (pc := 86) (y := 1) [some (xa_r k), some (xa_i 1)] dX10_lay_86 (by decide) rfl rfl rfl rfl ?_
          refine xa_goto (pc := 89) (tgt := 65) dX10_lay_89 (by decide) ?_
          refine xa_iload_n (pc := 65) dX10_lay_65 rfl ?_
          refine xa_bipush (pc := 66) dX10_lay_66 rfl ?_
          refine xa_icmp_ge (pc := 68) (tgt := 92) dX10_lay_68 (by decide) (by decide) (by decide) (fun c_68 => ?_) (fun c_68 => ?_)
          · skip
            exfalso; omega
          · skip
            refine xa_aload_n (pc := 71) dX10_lay_71 rfl ?_
            refine xa_getfield (pc := 72) dX10_lay_72 flRX10_16 (by omega) (by omega) hM0 rfl ?_
            refine xa_iload_n (pc := 75) dX10_lay_75 rfl ?_
            refine xa_aload_n (pc := 76) dX10_lay_76 rfl ?_
            refine xa_getfield (pc := 77) dX10_lay_77 flRX10_16 (by omega) (by omega) hM0 rfl ?_
            refine xa_bipush (pc := 80) dX10_lay_80 rfl ?_
            refine xa_iload_n (pc := 82) dX10_lay_82 rfl ?_
            refine xa_iadd (pc := 83) dX10_lay_83 ?_
            refine xa_top (y := 10) (by decide) ?_
            refine xa_ialdw (pc := 84) 10 dX10_lay_84 (by omega) hM3 (by omega) (by omega) rfl ?_
            refine xa_top (y := F' 3 10) rfl ?_
            refine xa_iastw (pc := 85) 1 dX10_lay_85 (by omega) (by omega) hM3 (by omega) (by omega) rfl (fun h4 nh4 ch4 oh4 => ?_)
            have hM3 : h4.1 (k + 3) = xa_a 18 (xa_upf (xa_upf (F' 3) 0 (F' 3 9)) 1 (F' 3 10)) := ch4
            have hM0 : h4.1 k = xa_o 10 [xa_i (s 0), xa_r (k + 1), xa_r (k + 2), xa_r (k + 3), xa_r (k + 4), xa_r (k + 5), xa_r (k + 6), xa_r (k + 7), xa_r (k + 8), xa_r (k + 9), xa_r (k + 10), xa_r (k + 11), xa_r (k + 12), xa_i (s 13), xa_i (s 14), xa_i x, xa_r (k + 13), xa_i (s 17), xa_i (s 18), xa_i (s 19), xa_i (s 20), xa_r (k + 14), xa_r (k + 15), xa_i (s 23), xa_r (k + 16)] := (oh4 _ (by omega)).trans hM0
            have hM1 : h4.1 (k + 1) = xa_a 120 (F' 1) := (oh4 _ (by omega)).trans hM1
            have hM2 : h4.1 (k + 2) = xa_a 2 (xa_upf (F' 2) 0 ((F' 2) 1)) := (oh4 _ (by omega)).trans hM2
            have hM4 : h4.1 (k + 4) = xa_a 2 (xa_upf (F' 4) 0 ((F' 4) 1)) := (oh4 _ (by omega)).trans hM4
            have hM5 : h4.1 (k + 5) = xa_a 4 (F' 5) := (oh4 _ (by omega)).trans hM5
            have hM6 : h4.1 (k + 6) = xa_a 4 (F' 6) := (oh4 _ (by omega)).trans hM6
            have hM7 : h4.1 (k + 7) = xa_a 2 (F' 7) := (oh4 _ (by omega)).trans hM7
            have hM8 : h4.1 (k + 8) = xa_a 2 (F' 8) := (oh4 _ (by omega)).trans hM8
            have hM9 : h4.1 (k + 9) = xa_a 12 (F' 9) := (oh4 _ (by omega)).trans hM9
            have hM10 : h4.1 (k + 10) = xa_a 720 (F' 10) := (oh4 _ (by omega)).trans hM10
            have hM11 : h4.1 (k + 11) = xa_a 3 (F' 11) := (oh4 _ (by omega)).trans hM11
            have hM12 : h4.1 (k + 12) = xa_a 360 (F' 12) := (oh4 _ (by omega)).trans hM12
            have hM13 : h4.1 (k + 13) = xa_a 3 (F' 13) := (oh4 _ (by omega)).trans hM13
            have hM14 : h4.1 (k + 14) = xa_a 583200 (F' 14) := (oh4 _ (by omega)).trans hM14
            have hM15 : h4.1 (k + 15) = xa_a 583200 (F' 15) := (oh4 _ (by omega)).trans hM15
            have hM16 : h4.1 (k + 16) = xa_a 4 (F' 16) := (oh4 _ (by omega)).trans hM16
            have hn : h4.2 = h.2 := nh4.trans hn
            have fr : ∀ i, (i < k ∨ k + 17 ≤ i) → h4.1 i = h.1 i := fun i hi => (oh4 i (by omega)).trans (fr i hi)
            refine xa_iincw (pc := 86) (y := 2) [some (xa_r k), some (xa_i 2)] dX10_lay_86 (by decide) rfl rfl rfl rfl ?_
            refine xa_goto (pc := 89) (tgt := 65) dX10_lay_89 (by decide) ?_
            refine xa_iload_n (pc := 65) dX10_lay_65 rfl ?_
            refine xa_bipush (pc := 66) dX10_lay_66 rfl ?_
            refine xa_icmp_ge (pc := 68) (tgt := 92) dX10_lay_68 (by decide) (by decide) (by decide) (fun c_68 => ?_) (fun c_68 => ?_)
            · skip
              exfalso; omega
            · skip
              refine xa_aload_n (pc := 71) dX10_lay_71 rfl ?_
              refine xa_getfield (pc := 72) dX10_lay_72 flRX10_16 (by omega) (by omega) hM0 rfl ?_
              refine xa_iload_n (pc := 75) dX10_lay_75 rfl ?_
              refine xa_aload_n (pc := 76) dX10_lay_76 rfl ?_
              refine xa_getfield (pc := 77) dX10_lay_77 flRX10_16 (by omega) (by omega) hM0 rfl ?_
              refine xa_bipush (pc := 80) dX10_lay_80 rfl ?_
              refine xa_iload_n (pc := 82) dX10_lay_82 rfl ?_
              refine xa_iadd (pc := 83) dX10_lay_83 ?_
              refine xa_top (y := 11) (by decide) ?_
              refine xa_ialdw (pc := 84) 11 dX10_lay_84 (by omega) hM3 (by omega) (by omega) rfl ?_
              refine xa_top (y := F' 3 11) rfl ?_
              refine xa_iastw (pc := 85) 2 dX10_lay_85 (by omega) (by omega) hM3 (by omega) (by omega) rfl (fun h5 nh5 ch5 oh5 => ?_)
              have hM3 : h5.1 (k + 3) = xa_a 18 (xa_upf (xa_upf (xa_upf (F' 3) 0 (F' 3 9)) 1 (F' 3 10)) 2 (F' 3 11)) := ch5
              have hM0 : h5.1 k = xa_o 10 [xa_i (s 0), xa_r (k + 1), xa_r (k + 2), xa_r (k + 3), xa_r (k + 4), xa_r (k + 5), xa_r (k + 6), xa_r (k + 7), xa_r (k + 8), xa_r (k + 9), xa_r (k + 10), xa_r (k + 11), xa_r (k + 12), xa_i (s 13), xa_i (s 14), xa_i x, xa_r (k + 13), xa_i (s 17), xa_i (s 18), xa_i (s 19), xa_i (s 20), xa_r (k + 14), xa_r (k + 15), xa_i (s 23), xa_r (k + 16)] := (oh5 _ (by omega)).trans hM0
              have hM1 : h5.1 (k + 1) = xa_a 120 (F' 1) := (oh5 _ (by omega)).trans hM1
              have hM2 : h5.1 (k + 2) = xa_a 2 (xa_upf (F' 2) 0 ((F' 2) 1)) := (oh5 _ (by omega)).trans hM2
              have hM4 : h5.1 (k + 4) = xa_a 2 (xa_upf (F' 4) 0 ((F' 4) 1)) := (oh5 _ (by omega)).trans hM4
              have hM5 : h5.1 (k + 5) = xa_a 4 (F' 5) := (oh5 _ (by omega)).trans hM5
              have hM6 : h5.1 (k + 6) = xa_a 4 (F' 6) := (oh5 _ (by omega)).trans hM6
              have hM7 : h5.1 (k + 7) = xa_a 2 (F' 7) := (oh5 _ (by omega)).trans hM7
              have hM8 : h5.1 (k + 8) = xa_a 2 (F' 8) := (oh5 _ (by omega)).trans hM8
              have hM9 : h5.1 (k + 9) = xa_a 12 (F' 9) := (oh5 _ (by omega)).trans hM9
              have hM10 : h5.1 (k + 10) = xa_a 720 (F' 10) := (oh5 _ (by omega)).trans hM10
              have hM11 : h5.1 (k + 11) = xa_a 3 (F' 11) := (oh5 _ (by omega)).trans hM11
              have hM12 : h5.1 (k + 12) = xa_a 360 (F' 12) := (oh5 _ (by omega)).trans hM12
              have hM13 : h5.1 (k + 13) = xa_a 3 (F' 13) := (oh5 _ (by omega)).trans hM13
              have hM14 : h5.1 (k + 14) = xa_a 583200 (F' 14) := (oh5 _ (by omega)).trans hM14
              have hM15 : h5.1 (k + 15) = xa_a 583200 (F' 15) := (oh5 _ (by omega)).trans hM15
              have hM16 : h5.1 (k + 16) = xa_a 4 (F' 16) := (oh5 _ (by omega)).trans hM16
              have hn : h5.2 = h.2 := nh5.trans hn
              have fr : ∀ i, (i < k ∨ k + 17 ≤ i) → h5.1 i = h.1 i := fun i hi => (oh5 i (by omega)).trans (fr i hi)
              refine xa_iincw (pc := 86) (y := 3) [some (xa_r k), some (xa_i 3)] dX10_lay_86 (by decide) rfl rfl rfl rfl ?_
              refine xa_goto (pc := 89) (tgt := 65) dX10_lay_89 (by decide) ?_
              refine xa_iload_n (pc := 65) dX10_lay_65 rfl ?_
              refine xa_bipush (pc := 66) dX10_lay_66 rfl ?_
              refine xa_icmp_ge (pc := 68) (tgt := 92) dX10_lay_68 (by decide) (by decide) (by decide) (fun c_68 => ?_) (fun c_68 => ?_)
              · skip
                exfalso; omega
              · skip
                refine xa_aload_n (pc := 71) dX10_lay_71 rfl ?_
                refine xa_getfield (pc := 72) dX10_lay_72 flRX10_16 (by omega) (by omega) hM0 rfl ?_
                refine xa_iload_n (pc := 75) dX10_lay_75 rfl ?_
                refine xa_aload_n (pc := 76) dX10_lay_76 rfl ?_
                refine xa_getfield (pc := 77) dX10_lay_77 flRX10_16 (by omega) (by omega) hM0 rfl ?_
                refine xa_bipush (pc := 80) dX10_lay_80 rfl ?_
                refine xa_iload_n (pc := 82) dX10_lay_82 rfl ?_
                refine xa_iadd (pc := 83) dX10_lay_83 ?_
                refine xa_top (y := 12) (by decide) ?_
                refine xa_ialdw (pc := 84) 12 dX10_lay_84 (by omega) hM3 (by omega) (by omega) rfl ?_
                refine xa_top (y := F' 3 12) rfl ?_
                refine xa_iastw (pc := 85) 3 dX10_lay_85 (by omega) (by omega) hM3 (by omega) (by omega) rfl (fun h6 nh6 ch6 oh6 => ?_)
                have hM3 : h6.1 (k + 3) = xa_a 18 (xa_upf (xa_upf (xa_upf (xa_upf (F' 3) 0 (F' 3 9)) 1 (F' 3 10)) 2 (F' 3 11)) 3 (F' 3 12)) := ch6
                have hM0 : h6.1 k = xa_o 10 [xa_i (s 0), xa_r (k + 1), xa_r (k + 2), xa_r (k + 3), xa_r (k + 4), xa_r (k + 5), xa_r (k + 6), xa_r (k + 7), xa_r (k + 8), xa_r (k + 9), xa_r (k + 10), xa_r (k + 11), xa_r (k + 12), xa_i (s 13), xa_i (s 14), xa_i x, xa_r (k + 13), xa_i (s 17), xa_i (s 18), xa_i (s 19), xa_i (s 20), xa_r (k + 14), xa_r (k + 15), xa_i (s 23), xa_r (k + 16)] := (oh6 _ (by omega)).trans hM0
                have hM1 : h6.1 (k + 1) = xa_a 120 (F' 1) := (oh6 _ (by omega)).trans hM1
                have hM2 : h6.1 (k + 2) = xa_a 2 (xa_upf (F' 2) 0 ((F' 2) 1)) := (oh6 _ (by omega)).trans hM2
                have hM4 : h6.1 (k + 4) = xa_a 2 (xa_upf (F' 4) 0 ((F' 4) 1)) := (oh6 _ (by omega)).trans hM4
                have hM5 : h6.1 (k + 5) = xa_a 4 (F' 5) := (oh6 _ (by omega)).trans hM5
                have hM6 : h6.1 (k + 6) = xa_a 4 (F' 6) := (oh6 _ (by omega)).trans hM6
                have hM7 : h6.1 (k + 7) = xa_a 2 (F' 7) := (oh6 _ (by omega)).trans hM7
                have hM8 : h6.1 (k + 8) = xa_a 2 (F' 8) := (oh6 _ (by omega)).trans hM8
                have hM9 : h6.1 (k + 9) = xa_a 12 (F' 9) := (oh6 _ (by omega)).trans hM9
                have hM10 : h6.1 (k + 10) = xa_a 720 (F' 10) := (oh6 _ (by omega)).trans hM10
                have hM11 : h6.1 (k + 11) = xa_a 3 (F' 11) := (oh6 _ (by omega)).trans hM11
                have hM12 : h6.1 (k + 12) = xa_a 360 (F' 12) := (oh6 _ (by omega)).trans hM12
                have hM13 : h6.1 (k + 13) = xa_a 3 (F' 13) := (oh6 _ (by omega)).trans hM13
                have hM14 : h6.1 (k + 14) = xa_a 583200 (F' 14) := (oh6 _ (by omega)).trans hM14
                have hM15 : h6.1 (k + 15) = xa_a 583200 (F' 15) := (oh6 _ (by omega)).trans hM15
                have hM16 : h6.1 (k + 16) = xa_a 4 (F' 16) := (oh6 _ (by omega)).trans hM16
                have hn : h6.2 = h.2 := nh6.trans hn
                have fr : ∀ i, (i < k ∨ k + 17 ≤ i) → h6.1 i = h.1 i := fun i hi => (oh6 i (by omega)).trans (fr i hi)
                refine xa_iincw (pc := 86) (y := 4) [some (xa_r k), some (xa_i 4)] dX10_lay_86 (by decide) rfl rfl rfl rfl ?_
                refine xa_goto (pc := 89) (tgt := 65) dX10_lay_89 (by decide) ?_
                refine xa_iload_n (pc := 65) dX10_lay_65 rfl ?_
                refine xa_bipush (pc := 66) dX10_lay_66 rfl ?_
                refine xa_icmp_ge (pc := 68) (tgt := 92) dX10_lay_68 (by decide) (by decide) (by decide) (fun c_68 => ?_) (fun c_68 => ?_)
                · skip
                  exfalso; omega
                · skip
                  refine xa_aload_n (pc := 71) dX10_lay_71 rfl ?_
                  refine xa_getfield (pc := 72) dX10_lay_72 flRX10_16 (by omega) (by omega) hM0 rfl ?_
                  refine xa_iload_n (pc := 75) dX10_lay_75 rfl ?_
                  refine xa_aload_n (pc := 76) dX10_lay_76 rfl ?_
                  refine xa_getfield (pc := 77) dX10_lay_77 flRX10_16 (by omega) (by omega) hM0 rfl ?_
                  refine xa_bipush (pc := 80) dX10_lay_80 rfl ?_
                  refine xa_iload_n (pc := 82) dX10_lay_82 rfl ?_
                  refine xa_iadd (pc := 83) dX10_lay_83 ?_
                  refine xa_top (y := 13) (by decide) ?_
                  refine xa_ialdw (pc := 84) 13 dX10_lay_84 (by omega) hM3 (by omega) (by omega) rfl ?_
                  refine xa_top (y := F' 3 13) rfl ?_
                  refine xa_iastw (pc := 85) 4 dX10_lay_85 (by omega) (by omega) hM3 (by omega) (by omega) rfl (fun h7 nh7 ch7 oh7 => ?_)
                  have hM3 : h7.1 (k + 3) = xa_a 18 (xa_upf (xa_upf (xa_upf (xa_upf (xa_upf (F' 3) 0 (F' 3 9)) 1 (F' 3 10)) 2 (F' 3 11)) 3 (F' 3 12)) 4 (F' 3 13)) := ch7
                  have hM0 : h7.1 k = xa_o 10 [xa_i (s 0), xa_r (k + 1), xa_r (k + 2), xa_r (k + 3), xa_r (k + 4), xa_r (k + 5), xa_r (k + 6), xa_r (k + 7), xa_r (k + 8), xa_r (k + 9), xa_r (k + 10), xa_r (k + 11), xa_r (k + 12), xa_i (s 13), xa_i (s 14), xa_i x, xa_r (k + 13), xa_i (s 17), xa_i (s 18), xa_i (s 19), xa_i (s 20), xa_r (k + 14), xa_r (k + 15), xa_i (s 23), xa_r (k + 16)] := (oh7 _ (by omega)).trans hM0
                  have hM1 : h7.1 (k + 1) = xa_a 120 (F' 1) := (oh7 _ (by omega)).trans hM1
                  have hM2 : h7.1 (k + 2) = xa_a 2 (xa_upf (F' 2) 0 ((F' 2) 1)) := (oh7 _ (by omega)).trans hM2
                  have hM4 : h7.1 (k + 4) = xa_a 2 (xa_upf (F' 4) 0 ((F' 4) 1)) := (oh7 _ (by omega)).trans hM4
                  have hM5 : h7.1 (k + 5) = xa_a 4 (F' 5) := (oh7 _ (by omega)).trans hM5
                  have hM6 : h7.1 (k + 6) = xa_a 4 (F' 6) := (oh7 _ (by omega)).trans hM6
                  have hM7 : h7.1 (k + 7) = xa_a 2 (F' 7) := (oh7 _ (by omega)).trans hM7
                  have hM8 : h7.1 (k + 8) = xa_a 2 (F' 8) := (oh7 _ (by omega)).trans hM8
                  have hM9 : h7.1 (k + 9) = xa_a 12 (F' 9) := (oh7 _ (by omega)).trans hM9
                  have hM10 : h7.1 (k + 10) = xa_a 720 (F' 10) := (oh7 _ (by omega)).trans hM10
                  have hM11 : h7.1 (k + 11) = xa_a 3 (F' 11) := (oh7 _ (by omega)).trans hM11
                  have hM12 : h7.1 (k + 12) = xa_a 360 (F' 12) := (oh7 _ (by omega)).trans hM12
                  have hM13 : h7.1 (k + 13) = xa_a 3 (F' 13) := (oh7 _ (by omega)).trans hM13
                  have hM14 : h7.1 (k + 14) = xa_a 583200 (F' 14) := (oh7 _ (by omega)).trans hM14
                  have hM15 : h7.1 (k + 15) = xa_a 583200 (F' 15) := (oh7 _ (by omega)).trans hM15
                  have hM16 : h7.1 (k + 16) = xa_a 4 (F' 16) := (oh7 _ (by omega)).trans hM16
                  have hn : h7.2 = h.2 := nh7.trans hn
                  have fr : ∀ i, (i < k ∨ k + 17 ≤ i) → h7.1 i = h.1 i := fun i hi => (oh7 i (by omega)).trans (fr i hi)
                  refine xa_iincw (pc := 86) (y := 5) [some (xa_r k), some (xa_i 5)] dX10_lay_86 (by decide) rfl rfl rfl rfl ?_
                  refine xa_goto (pc := 89) (tgt := 65) dX10_lay_89 (by decide) ?_
                  refine xa_iload_n (pc := 65) dX10_lay_65 rfl ?_
                  refine xa_bipush (pc := 66) dX10_lay_66 rfl ?_
                  refine xa_icmp_ge (pc := 68) (tgt := 92) dX10_lay_68 (by decide) (by decide) (by decide) (fun c_68 => ?_) (fun c_68 => ?_)
                  · skip
                    exfalso; omega
                  · skip
                    refine xa_aload_n (pc := 71) dX10_lay_71 rfl ?_
                    refine xa_getfield (pc := 72) dX10_lay_72 flRX10_16 (by omega) (by omega) hM0 rfl ?_
                    refine xa_iload_n (pc := 75) dX10_lay_75 rfl ?_
                    refine xa_aload_n (pc := 76) dX10_lay_76 rfl ?_
                    refine xa_getfield (pc := 77) dX10_lay_77 flRX10_16 (by omega) (by omega) hM0 rfl ?_
                    refine xa_bipush (pc := 80) dX10_lay_80 rfl ?_
                    refine xa_iload_n (pc := 82) dX10_lay_82 rfl ?_
                    refine xa_iadd (pc := 83) dX10_lay_83 ?_
                    refine xa_top (y := 14) (by decide) ?_
                    refine xa_ialdw (pc := 84) 14 dX10_lay_84 (by omega) hM3 (by omega) (by omega) rfl ?_
                    refine xa_top (y := F' 3 14) rfl ?_
                    refine xa_iastw (pc := 85) 5 dX10_lay_85 (by omega) (by omega) hM3 (by omega) (by omega) rfl (fun h8 nh8 ch8 oh8 => ?_)
                    have hM3 : h8.1 (k + 3) = xa_a 18 (xa_upf (xa_upf (xa_upf (xa_upf (xa_upf (xa_upf (F' 3) 0 (F' 3 9)) 1 (F' 3 10)) 2 (F' 3 11)) 3 (F' 3 12)) 4 (F' 3 13)) 5 (F' 3 14)) := ch8
                    have hM0 : h8.1 k = xa_o 10 [xa_i (s 0), xa_r (k + 1), xa_r (k + 2), xa_r (k + 3), xa_r (k + 4), xa_r (k + 5), xa_r (k + 6), xa_r (k + 7), xa_r (k + 8), xa_r (k + 9), xa_r (k + 10), xa_r (k + 11), xa_r (k + 12), xa_i (s 13), xa_i (s 14), xa_i x, xa_r (k + 13), xa_i (s 17), xa_i (s 18), xa_i (s 19), xa_i (s 20), xa_r (k + 14), xa_r (k + 15), xa_i (s 23), xa_r (k + 16)] := (oh8 _ (by omega)).trans hM0
                    have hM1 : h8.1 (k + 1) = xa_a 120 (F' 1) := (oh8 _ (by omega)).trans hM1
                    have hM2 : h8.1 (k + 2) = xa_a 2 (xa_upf (F' 2) 0 ((F' 2) 1)) := (oh8 _ (by omega)).trans hM2
                    have hM4 : h8.1 (k + 4) = xa_a 2 (xa_upf (F' 4) 0 ((F' 4) 1)) := (oh8 _ (by omega)).trans hM4
                    have hM5 : h8.1 (k + 5) = xa_a 4 (F' 5) := (oh8 _ (by omega)).trans hM5
                    have hM6 : h8.1 (k + 6) = xa_a 4 (F' 6) := (oh8 _ (by omega)).trans hM6
                    have hM7 : h8.1 (k + 7) = xa_a 2 (F' 7) := (oh8 _ (by omega)).trans hM7
                    have hM8 : h8.1 (k + 8) = xa_a 2 (F' 8) := (oh8 _ (by omega)).trans hM8
                    have hM9 : h8.1 (k + 9) = xa_a 12 (F' 9) := (oh8 _ (by omega)).trans hM9
                    have hM10 : h8.1 (k + 10) = xa_a 720 (F' 10) := (oh8 _ (by omega)).trans hM10
                    have hM11 : h8.1 (k + 11) = xa_a 3 (F' 11) := (oh8 _ (by omega)).trans hM11
                    have hM12 : h8.1 (k + 12) = xa_a 360 (F' 12) := (oh8 _ (by omega)).trans hM12
                    have hM13 : h8.1 (k + 13) = xa_a 3 (F' 13) := (oh8 _ (by omega)).trans hM13
                    have hM14 : h8.1 (k + 14) = xa_a 583200 (F' 14) := (oh8 _ (by omega)).trans hM14
                    have hM15 : h8.1 (k + 15) = xa_a 583200 (F' 15) := (oh8 _ (by omega)).trans hM15
                    have hM16 : h8.1 (k + 16) = xa_a 4 (F' 16) := (oh8 _ (by omega)).trans hM16
                    have hn : h8.2 = h.2 := nh8.trans hn
                    have fr : ∀ i, (i < k ∨ k + 17 ≤ i) → h8.1 i = h.1 i := fun i hi => (oh8 i (by omega)).trans (fr i hi)
                    refine xa_iincw (pc := 86) (y := 6) [some (xa_r k), some (xa_i 6)] dX10_lay_86 (by decide) rfl rfl rfl rfl ?_
                    refine xa_goto (pc := 89) (tgt := 65) dX10_lay_89 (by decide) ?_
                    refine xa_iload_n (pc := 65) dX10_lay_65 rfl ?_
                    refine xa_bipush (pc := 66) dX10_lay_66 rfl ?_
                    refine xa_icmp_ge (pc := 68) (tgt := 92) dX10_lay_68 (by decide) (by decide) (by decide) (fun c_68 => ?_) (fun c_68 => ?_)
                    · skip
                      exfalso; omega
                    · skip
                      refine xa_aload_n (pc := 71) dX10_lay_71 rfl ?_
                      refine xa_getfield (pc := 72) dX10_lay_72 flRX10_16 (by omega) (by omega) hM0 rfl ?_
                      refine xa_iload_n (pc := 75) dX10_lay_75 rfl ?_
                      refine xa_aload_n (pc := 76) dX10_lay_76 rfl ?_
                      refine xa_getfield (pc := 77) dX10_lay_77 flRX10_16 (by omega) (by omega) hM0 rfl ?_
                      refine xa_bipush (pc := 80) dX10_lay_80 rfl ?_
                      refine xa_iload_n (pc := 82) dX10_lay_82 rfl ?_
                      refine xa_iadd (pc := 83) dX10_lay_83 ?_
                      refine xa_top (y := 15) (by decide) ?_
                      refine xa_ialdw (pc := 84) 15 dX10_lay_84 (by omega) hM3 (by omega) (by omega) rfl ?_
                      refine xa_top (y := F' 3 15) rfl ?_
                      refine xa_iastw (pc := 85) 6 dX10_lay_85 (by omega) (by omega) hM3 (by omega) (by omega) rfl (fun h9 nh9 ch9 oh9 => ?_)
                      have hM3 : h9.1 (k + 3) = xa_a 18 (xa_upf (xa_upf (xa_upf (xa_upf (xa_upf (xa_upf (xa_upf (F' 3) 0 (F' 3 9)) 1 (F' 3 10)) 2 (F' 3 11)) 3 (F' 3 12)) 4 (F' 3 13)) 5 (F' 3 14)) 6 (F' 3 15)) := ch9
                      have hM0 : h9.1 k = xa_o 10 [xa_i (s 0), xa_r (k + 1), xa_r (k + 2), xa_r (k + 3), xa_r (k + 4), xa_r (k + 5), xa_r (k + 6), xa_r (k + 7), xa_r (k + 8), xa_r (k + 9), xa_r (k + 10), xa_r (k + 11), xa_r (k + 12), xa_i (s 13), xa_i (s 14), xa_i x, xa_r (k + 13), xa_i (s 17), xa_i (s 18), xa_i (s 19), xa_i (s 20), xa_r (k + 14), xa_r (k + 15), xa_i (s 23), xa_r (k + 16)] := (oh9 _ (by omega)).trans hM0
                      have hM1 : h9.1 (k + 1) = xa_a 120 (F' 1) := (oh9 _ (by omega)).trans hM1
                      have hM2 : h9.1 (k + 2) = xa_a 2 (xa_upf (F' 2) 0 ((F' 2) 1)) := (oh9 _ (by omega)).trans hM2
                      have hM4 : h9.1 (k + 4) = xa_a 2 (xa_upf (F' 4) 0 ((F' 4) 1)) := (oh9 _ (by omega)).trans hM4
                      have hM5 : h9.1 (k + 5) = xa_a 4 (F' 5) := (oh9 _ (by omega)).trans hM5
                      have hM6 : h9.1 (k + 6) = xa_a 4 (F' 6) := (oh9 _ (by omega)).trans hM6
                      have hM7 : h9.1 (k + 7) = xa_a 2 (F' 7) := (oh9 _ (by omega)).trans hM7
                      have hM8 : h9.1 (k + 8) = xa_a 2 (F' 8) := (oh9 _ (by omega)).trans hM8
                      have hM9 : h9.1 (k + 9) = xa_a 12 (F' 9) := (oh9 _ (by omega)).trans hM9
                      have hM10 : h9.1 (k + 10) = xa_a 720 (F' 10) := (oh9 _ (by omega)).trans hM10
                      have hM11 : h9.1 (k + 11) = xa_a 3 (F' 11) := (oh9 _ (by omega)).trans hM11
                      have hM12 : h9.1 (k + 12) = xa_a 360 (F' 12) := (oh9 _ (by omega)).trans hM12
                      have hM13 : h9.1 (k + 13) = xa_a 3 (F' 13) := (oh9 _ (by omega)).trans hM13
                      have hM14 : h9.1 (k + 14) = xa_a 583200 (F' 14) := (oh9 _ (by omega)).trans hM14
                      have hM15 : h9.1 (k + 15) = xa_a 583200 (F' 15) := (oh9 _ (by omega)).trans hM15
                      have hM16 : h9.1 (k + 16) = xa_a 4 (F' 16) := (oh9 _ (by omega)).trans hM16
                      have hn : h9.2 = h.2 := nh9.trans hn
                      have fr : ∀ i, (i < k ∨ k + 17 ≤ i) → h9.1 i = h.1 i := fun i hi => (oh9 i (by omega)).trans (fr i hi)
                      refine xa_iincw (pc := 86) (y := 7) [some (xa_r k), some (xa_i 7)] dX10_lay_86 (by decide) rfl rfl rfl rfl ?_
                      refine xa_goto (pc := 89) (tgt := 65) dX10_lay_89 (by decide) ?_
                      refine xa_iload_n (pc := 65) dX10_lay_65 rfl ?_
                      refine xa_bipush (pc := 66) dX10_lay_66 rfl ?_
                      refine xa_icmp_ge (pc := 68) (tgt := 92) dX10_lay_68 (by decide) (by decide) (by decide) (fun c_68 => ?_) (fun c_68 => ?_)
                      · skip
                        exfalso; omega
                      · skip
                        refine xa_aload_n (pc := 71) dX10_lay_71 rfl ?_
                        refine xa_getfield (pc := 72) dX10_lay_72 flRX10_16 (by omega) (by omega) hM0 rfl ?_
                        refine xa_iload_n (pc := 75) dX10_lay_75 rfl ?_
                        refine xa_aload_n (pc := 76) dX10_lay_76 rfl ?_
                        refine xa_getfield (pc := 77) dX10_lay_77 flRX10_16 (by omega) (by omega) hM0 rfl ?_
                        refine xa_bipush (pc := 80) dX10_lay_80 rfl ?_
                        refine xa_iload_n (pc := 82) dX10_lay_82 rfl ?_
                        refine xa_iadd (pc := 83) dX10_lay_83 ?_
                        refine xa_top (y := 16) (by decide) ?_
                        refine xa_ialdw (pc := 84) 16 dX10_lay_84 (by omega) hM3 (by omega) (by omega) rfl ?_
                        refine xa_top (y := F' 3 16) rfl ?_
                        refine xa_iastw (pc := 85) 7 dX10_lay_85 (by omega) (by omega) hM3 (by omega) (by omega) rfl (fun h10 nh10 ch10 oh10 => ?_)
                        have hM3 : h10.1 (k + 3) = xa_a 18 (xa_upf (xa_upf (xa_upf (xa_upf (xa_upf (xa_upf (xa_upf (xa_upf (F' 3) 0 (F' 3 9)) 1 (F' 3 10)) 2 (F' 3 11)) 3 (F' 3 12)) 4 (F' 3 13)) 5 (F' 3 14)) 6 (F' 3 15)) 7 (F' 3 16)) := ch10
                        have hM0 : h10.1 k = xa_o 10 [xa_i (s 0), xa_r (k + 1), xa_r (k + 2), xa_r (k + 3), xa_r (k + 4), xa_r (k + 5), xa_r (k + 6), xa_r (k + 7), xa_r (k + 8), xa_r (k + 9), xa_r (k + 10), xa_r (k + 11), xa_r (k + 12), xa_i (s 13), xa_i (s 14), xa_i x, xa_r (k + 13), xa_i (s 17), xa_i (s 18), xa_i (s 19), xa_i (s 20), xa_r (k + 14), xa_r (k + 15), xa_i (s 23), xa_r (k + 16)] := (oh10 _ (by omega)).trans hM0
                        have hM1 : h10.1 (k + 1) = xa_a 120 (F' 1) := (oh10 _ (by omega)).trans hM1
                        have hM2 : h10.1 (k + 2) = xa_a 2 (xa_upf (F' 2) 0 ((F' 2) 1)) := (oh10 _ (by omega)).trans hM2
                        have hM4 : h10.1 (k + 4) = xa_a 2 (xa_upf (F' 4) 0 ((F' 4) 1)) := (oh10 _ (by omega)).trans hM4
                        have hM5 : h10.1 (k + 5) = xa_a 4 (F' 5) := (oh10 _ (by omega)).trans hM5
                        have hM6 : h10.1 (k + 6) = xa_a 4 (F' 6) := (oh10 _ (by omega)).trans hM6
                        have hM7 : h10.1 (k + 7) = xa_a 2 (F' 7) := (oh10 _ (by omega)).trans hM7
                        have hM8 : h10.1 (k + 8) = xa_a 2 (F' 8) := (oh10 _ (by omega)).trans hM8
                        have hM9 : h10.1 (k + 9) = xa_a 12 (F' 9) := (oh10 _ (by omega)).trans hM9
                        have hM10 : h10.1 (k + 10) = xa_a 720 (F' 10) := (oh10 _ (by omega)).trans hM10
                        have hM11 : h10.1 (k + 11) = xa_a 3 (F' 11) := (oh10 _ (by omega)).trans hM11
                        have hM12 : h10.1 (k + 12) = xa_a 360 (F' 12) := (oh10 _ (by omega)).trans hM12
                        have hM13 : h10.1 (k + 13) = xa_a 3 (F' 13) := (oh10 _ (by omega)).trans hM13
                        have hM14 : h10.1 (k + 14) = xa_a 583200 (F' 14) := (oh10 _ (by omega)).trans hM14
                        have hM15 : h10.1 (k + 15) = xa_a 583200 (F' 15) := (oh10 _ (by omega)).trans hM15
                        have hM16 : h10.1 (k + 16) = xa_a 4 (F' 16) := (oh10 _ (by omega)).trans hM16
                        have hn : h10.2 = h.2 := nh10.trans hn
                        have fr : ∀ i, (i < k ∨ k + 17 ≤ i) → h10.1 i = h.1 i := fun i hi => (oh10 i (by omega)).trans (fr i hi)
                        refine xa_iincw (pc := 86) (y := 8) [some (xa_r k), some (xa_i 8)] dX10_lay_86 (by decide) rfl rfl rfl rfl ?_
                        refine xa_goto (pc := 89) (tgt := 65) dX10_lay_89 (by decide) ?_
                        refine xa_iload_n (pc := 65) dX10_lay_65 rfl ?_
                        refine xa_bipush (pc := 66) dX10_lay_66 rfl ?_
                        refine xa_icmp_ge (pc := 68) (tgt := 92) dX10_lay_68 (by decide) (by decide) (by decide) (fun c_68 => ?_) (fun c_68 => ?_)
                        · skip
                          exfalso; omega
                        · skip
                          refine xa_aload_n (pc := 71) dX10_lay_71 rfl ?_
                          refine xa_getfield (pc := 72) dX10_lay_72 flRX10_16 (by omega) (by omega) hM0 rfl ?_
                          refine xa_iload_n (pc := 75) dX10_lay_75 rfl ?_
                          refine xa_aload_n (pc := 76) dX10_lay_76 rfl ?_
                          refine xa_getfield (pc := 77) dX10_lay_77 flRX10_16 (by omega) (by omega) hM0 rfl ?_
                          refine xa_bipush (pc := 80) dX10_lay_80 rfl ?_
                          refine xa_iload_n (pc := 82) dX10_lay_82 rfl ?_
                          refine xa_iadd (pc := 83) dX10_lay_83 ?_
                          refine xa_top (y := 17) (by decide) ?_
                          refine xa_ialdw (pc := 84) 17 dX10_lay_84 (by omega) hM3 (by omega) (by omega) rfl ?_
                          refine xa_top (y := F' 3 17) rfl ?_
                          refine xa_iastw (pc := 85) 8 dX10_lay_85 (by omega) (by omega) hM3 (by omega) (by omega) rfl (fun h11 nh11 ch11 oh11 => ?_)
                          have hM3 : h11.1 (k + 3) = xa_a 18 (xa_upf (xa_upf (xa_upf (xa_upf (xa_upf (xa_upf (xa_upf (xa_upf (xa_upf (F' 3) 0 (F' 3 9)) 1 (F' 3 10)) 2 (F' 3 11)) 3 (F' 3 12)) 4 (F' 3 13)) 5 (F' 3 14)) 6 (F' 3 15)) 7 (F' 3 16)) 8 (F' 3 17)) := ch11
                          have hM0 : h11.1 k = xa_o 10 [xa_i (s 0), xa_r (k + 1), xa_r (k + 2), xa_r (k + 3), xa_r (k + 4), xa_r (k + 5), xa_r (k + 6), xa_r (k + 7), xa_r (k + 8), xa_r (k + 9), xa_r (k + 10), xa_r (k + 11), xa_r (k + 12), xa_i (s 13), xa_i (s 14), xa_i x, xa_r (k + 13), xa_i (s 17), xa_i (s 18), xa_i (s 19), xa_i (s 20), xa_r (k + 14), xa_r (k + 15), xa_i (s 23), xa_r (k + 16)] := (oh11 _ (by omega)).trans hM0
                          have hM1 : h11.1 (k + 1) = xa_a 120 (F' 1) := (oh11 _ (by omega)).trans hM1
                          have hM2 : h11.1 (k + 2) = xa_a 2 (xa_upf (F' 2) 0 ((F' 2) 1)) := (oh11 _ (by omega)).trans hM2
                          have hM4 : h11.1 (k + 4) = xa_a 2 (xa_upf (F' 4) 0 ((F' 4) 1)) := (oh11 _ (by omega)).trans hM4
                          have hM5 : h11.1 (k + 5) = xa_a 4 (F' 5) := (oh11 _ (by omega)).trans hM5
                          have hM6 : h11.1 (k + 6) = xa_a 4 (F' 6) := (oh11 _ (by omega)).trans hM6
                          have hM7 : h11.1 (k + 7) = xa_a 2 (F' 7) := (oh11 _ (by omega)).trans hM7
                          have hM8 : h11.1 (k + 8) = xa_a 2 (F' 8) := (oh11 _ (by omega)).trans hM8
                          have hM9 : h11.1 (k + 9) = xa_a 12 (F' 9) := (oh11 _ (by omega)).trans hM9
                          have hM10 : h11.1 (k + 10) = xa_a 720 (F' 10) := (oh11 _ (by omega)).trans hM10
                          have hM11 : h11.1 (k + 11) = xa_a 3 (F' 11) := (oh11 _ (by omega)).trans hM11
                          have hM12 : h11.1 (k + 12) = xa_a 360 (F' 12) := (oh11 _ (by omega)).trans hM12
                          have hM13 : h11.1 (k + 13) = xa_a 3 (F' 13) := (oh11 _ (by omega)).trans hM13
                          have hM14 : h11.1 (k + 14) = xa_a 583200 (F' 14) := (oh11 _ (by omega)).trans hM14
                          have hM15 : h11.1 (k + 15) = xa_a 583200 (F' 15) := (oh11 _ (by omega)).trans hM15
                          have hM16 : h11.1 (k + 16) = xa_a 4 (F' 16) := (oh11 _ (by omega)).trans hM16
                          have hn : h11.2 = h.2 := nh11.trans hn
                          have fr : ∀ i, (i < k ∨ k + 17 ≤ i) → h11.1 i = h.1 i := fun i hi => (oh11 i (by omega)).trans (fr i hi)
                          refine xa_iincw (pc := 86) (y := 9) [some (xa_r k), some (xa_i 9)] dX10_lay_86 (by decide) rfl rfl rfl rfl ?_
                          refine xa_goto (pc := 89) (tgt := 65) dX10_lay_89 (by decide) ?_
                          refine xa_iload_n (pc := 65) dX10_lay_65 rfl ?_
                          refine xa_bipush (pc := 66) dX10_lay_66 rfl ?_
                          refine xa_icmp_ge (pc := 68) (tgt := 92) dX10_lay_68 (by decide) (by decide) (by decide) (fun c_68 => ?_) (fun c_68 => ?_)
                          · skip
                            refine xa_iconst (pc := 92) dX10_lay_92 ?_
                            refine xa_istoren (pc := 93) [some (xa_r k), some (xa_i 0)] dX10_lay_93 (by decide) (Nat.le_of_ble_eq_true rfl) rfl rfl ?_
                            refine xa_iload_n (pc := 94) dX10_lay_94 rfl ?_
                            refine xa_iconst (pc := 95) dX10_lay_95 ?_
                            refine xa_icmp_ge (pc := 96) (tgt := 133) dX10_lay_96 (by decide) (by decide) (by decide) (fun c_96 => ?_) (fun c_96 => ?_)
                            · skip
                              exfalso; omega
                            · skip
                              refine xa_aload_n (pc := 99) dX10_lay_99 rfl ?_
                              refine xa_getfield (pc := 100) dX10_lay_100 flRX10_22 (by omega) (by omega) hM0 rfl ?_
                              refine xa_iload_n (pc := 103) dX10_lay_103 rfl ?_
                              refine xa_aload_n (pc := 104) dX10_lay_104 rfl ?_
                              refine xa_getfield (pc := 105) dX10_lay_105 flRX10_22 (by omega) (by omega) hM0 rfl ?_
                              refine xa_iconst (pc := 108) dX10_lay_108 ?_
                              refine xa_iload_n (pc := 109) dX10_lay_109 rfl ?_
                              refine xa_iadd (pc := 110) dX10_lay_110 ?_
                              refine xa_top (y := 2) (by decide) ?_
                              refine xa_ialdw (pc := 111) 2 dX10_lay_111 (by omega) hM5 (by omega) (by omega) rfl ?_
                              refine xa_top (y := F' 5 2) rfl ?_
                              refine xa_iastw (pc := 112) 0 dX10_lay_112 (by omega) (by omega) hM5 (by omega) (by omega) rfl (fun h12 nh12 ch12 oh12 => ?_)
                              have hM5 : h12.1 (k + 5) = xa_a 4 (xa_upf (F' 5) 0 (F' 5 2)) := ch12
                              have hM0 : h12.1 k = xa_o 10 [xa_i (s 0), xa_r (k + 1), xa_r (k + 2), xa_r (k + 3), xa_r (k + 4), xa_r (k + 5), xa_r (k + 6), xa_r (k + 7), xa_r (k + 8), xa_r (k + 9), xa_r (k + 10), xa_r (k + 11), xa_r (k + 12), xa_i (s 13), xa_i (s 14), xa_i x, xa_r (k + 13), xa_i (s 17), xa_i (s 18), xa_i (s 19), xa_i (s 20), xa_r (k + 14), xa_r (k + 15), xa_i (s 23), xa_r (k + 16)] := (oh12 _ (by omega)).trans hM0
                              have hM1 : h12.1 (k + 1) = xa_a 120 (F' 1) := (oh12 _ (by omega)).trans hM1
                              have hM2 : h12.1 (k + 2) = xa_a 2 (xa_upf (F' 2) 0 ((F' 2) 1)) := (oh12 _ (by omega)).trans hM2
                              have hM3 : h12.1 (k + 3) = xa_a 18 (xa_upf (xa_upf (xa_upf (xa_upf (xa_upf (xa_upf (xa_upf (xa_upf (xa_upf (F' 3) 0 (F' 3 9)) 1 (F' 3 10)) 2 (F' 3 11)) 3 (F' 3 12)) 4 (F' 3 13)) 5 (F' 3 14)) 6 (F' 3 15)) 7 (F' 3 16)) 8 (F' 3 17)) := (oh12 _ (by omega)).trans hM3
                              have hM4 : h12.1 (k + 4) = xa_a 2 (xa_upf (F' 4) 0 ((F' 4) 1)) := (oh12 _ (by omega)).trans hM4
                              have hM6 : h12.1 (k + 6) = xa_a 4 (F' 6) := (oh12 _ (by omega)).trans hM6
                              have hM7 : h12.1 (k + 7) = xa_a 2 (F' 7) := (oh12 _ (by omega)).trans hM7
                              have hM8 : h12.1 (k + 8) = xa_a 2 (F' 8) := (oh12 _ (by omega)).trans hM8
                              have hM9 : h12.1 (k + 9) = xa_a 12 (F' 9) := (oh12 _ (by omega)).trans hM9
                              have hM10 : h12.1 (k + 10) = xa_a 720 (F' 10) := (oh12 _ (by omega)).trans hM10
                              have hM11 : h12.1 (k + 11) = xa_a 3 (F' 11) := (oh12 _ (by omega)).trans hM11
                              have hM12 : h12.1 (k + 12) = xa_a 360 (F' 12) := (oh12 _ (by omega)).trans hM12
                              have hM13 : h12.1 (k + 13) = xa_a 3 (F' 13) := (oh12 _ (by omega)).trans hM13
                              have hM14 : h12.1 (k + 14) = xa_a 583200 (F' 14) := (oh12 _ (by omega)).trans hM14
                              have hM15 : h12.1 (k + 15) = xa_a 583200 (F' 15) := (oh12 _ (by omega)).trans hM15
                              have hM16 : h12.1 (k + 16) = xa_a 4 (F' 16) := (oh12 _ (by omega)).trans hM16
                              have hn : h12.2 = h.2 := nh12.trans hn
                              have fr : ∀ i, (i < k ∨ k + 17 ≤ i) → h12.1 i = h.1 i := fun i hi => (oh12 i (by omega)).trans (fr i hi)
                              refine xa_aload_n (pc := 113) dX10_lay_113 rfl ?_
                              refine xa_getfield (pc := 114) dX10_lay_114 flRX10_25 (by omega) (by omega) hM0 rfl ?_
                              refine xa_iload_n (pc := 117) dX10_lay_117 rfl ?_
                              refine xa_aload_n (pc := 118) dX10_lay_118 rfl ?_
                              refine xa_getfield (pc := 119) dX10_lay_119 flRX10_25 (by omega) (by omega) hM0 rfl ?_
                              refine xa_iconst (pc := 122) dX10_lay_122 ?_
                              refine xa_iload_n (pc := 123) dX10_lay_123 rfl ?_
                              refine xa_iadd (pc := 124) dX10_lay_124 ?_
                              refine xa_top (y := 2) (by decide) ?_
                              refine xa_ialdw (pc := 125) 2 dX10_lay_125 (by omega) hM6 (by omega) (by omega) rfl ?_
                              refine xa_top (y := F' 6 2) rfl ?_
                              refine xa_iastw (pc := 126) 0 dX10_lay_126 (by omega) (by omega) hM6 (by omega) (by omega) rfl (fun h13 nh13 ch13 oh13 => ?_)
                              have hM6 : h13.1 (k + 6) = xa_a 4 (xa_upf (F' 6) 0 (F' 6 2)) := ch13
                              have hM0 : h13.1 k = xa_o 10 [xa_i (s 0), xa_r (k + 1), xa_r (k + 2), xa_r (k + 3), xa_r (k + 4), xa_r (k + 5), xa_r (k + 6), xa_r (k + 7), xa_r (k + 8), xa_r (k + 9), xa_r (k + 10), xa_r (k + 11), xa_r (k + 12), xa_i (s 13), xa_i (s 14), xa_i x, xa_r (k + 13), xa_i (s 17), xa_i (s 18), xa_i (s 19), xa_i (s 20), xa_r (k + 14), xa_r (k + 15), xa_i (s 23), xa_r (k + 16)] := (oh13 _ (by omega)).trans hM0
                              have hM1 : h13.1 (k + 1) = xa_a 120 (F' 1) := (oh13 _ (by omega)).trans hM1
                              have hM2 : h13.1 (k + 2) = xa_a 2 (xa_upf (F' 2) 0 ((F' 2) 1)) := (oh13 _ (by omega)).trans hM2
                              have hM3 : h13.1 (k + 3) = xa_a 18 (xa_upf (xa_upf (xa_upf (xa_upf (xa_upf (xa_upf (xa_upf (xa_upf (xa_upf (F' 3) 0 (F' 3 9)) 1 (F' 3 10)) 2 (F' 3 11)) 3 (F' 3 12)) 4 (F' 3 13)) 5 (F' 3 14)) 6 (F' 3 15)) 7 (F' 3 16)) 8 (F' 3 17)) := (oh13 _ (by omega)).trans hM3
                              have hM4 : h13.1 (k + 4) = xa_a 2 (xa_upf (F' 4) 0 ((F' 4) 1)) := (oh13 _ (by omega)).trans hM4
                              have hM5 : h13.1 (k + 5) = xa_a 4 (xa_upf (F' 5) 0 (F' 5 2)) := (oh13 _ (by omega)).trans hM5
                              have hM7 : h13.1 (k + 7) = xa_a 2 (F' 7) := (oh13 _ (by omega)).trans hM7
                              have hM8 : h13.1 (k + 8) = xa_a 2 (F' 8) := (oh13 _ (by omega)).trans hM8
                              have hM9 : h13.1 (k + 9) = xa_a 12 (F' 9) := (oh13 _ (by omega)).trans hM9
                              have hM10 : h13.1 (k + 10) = xa_a 720 (F' 10) := (oh13 _ (by omega)).trans hM10
                              have hM11 : h13.1 (k + 11) = xa_a 3 (F' 11) := (oh13 _ (by omega)).trans hM11
                              have hM12 : h13.1 (k + 12) = xa_a 360 (F' 12) := (oh13 _ (by omega)).trans hM12
                              have hM13 : h13.1 (k + 13) = xa_a 3 (F' 13) := (oh13 _ (by omega)).trans hM13
                              have hM14 : h13.1 (k + 14) = xa_a 583200 (F' 14) := (oh13 _ (by omega)).trans hM14
                              have hM15 : h13.1 (k + 15) = xa_a 583200 (F' 15) := (oh13 _ (by omega)).trans hM15
                              have hM16 : h13.1 (k + 16) = xa_a 4 (F' 16) := (oh13 _ (by omega)).trans hM16
                              have hn : h13.2 = h.2 := nh13.trans hn
                              have fr : ∀ i, (i < k ∨ k + 17 ≤ i) → h13.1 i = h.1 i := fun i hi => (oh13 i (by omega)).trans (fr i hi)
                              refine xa_iincw (pc := 127) (y := 1) [some (xa_r k), some (xa_i 1)] dX10_lay_127 (by decide) rfl rfl rfl rfl ?_
                              refine xa_goto (pc := 130) (tgt := 94) dX10_lay_130 (by decide) ?_
                              refine xa_iload_n (pc := 94) dX10_lay_94 rfl ?_
                              refine xa_iconst (pc := 95) dX10_lay_95 ?_
                              refine xa_icmp_ge (pc := 96) (tgt := 133) dX10_lay_96 (by decide) (by decide) (by decide) (fun c_96 => ?_) (fun c_96 => ?_)
                              · skip
                                exfalso; omega
                              · skip
                                refine xa_aload_n (pc := 99) dX10_lay_99 rfl ?_
                                refine xa_getfield (pc := 100) dX10_lay_100 flRX10_22 (by omega) (by omega) hM0 rfl ?_
                                refine xa_iload_n (pc := 103) dX10_lay_103 rfl ?_
                                refine xa_aload_n (pc := 104) dX10_lay_104 rfl ?_
                                refine xa_getfield (pc := 105) dX10_lay_105 flRX10_22 (by omega) (by omega) hM0 rfl ?_
                                refine xa_iconst (pc := 108) dX10_lay_108 ?_
                                refine xa_iload_n (pc := 109) dX10_lay_109 rfl ?_
                                refine xa_iadd (pc := 110) dX10_lay_110 ?_
                                refine xa_top (y := 3) (by decide) ?_
                                refine xa_ialdw (pc := 111) 3 dX10_lay_111 (by omega) hM5 (by omega) (by omega) rfl ?_
                                refine xa_top (y := F' 5 3) rfl ?_
                                refine xa_iastw (pc := 112) 1 dX10_lay_112 (by omega) (by omega) hM5 (by omega) (by omega) rfl (fun h14 nh14 ch14 oh14 => ?_)
                                have hM5 : h14.1 (k + 5) = xa_a 4 (xa_upf (xa_upf (F' 5) 0 (F' 5 2)) 1 (F' 5 3)) := ch14
                                have hM0 : h14.1 k = xa_o 10 [xa_i (s 0), xa_r (k + 1), xa_r (k + 2), xa_r (k + 3), xa_r (k + 4), xa_r (k + 5), xa_r (k + 6), xa_r (k + 7), xa_r (k + 8), xa_r (k + 9), xa_r (k + 10), xa_r (k + 11), xa_r (k + 12), xa_i (s 13), xa_i (s 14), xa_i x, xa_r (k + 13), xa_i (s 17), xa_i (s 18), xa_i (s 19), xa_i (s 20), xa_r (k + 14), xa_r (k + 15), xa_i (s 23), xa_r (k + 16)] := (oh14 _ (by omega)).trans hM0
                                have hM1 : h14.1 (k + 1) = xa_a 120 (F' 1) := (oh14 _ (by omega)).trans hM1
                                have hM2 : h14.1 (k + 2) = xa_a 2 (xa_upf (F' 2) 0 ((F' 2) 1)) := (oh14 _ (by omega)).trans hM2
                                have hM3 : h14.1 (k + 3) = xa_a 18 (xa_upf (xa_upf (xa_upf (xa_upf (xa_upf (xa_upf (xa_upf (xa_upf (xa_upf (F' 3) 0 (F' 3 9)) 1 (F' 3 10)) 2 (F' 3 11)) 3 (F' 3 12)) 4 (F' 3 13)) 5 (F' 3 14)) 6 (F' 3 15)) 7 (F' 3 16)) 8 (F' 3 17)) := (oh14 _ (by omega)).trans hM3
                                have hM4 : h14.1 (k + 4) = xa_a 2 (xa_upf (F' 4) 0 ((F' 4) 1)) := (oh14 _ (by omega)).trans hM4
                                have hM6 : h14.1 (k + 6) = xa_a 4 (xa_upf (F' 6) 0 (F' 6 2)) := (oh14 _ (by omega)).trans hM6
                                have hM7 : h14.1 (k + 7) = xa_a 2 (F' 7) := (oh14 _ (by omega)).trans hM7
                                have hM8 : h14.1 (k + 8) = xa_a 2 (F' 8) := (oh14 _ (by omega)).trans hM8
                                have hM9 : h14.1 (k + 9) = xa_a 12 (F' 9) := (oh14 _ (by omega)).trans hM9
                                have hM10 : h14.1 (k + 10) = xa_a 720 (F' 10) := (oh14 _ (by omega)).trans hM10
                                have hM11 : h14.1 (k + 11) = xa_a 3 (F' 11) := (oh14 _ (by omega)).trans hM11
                                have hM12 : h14.1 (k + 12) = xa_a 360 (F' 12) := (oh14 _ (by omega)).trans hM12
                                have hM13 : h14.1 (k + 13) = xa_a 3 (F' 13) := (oh14 _ (by omega)).trans hM13
                                have hM14 : h14.1 (k + 14) = xa_a 583200 (F' 14) := (oh14 _ (by omega)).trans hM14
                                have hM15 : h14.1 (k + 15) = xa_a 583200 (F' 15) := (oh14 _ (by omega)).trans hM15
                                have hM16 : h14.1 (k + 16) = xa_a 4 (F' 16) := (oh14 _ (by omega)).trans hM16
                                have hn : h14.2 = h.2 := nh14.trans hn
                                have fr : ∀ i, (i < k ∨ k + 17 ≤ i) → h14.1 i = h.1 i := fun i hi => (oh14 i (by omega)).trans (fr i hi)
                                refine xa_aload_n (pc := 113) dX10_lay_113 rfl ?_
                                refine xa_getfield (pc := 114) dX10_lay_114 flRX10_25 (by omega) (by omega) hM0 rfl ?_
                                refine xa_iload_n (pc := 117) dX10_lay_117 rfl ?_
                                refine xa_aload_n (pc := 118) dX10_lay_118 rfl ?_
                                refine xa_getfield (pc := 119) dX10_lay_119 flRX10_25 (by omega) (by omega) hM0 rfl ?_
                                refine xa_iconst (pc := 122) dX10_lay_122 ?_
                                refine xa_iload_n (pc := 123) dX10_lay_123 rfl ?_
                                refine xa_iadd (pc := 124) dX10_lay_124 ?_
                                refine xa_top (y := 3) (by decide) ?_
                                refine xa_ialdw (pc := 125) 3 dX10_lay_125 (by omega) hM6 (by omega) (by omega) rfl ?_
                                refine xa_top (y := F' 6 3) rfl ?_
                                refine xa_iastw (pc := 126) 1 dX10_lay_126 (by omega) (by omega) hM6 (by omega) (by omega) rfl (fun h15 nh15 ch15 oh15 => ?_)
                                have hM6 : h15.1 (k + 6) = xa_a 4 (xa_upf (xa_upf (F' 6) 0 (F' 6 2)) 1 (F' 6 3)) := ch15
                                have hM0 : h15.1 k = xa_o 10 [xa_i (s 0), xa_r (k + 1), xa_r (k + 2), xa_r (k + 3), xa_r (k + 4), xa_r (k + 5), xa_r (k + 6), xa_r (k + 7), xa_r (k + 8), xa_r (k + 9), xa_r (k + 10), xa_r (k + 11), xa_r (k + 12), xa_i (s 13), xa_i (s 14), xa_i x, xa_r (k + 13), xa_i (s 17), xa_i (s 18), xa_i (s 19), xa_i (s 20), xa_r (k + 14), xa_r (k + 15), xa_i (s 23), xa_r (k + 16)] := (oh15 _ (by omega)).trans hM0
                                have hM1 : h15.1 (k + 1) = xa_a 120 (F' 1) := (oh15 _ (by omega)).trans hM1
                                have hM2 : h15.1 (k + 2) = xa_a 2 (xa_upf (F' 2) 0 ((F' 2) 1)) := (oh15 _ (by omega)).trans hM2
                                have hM3 : h15.1 (k + 3) = xa_a 18 (xa_upf (xa_upf (xa_upf (xa_upf (xa_upf (xa_upf (xa_upf (xa_upf (xa_upf (F' 3) 0 (F' 3 9)) 1 (F' 3 10)) 2 (F' 3 11)) 3 (F' 3 12)) 4 (F' 3 13)) 5 (F' 3 14)) 6 (F' 3 15)) 7 (F' 3 16)) 8 (F' 3 17)) := (oh15 _ (by omega)).trans hM3
                                have hM4 : h15.1 (k + 4) = xa_a 2 (xa_upf (F' 4) 0 ((F' 4) 1)) := (oh15 _ (by omega)).trans hM4
                                have hM5 : h15.1 (k + 5) = xa_a 4 (xa_upf (xa_upf (F' 5) 0 (F' 5 2)) 1 (F' 5 3)) := (oh15 _ (by omega)).trans hM5
                                have hM7 : h15.1 (k + 7) = xa_a 2 (F' 7) := (oh15 _ (by omega)).trans hM7
                                have hM8 : h15.1 (k + 8) = xa_a 2 (F' 8) := (oh15 _ (by omega)).trans hM8
                                have hM9 : h15.1 (k + 9) = xa_a 12 (F' 9) := (oh15 _ (by omega)).trans hM9
                                have hM10 : h15.1 (k + 10) = xa_a 720 (F' 10) := (oh15 _ (by omega)).trans hM10
                                have hM11 : h15.1 (k + 11) = xa_a 3 (F' 11) := (oh15 _ (by omega)).trans hM11
                                have hM12 : h15.1 (k + 12) = xa_a 360 (F' 12) := (oh15 _ (by omega)).trans hM12
                                have hM13 : h15.1 (k + 13) = xa_a 3 (F' 13) := (oh15 _ (by omega)).trans hM13
                                have hM14 : h15.1 (k + 14) = xa_a 583200 (F' 14) := (oh15 _ (by omega)).trans hM14
                                have hM15 : h15.1 (k + 15) = xa_a 583200 (F' 15) := (oh15 _ (by omega)).trans hM15
                                have hM16 : h15.1 (k + 16) = xa_a 4 (F' 16) := (oh15 _ (by omega)).trans hM16
                                have hn : h15.2 = h.2 := nh15.trans hn
                                have fr : ∀ i, (i < k ∨ k + 17 ≤ i) → h15.1 i = h.1 i := fun i hi => (oh15 i (by omega)).trans (fr i hi)
                                refine xa_iincw (pc := 127) (y := 2) [some (xa_r k), some (xa_i 2)] dX10_lay_127 (by decide) rfl rfl rfl rfl ?_
                                refine xa_goto (pc := 130) (tgt := 94) dX10_lay_130 (by decide) ?_
                                refine xa_iload_n (pc := 94) dX10_lay_94 rfl ?_
                                refine xa_iconst (pc := 95) dX10_lay_95 ?_
                                refine xa_icmp_ge (pc := 96) (tgt := 133) dX10_lay_96 (by decide) (by decide) (by decide) (fun c_96 => ?_) (fun c_96 => ?_)
                                · skip
                                  refine xa_aload_n (pc := 133) dX10_lay_133 rfl ?_
                                  refine xa_getfield (pc := 134) dX10_lay_134 flRX10_28 (by omega) (by omega) hM0 rfl ?_
                                  refine xa_iconst (pc := 137) dX10_lay_137 ?_
                                  refine xa_aload_n (pc := 138) dX10_lay_138 rfl ?_
                                  refine xa_getfield (pc := 139) dX10_lay_139 flRX10_28 (by omega) (by omega) hM0 rfl ?_
                                  refine xa_iconst (pc := 142) dX10_lay_142 ?_
                                  refine xa_ialdw (pc := 143) 1 dX10_lay_143 (by omega) hM7 (by omega) (by omega) rfl ?_
                                  refine xa_iastw (pc := 144) 0 dX10_lay_144 (by omega) (by omega) hM7 (by omega) (by omega) rfl (fun h16 nh16 ch16 oh16 => ?_)
                                  have hM7 : h16.1 (k + 7) = xa_a 2 (xa_upf (F' 7) 0 ((F' 7) 1)) := ch16
                                  have hM0 : h16.1 k = xa_o 10 [xa_i (s 0), xa_r (k + 1), xa_r (k + 2), xa_r (k + 3), xa_r (k + 4), xa_r (k + 5), xa_r (k + 6), xa_r (k + 7), xa_r (k + 8), xa_r (k + 9), xa_r (k + 10), xa_r (k + 11), xa_r (k + 12), xa_i (s 13), xa_i (s 14), xa_i x, xa_r (k + 13), xa_i (s 17), xa_i (s 18), xa_i (s 19), xa_i (s 20), xa_r (k + 14), xa_r (k + 15), xa_i (s 23), xa_r (k + 16)] := (oh16 _ (by omega)).trans hM0
                                  have hM1 : h16.1 (k + 1) = xa_a 120 (F' 1) := (oh16 _ (by omega)).trans hM1
                                  have hM2 : h16.1 (k + 2) = xa_a 2 (xa_upf (F' 2) 0 ((F' 2) 1)) := (oh16 _ (by omega)).trans hM2
                                  have hM3 : h16.1 (k + 3) = xa_a 18 (xa_upf (xa_upf (xa_upf (xa_upf (xa_upf (xa_upf (xa_upf (xa_upf (xa_upf (F' 3) 0 (F' 3 9)) 1 (F' 3 10)) 2 (F' 3 11)) 3 (F' 3 12)) 4 (F' 3 13)) 5 (F' 3 14)) 6 (F' 3 15)) 7 (F' 3 16)) 8 (F' 3 17)) := (oh16 _ (by omega)).trans hM3
                                  have hM4 : h16.1 (k + 4) = xa_a 2 (xa_upf (F' 4) 0 ((F' 4) 1)) := (oh16 _ (by omega)).trans hM4
                                  have hM5 : h16.1 (k + 5) = xa_a 4 (xa_upf (xa_upf (F' 5) 0 (F' 5 2)) 1 (F' 5 3)) := (oh16 _ (by omega)).trans hM5
                                  have hM6 : h16.1 (k + 6) = xa_a 4 (xa_upf (xa_upf (F' 6) 0 (F' 6 2)) 1 (F' 6 3)) := (oh16 _ (by omega)).trans hM6
                                  have hM8 : h16.1 (k + 8) = xa_a 2 (F' 8) := (oh16 _ (by omega)).trans hM8
                                  have hM9 : h16.1 (k + 9) = xa_a 12 (F' 9) := (oh16 _ (by omega)).trans hM9
                                  have hM10 : h16.1 (k + 10) = xa_a 720 (F' 10) := (oh16 _ (by omega)).trans hM10
                                  have hM11 : h16.1 (k + 11) = xa_a 3 (F' 11) := (oh16 _ (by omega)).trans hM11
                                  have hM12 : h16.1 (k + 12) = xa_a 360 (F' 12) := (oh16 _ (by omega)).trans hM12
                                  have hM13 : h16.1 (k + 13) = xa_a 3 (F' 13) := (oh16 _ (by omega)).trans hM13
                                  have hM14 : h16.1 (k + 14) = xa_a 583200 (F' 14) := (oh16 _ (by omega)).trans hM14
                                  have hM15 : h16.1 (k + 15) = xa_a 583200 (F' 15) := (oh16 _ (by omega)).trans hM15
                                  have hM16 : h16.1 (k + 16) = xa_a 4 (F' 16) := (oh16 _ (by omega)).trans hM16
                                  have hn : h16.2 = h.2 := nh16.trans hn
                                  have fr : ∀ i, (i < k ∨ k + 17 ≤ i) → h16.1 i = h.1 i := fun i hi => (oh16 i (by omega)).trans (fr i hi)
                                  refine xa_aload_n (pc := 145) dX10_lay_145 rfl ?_
                                  refine xa_getfield (pc := 146) dX10_lay_146 flRX10_31 (by omega) (by omega) hM0 rfl ?_
                                  refine xa_iconst (pc := 149) dX10_lay_149 ?_
                                  refine xa_aload_n (pc := 150) dX10_lay_150 rfl ?_
                                  refine xa_getfield (pc := 151) dX10_lay_151 flRX10_31 (by omega) (by omega) hM0 rfl ?_
                                  refine xa_iconst (pc := 154) dX10_lay_154 ?_
                                  refine xa_ialdw (pc := 155) 1 dX10_lay_155 (by omega) hM8 (by omega) (by omega) rfl ?_
                                  refine xa_iastw (pc := 156) 0 dX10_lay_156 (by omega) (by omega) hM8 (by omega) (by omega) rfl (fun h17 nh17 ch17 oh17 => ?_)
                                  have hM8 : h17.1 (k + 8) = xa_a 2 (xa_upf (F' 8) 0 ((F' 8) 1)) := ch17
                                  have hM0 : h17.1 k = xa_o 10 [xa_i (s 0), xa_r (k + 1), xa_r (k + 2), xa_r (k + 3), xa_r (k + 4), xa_r (k + 5), xa_r (k + 6), xa_r (k + 7), xa_r (k + 8), xa_r (k + 9), xa_r (k + 10), xa_r (k + 11), xa_r (k + 12), xa_i (s 13), xa_i (s 14), xa_i x, xa_r (k + 13), xa_i (s 17), xa_i (s 18), xa_i (s 19), xa_i (s 20), xa_r (k + 14), xa_r (k + 15), xa_i (s 23), xa_r (k + 16)] := (oh17 _ (by omega)).trans hM0
                                  have hM1 : h17.1 (k + 1) = xa_a 120 (F' 1) := (oh17 _ (by omega)).trans hM1
                                  have hM2 : h17.1 (k + 2) = xa_a 2 (xa_upf (F' 2) 0 ((F' 2) 1)) := (oh17 _ (by omega)).trans hM2
                                  have hM3 : h17.1 (k + 3) = xa_a 18 (xa_upf (xa_upf (xa_upf (xa_upf (xa_upf (xa_upf (xa_upf (xa_upf (xa_upf (F' 3) 0 (F' 3 9)) 1 (F' 3 10)) 2 (F' 3 11)) 3 (F' 3 12)) 4 (F' 3 13)) 5 (F' 3 14)) 6 (F' 3 15)) 7 (F' 3 16)) 8 (F' 3 17)) := (oh17 _ (by omega)).trans hM3
                                  have hM4 : h17.1 (k + 4) = xa_a 2 (xa_upf (F' 4) 0 ((F' 4) 1)) := (oh17 _ (by omega)).trans hM4
                                  have hM5 : h17.1 (k + 5) = xa_a 4 (xa_upf (xa_upf (F' 5) 0 (F' 5 2)) 1 (F' 5 3)) := (oh17 _ (by omega)).trans hM5
                                  have hM6 : h17.1 (k + 6) = xa_a 4 (xa_upf (xa_upf (F' 6) 0 (F' 6 2)) 1 (F' 6 3)) := (oh17 _ (by omega)).trans hM6
                                  have hM7 : h17.1 (k + 7) = xa_a 2 (xa_upf (F' 7) 0 ((F' 7) 1)) := (oh17 _ (by omega)).trans hM7
                                  have hM9 : h17.1 (k + 9) = xa_a 12 (F' 9) := (oh17 _ (by omega)).trans hM9
                                  have hM10 : h17.1 (k + 10) = xa_a 720 (F' 10) := (oh17 _ (by omega)).trans hM10
                                  have hM11 : h17.1 (k + 11) = xa_a 3 (F' 11) := (oh17 _ (by omega)).trans hM11
                                  have hM12 : h17.1 (k + 12) = xa_a 360 (F' 12) := (oh17 _ (by omega)).trans hM12
                                  have hM13 : h17.1 (k + 13) = xa_a 3 (F' 13) := (oh17 _ (by omega)).trans hM13
                                  have hM14 : h17.1 (k + 14) = xa_a 583200 (F' 14) := (oh17 _ (by omega)).trans hM14
                                  have hM15 : h17.1 (k + 15) = xa_a 583200 (F' 15) := (oh17 _ (by omega)).trans hM15
                                  have hM16 : h17.1 (k + 16) = xa_a 4 (F' 16) := (oh17 _ (by omega)).trans hM16
                                  have hn : h17.2 = h.2 := nh17.trans hn
                                  have fr : ∀ i, (i < k ∨ k + 17 ≤ i) → h17.1 i = h.1 i := fun i hi => (oh17 i (by omega)).trans (fr i hi)
                                  refine xa_iconst (pc := 157) dX10_lay_157 ?_
                                  refine xa_istoren (pc := 158) [some (xa_r k), some (xa_i 0)] dX10_lay_158 (by decide) (Nat.le_of_ble_eq_true rfl) rfl rfl ?_
                                  refine xa_iload_n (pc := 159) dX10_lay_159 rfl ?_
                                  refine xa_iconst (pc := 160) dX10_lay_160 ?_
                                  refine xa_icmp_ge (pc := 161) (tgt := 177) dX10_lay_161 (by decide) (by decide) (by decide) (fun c_161 => ?_) (fun c_161 => ?_)
                                  · skip
                                    exfalso; omega
                                  · skip
                                    refine xa_aload_n (pc := 164) dX10_lay_164 rfl ?_
                                    refine xa_getfield (pc := 165) dX10_lay_165 flRX10_34 (by omega) (by omega) hM0 rfl ?_
                                    refine xa_iload_n (pc := 168) dX10_lay_168 rfl ?_
                                    refine xa_iconst (pc := 169) dX10_lay_169 ?_
                                    refine xa_iastw (pc := 170) 0 dX10_lay_170 (by omega) (by omega) hM9 (by omega) (by omega) rfl (fun h18 nh18 ch18 oh18 => ?_)
                                    have hM9 : h18.1 (k + 9) = xa_a 12 (xa_upf (F' 9) 0 0) := ch18
                                    have hM0 : h18.1 k = xa_o 10 [xa_i (s 0), xa_r (k + 1), xa_r (k + 2), xa_r (k + 3), xa_r (k + 4), xa_r (k + 5), xa_r (k + 6), xa_r (k + 7), xa_r (k + 8), xa_r (k + 9), xa_r (k + 10), xa_r (k + 11), xa_r (k + 12), xa_i (s 13), xa_i (s 14), xa_i x, xa_r (k + 13), xa_i (s 17), xa_i (s 18), xa_i (s 19), xa_i (s 20), xa_r (k + 14), xa_r (k + 15), xa_i (s 23), xa_r (k + 16)] := (oh18 _ (by omega)).trans hM0
                                    have hM1 : h18.1 (k + 1) = xa_a 120 (F' 1) := (oh18 _ (by omega)).trans hM1
                                    have hM2 : h18.1 (k + 2) = xa_a 2 (xa_upf (F' 2) 0 ((F' 2) 1)) := (oh18 _ (by omega)).trans hM2
                                    have hM3 : h18.1 (k + 3) = xa_a 18 (xa_upf (xa_upf (xa_upf (xa_upf (xa_upf (xa_upf (xa_upf (xa_upf (xa_upf (F' 3) 0 (F' 3 9)) 1 (F' 3 10)) 2 (F' 3 11)) 3 (F' 3 12)) 4 (F' 3 13)) 5 (F' 3 14)) 6 (F' 3 15)) 7 (F' 3 16)) 8 (F' 3 17)) := (oh18 _ (by omega)).trans hM3
                                    have hM4 : h18.1 (k + 4) = xa_a 2 (xa_upf (F' 4) 0 ((F' 4) 1)) := (oh18 _ (by omega)).trans hM4
                                    have hM5 : h18.1 (k + 5) = xa_a 4 (xa_upf (xa_upf (F' 5) 0 (F' 5 2)) 1 (F' 5 3)) := (oh18 _ (by omega)).trans hM5
                                    have hM6 : h18.1 (k + 6) = xa_a 4 (xa_upf (xa_upf (F' 6) 0 (F' 6 2)) 1 (F' 6 3)) := (oh18 _ (by omega)).trans hM6
                                    have hM7 : h18.1 (k + 7) = xa_a 2 (xa_upf (F' 7) 0 ((F' 7) 1)) := (oh18 _ (by omega)).trans hM7
                                    have hM8 : h18.1 (k + 8) = xa_a 2 (xa_upf (F' 8) 0 ((F' 8) 1)) := (oh18 _ (by omega)).trans hM8
                                    have hM10 : h18.1 (k + 10) = xa_a 720 (F' 10) := (oh18 _ (by omega)).trans hM10
                                    have hM11 : h18.1 (k + 11) = xa_a 3 (F' 11) := (oh18 _ (by omega)).trans hM11
                                    have hM12 : h18.1 (k + 12) = xa_a 360 (F' 12) := (oh18 _ (by omega)).trans hM12
                                    have hM13 : h18.1 (k + 13) = xa_a 3 (F' 13) := (oh18 _ (by omega)).trans hM13
                                    have hM14 : h18.1 (k + 14) = xa_a 583200 (F' 14) := (oh18 _ (by omega)).trans hM14
                                    have hM15 : h18.1 (k + 15) = xa_a 583200 (F' 15) := (oh18 _ (by omega)).trans hM15
                                    have hM16 : h18.1 (k + 16) = xa_a 4 (F' 16) := (oh18 _ (by omega)).trans hM16
                                    have hn : h18.2 = h.2 := nh18.trans hn
                                    have fr : ∀ i, (i < k ∨ k + 17 ≤ i) → h18.1 i = h.1 i := fun i hi => (oh18 i (by omega)).trans (fr i hi)
                                    refine xa_iincw (pc := 171) (y := 1) [some (xa_r k), some (xa_i 1)] dX10_lay_171 (by decide) rfl rfl rfl rfl ?_
                                    refine xa_goto (pc := 174) (tgt := 159) dX10_lay_174 (by decide) ?_
                                    refine xa_iload_n (pc := 159) dX10_lay_159 rfl ?_
                                    refine xa_iconst (pc := 160) dX10_lay_160 ?_
                                    refine xa_icmp_ge (pc := 161) (tgt := 177) dX10_lay_161 (by decide) (by decide) (by decide) (fun c_161 => ?_) (fun c_161 => ?_)
                                    · skip
                                      exfalso; omega
                                    · skip
                                      refine xa_aload_n (pc := 164) dX10_lay_164 rfl ?_
                                      refine xa_getfield (pc := 165) dX10_lay_165 flRX10_34 (by omega) (by omega) hM0 rfl ?_
                                      refine xa_iload_n (pc := 168) dX10_lay_168 rfl ?_
                                      refine xa_iconst (pc := 169) dX10_lay_169 ?_
                                      refine xa_iastw (pc := 170) 1 dX10_lay_170 (by omega) (by omega) hM9 (by omega) (by omega) rfl (fun h19 nh19 ch19 oh19 => ?_)
                                      have hM9 : h19.1 (k + 9) = xa_a 12 (xa_upf (xa_upf (F' 9) 0 0) 1 0) := ch19
                                      have hM0 : h19.1 k = xa_o 10 [xa_i (s 0), xa_r (k + 1), xa_r (k + 2), xa_r (k + 3), xa_r (k + 4), xa_r (k + 5), xa_r (k + 6), xa_r (k + 7), xa_r (k + 8), xa_r (k + 9), xa_r (k + 10), xa_r (k + 11), xa_r (k + 12), xa_i (s 13), xa_i (s 14), xa_i x, xa_r (k + 13), xa_i (s 17), xa_i (s 18), xa_i (s 19), xa_i (s 20), xa_r (k + 14), xa_r (k + 15), xa_i (s 23), xa_r (k + 16)] := (oh19 _ (by omega)).trans hM0
                                      have hM1 : h19.1 (k + 1) = xa_a 120 (F' 1) := (oh19 _ (by omega)).trans hM1
                                      have hM2 : h19.1 (k + 2) = xa_a 2 (xa_upf (F' 2) 0 ((F' 2) 1)) := (oh19 _ (by omega)).trans hM2
                                      have hM3 : h19.1 (k + 3) = xa_a 18 (xa_upf (xa_upf (xa_upf (xa_upf (xa_upf (xa_upf (xa_upf (xa_upf (xa_upf (F' 3) 0 (F' 3 9)) 1 (F' 3 10)) 2 (F' 3 11)) 3 (F' 3 12)) 4 (F' 3 13)) 5 (F' 3 14)) 6 (F' 3 15)) 7 (F' 3 16)) 8 (F' 3 17)) := (oh19 _ (by omega)).trans hM3
                                      have hM4 : h19.1 (k + 4) = xa_a 2 (xa_upf (F' 4) 0 ((F' 4) 1)) := (oh19 _ (by omega)).trans hM4
                                      have hM5 : h19.1 (k + 5) = xa_a 4 (xa_upf (xa_upf (F' 5) 0 (F' 5 2)) 1 (F' 5 3)) := (oh19 _ (by omega)).trans hM5
                                      have hM6 : h19.1 (k + 6) = xa_a 4 (xa_upf (xa_upf (F' 6) 0 (F' 6 2)) 1 (F' 6 3)) := (oh19 _ (by omega)).trans hM6
                                      have hM7 : h19.1 (k + 7) = xa_a 2 (xa_upf (F' 7) 0 ((F' 7) 1)) := (oh19 _ (by omega)).trans hM7
                                      have hM8 : h19.1 (k + 8) = xa_a 2 (xa_upf (F' 8) 0 ((F' 8) 1)) := (oh19 _ (by omega)).trans hM8
                                      have hM10 : h19.1 (k + 10) = xa_a 720 (F' 10) := (oh19 _ (by omega)).trans hM10
                                      have hM11 : h19.1 (k + 11) = xa_a 3 (F' 11) := (oh19 _ (by omega)).trans hM11
                                      have hM12 : h19.1 (k + 12) = xa_a 360 (F' 12) := (oh19 _ (by omega)).trans hM12
                                      have hM13 : h19.1 (k + 13) = xa_a 3 (F' 13) := (oh19 _ (by omega)).trans hM13
                                      have hM14 : h19.1 (k + 14) = xa_a 583200 (F' 14) := (oh19 _ (by omega)).trans hM14
                                      have hM15 : h19.1 (k + 15) = xa_a 583200 (F' 15) := (oh19 _ (by omega)).trans hM15
                                      have hM16 : h19.1 (k + 16) = xa_a 4 (F' 16) := (oh19 _ (by omega)).trans hM16
                                      have hn : h19.2 = h.2 := nh19.trans hn
                                      have fr : ∀ i, (i < k ∨ k + 17 ≤ i) → h19.1 i = h.1 i := fun i hi => (oh19 i (by omega)).trans (fr i hi)
                                      refine xa_iincw (pc := 171) (y := 2) [some (xa_r k), some (xa_i 2)] dX10_lay_171 (by decide) rfl rfl rfl rfl ?_
                                      refine xa_goto (pc := 174) (tgt := 159) dX10_lay_174 (by decide) ?_
                                      refine xa_iload_n (pc := 159) dX10_lay_159 rfl ?_
                                      refine xa_iconst (pc := 160) dX10_lay_160 ?_
                                      refine xa_icmp_ge (pc := 161) (tgt := 177) dX10_lay_161 (by decide) (by decide) (by decide) (fun c_161 => ?_) (fun c_161 => ?_)
                                      · skip
                                        exfalso; omega
                                      · skip
                                        refine xa_aload_n (pc := 164) dX10_lay_164 rfl ?_
                                        refine xa_getfield (pc := 165) dX10_lay_165 flRX10_34 (by omega) (by omega) hM0 rfl ?_
                                        refine xa_iload_n (pc := 168) dX10_lay_168 rfl ?_
                                        refine xa_iconst (pc := 169) dX10_lay_169 ?_
                                        refine xa_iastw (pc := 170) 2 dX10_lay_170 (by omega) (by omega) hM9 (by omega) (by omega) rfl (fun h20 nh20 ch20 oh20 => ?_)
                                        have hM9 : h20.1 (k + 9) = xa_a 12 (xa_upf (xa_upf (xa_upf (F' 9) 0 0) 1 0) 2 0) := ch20
                                        have hM0 : h20.1 k = xa_o 10 [xa_i (s 0), xa_r (k + 1), xa_r (k + 2), xa_r (k + 3), xa_r (k + 4), xa_r (k + 5), xa_r (k + 6), xa_r (k + 7), xa_r (k + 8), xa_r (k + 9), xa_r (k + 10), xa_r (k + 11), xa_r (k + 12), xa_i (s 13), xa_i (s 14), xa_i x, xa_r (k + 13), xa_i (s 17), xa_i (s 18), xa_i (s 19), xa_i (s 20), xa_r (k + 14), xa_r (k + 15), xa_i (s 23), xa_r (k + 16)] := (oh20 _ (by omega)).trans hM0
                                        have hM1 : h20.1 (k + 1) = xa_a 120 (F' 1) := (oh20 _ (by omega)).trans hM1
                                        have hM2 : h20.1 (k + 2) = xa_a 2 (xa_upf (F' 2) 0 ((F' 2) 1)) := (oh20 _ (by omega)).trans hM2
                                        have hM3 : h20.1 (k + 3) = xa_a 18 (xa_upf (xa_upf (xa_upf (xa_upf (xa_upf (xa_upf (xa_upf (xa_upf (xa_upf (F' 3) 0 (F' 3 9)) 1 (F' 3 10)) 2 (F' 3 11)) 3 (F' 3 12)) 4 (F' 3 13)) 5 (F' 3 14)) 6 (F' 3 15)) 7 (F' 3 16)) 8 (F' 3 17)) := (oh20 _ (by omega)).trans hM3
                                        have hM4 : h20.1 (k + 4) = xa_a 2 (xa_upf (F' 4) 0 ((F' 4) 1)) := (oh20 _ (by omega)).trans hM4
                                        have hM5 : h20.1 (k + 5) = xa_a 4 (xa_upf (xa_upf (F' 5) 0 (F' 5 2)) 1 (F' 5 3)) := (oh20 _ (by omega)).trans hM5
                                        have hM6 : h20.1 (k + 6) = xa_a 4 (xa_upf (xa_upf (F' 6) 0 (F' 6 2)) 1 (F' 6 3)) := (oh20 _ (by omega)).trans hM6
                                        have hM7 : h20.1 (k + 7) = xa_a 2 (xa_upf (F' 7) 0 ((F' 7) 1)) := (oh20 _ (by omega)).trans hM7
                                        have hM8 : h20.1 (k + 8) = xa_a 2 (xa_upf (F' 8) 0 ((F' 8) 1)) := (oh20 _ (by omega)).trans hM8
                                        have hM10 : h20.1 (k + 10) = xa_a 720 (F' 10) := (oh20 _ (by omega)).trans hM10
                                        have hM11 : h20.1 (k + 11) = xa_a 3 (F' 11) := (oh20 _ (by omega)).trans hM11
                                        have hM12 : h20.1 (k + 12) = xa_a 360 (F' 12) := (oh20 _ (by omega)).trans hM12
                                        have hM13 : h20.1 (k + 13) = xa_a 3 (F' 13) := (oh20 _ (by omega)).trans hM13
                                        have hM14 : h20.1 (k + 14) = xa_a 583200 (F' 14) := (oh20 _ (by omega)).trans hM14
                                        have hM15 : h20.1 (k + 15) = xa_a 583200 (F' 15) := (oh20 _ (by omega)).trans hM15
                                        have hM16 : h20.1 (k + 16) = xa_a 4 (F' 16) := (oh20 _ (by omega)).trans hM16
                                        have hn : h20.2 = h.2 := nh20.trans hn
                                        have fr : ∀ i, (i < k ∨ k + 17 ≤ i) → h20.1 i = h.1 i := fun i hi => (oh20 i (by omega)).trans (fr i hi)
                                        refine xa_iincw (pc := 171) (y := 3) [some (xa_r k), some (xa_i 3)] dX10_lay_171 (by decide) rfl rfl rfl rfl ?_
                                        refine xa_goto (pc := 174) (tgt := 159) dX10_lay_174 (by decide) ?_
                                        refine xa_iload_n (pc := 159) dX10_lay_159 rfl ?_
                                        refine xa_iconst (pc := 160) dX10_lay_160 ?_
                                        refine xa_icmp_ge (pc := 161) (tgt := 177) dX10_lay_161 (by decide) (by decide) (by decide) (fun c_161 => ?_) (fun c_161 => ?_)
                                        · skip
                                          exfalso; omega
                                        · skip
                                          refine xa_aload_n (pc := 164) dX10_lay_164 rfl ?_
                                          refine xa_getfield (pc := 165) dX10_lay_165 flRX10_34 (by omega) (by omega) hM0 rfl ?_
                                          refine xa_iload_n (pc := 168) dX10_lay_168 rfl ?_
                                          refine xa_iconst (pc := 169) dX10_lay_169 ?_
                                          refine xa_iastw (pc := 170) 3 dX10_lay_170 (by omega) (by omega) hM9 (by omega) (by omega) rfl (fun h21 nh21 ch21 oh21 => ?_)
                                          have hM9 : h21.1 (k + 9) = xa_a 12 (xa_upf (xa_upf (xa_upf (xa_upf (F' 9) 0 0) 1 0) 2 0) 3 0) := ch21
                                          have hM0 : h21.1 k = xa_o 10 [xa_i (s 0), xa_r (k + 1), xa_r (k + 2), xa_r (k + 3), xa_r (k + 4), xa_r (k + 5), xa_r (k + 6), xa_r (k + 7), xa_r (k + 8), xa_r (k + 9), xa_r (k + 10), xa_r (k + 11), xa_r (k + 12), xa_i (s 13), xa_i (s 14), xa_i x, xa_r (k + 13), xa_i (s 17), xa_i (s 18), xa_i (s 19), xa_i (s 20), xa_r (k + 14), xa_r (k + 15), xa_i (s 23), xa_r (k + 16)] := (oh21 _ (by omega)).trans hM0
                                          have hM1 : h21.1 (k + 1) = xa_a 120 (F' 1) := (oh21 _ (by omega)).trans hM1
                                          have hM2 : h21.1 (k + 2) = xa_a 2 (xa_upf (F' 2) 0 ((F' 2) 1)) := (oh21 _ (by omega)).trans hM2
                                          have hM3 : h21.1 (k + 3) = xa_a 18 (xa_upf (xa_upf (xa_upf (xa_upf (xa_upf (xa_upf (xa_upf (xa_upf (xa_upf (F' 3) 0 (F' 3 9)) 1 (F' 3 10)) 2 (F' 3 11)) 3 (F' 3 12)) 4 (F' 3 13)) 5 (F' 3 14)) 6 (F' 3 15)) 7 (F' 3 16)) 8 (F' 3 17)) := (oh21 _ (by omega)).trans hM3
                                          have hM4 : h21.1 (k + 4) = xa_a 2 (xa_upf (F' 4) 0 ((F' 4) 1)) := (oh21 _ (by omega)).trans hM4
                                          have hM5 : h21.1 (k + 5) = xa_a 4 (xa_upf (xa_upf (F' 5) 0 (F' 5 2)) 1 (F' 5 3)) := (oh21 _ (by omega)).trans hM5
                                          have hM6 : h21.1 (k + 6) = xa_a 4 (xa_upf (xa_upf (F' 6) 0 (F' 6 2)) 1 (F' 6 3)) := (oh21 _ (by omega)).trans hM6
                                          have hM7 : h21.1 (k + 7) = xa_a 2 (xa_upf (F' 7) 0 ((F' 7) 1)) := (oh21 _ (by omega)).trans hM7
                                          have hM8 : h21.1 (k + 8) = xa_a 2 (xa_upf (F' 8) 0 ((F' 8) 1)) := (oh21 _ (by omega)).trans hM8
                                          have hM10 : h21.1 (k + 10) = xa_a 720 (F' 10) := (oh21 _ (by omega)).trans hM10
                                          have hM11 : h21.1 (k + 11) = xa_a 3 (F' 11) := (oh21 _ (by omega)).trans hM11
                                          have hM12 : h21.1 (k + 12) = xa_a 360 (F' 12) := (oh21 _ (by omega)).trans hM12
                                          have hM13 : h21.1 (k + 13) = xa_a 3 (F' 13) := (oh21 _ (by omega)).trans hM13
                                          have hM14 : h21.1 (k + 14) = xa_a 583200 (F' 14) := (oh21 _ (by omega)).trans hM14
                                          have hM15 : h21.1 (k + 15) = xa_a 583200 (F' 15) := (oh21 _ (by omega)).trans hM15
                                          have hM16 : h21.1 (k + 16) = xa_a 4 (F' 16) := (oh21 _ (by omega)).trans hM16
                                          have hn : h21.2 = h.2 := nh21.trans hn
                                          have fr : ∀ i, (i < k ∨ k + 17 ≤ i) → h21.1 i = h.1 i := fun i hi => (oh21 i (by omega)).trans (fr i hi)
                                          refine xa_iincw (pc := 171) (y := 4) [some (xa_r k), some (xa_i 4)] dX10_lay_171 (by decide) rfl rfl rfl rfl ?_
                                          refine xa_goto (pc := 174) (tgt := 159) dX10_lay_174 (by decide) ?_
                                          refine xa_iload_n (pc := 159) dX10_lay_159 rfl ?_
                                          refine xa_iconst (pc := 160) dX10_lay_160 ?_
                                          refine xa_icmp_ge (pc := 161) (tgt := 177) dX10_lay_161 (by decide) (by decide) (by decide) (fun c_161 => ?_) (fun c_161 => ?_)
                                          · skip
                                            refine xa_aload_n (pc := 177) dX10_lay_177 rfl ?_
                                            refine xa_getfield (pc := 178) dX10_lay_178 flRX10_40 (by omega) (by omega) hM0 rfl ?_
                                            refine xa_iconst (pc := 181) dX10_lay_181 ?_
                                            refine xa_iconst (pc := 182) dX10_lay_182 ?_
                                            refine xa_iastw (pc := 183) 0 dX10_lay_183 (by omega) (by omega) hM11 (by omega) (by omega) rfl (fun h22 nh22 ch22 oh22 => ?_)
                                            have hM11 : h22.1 (k + 11) = xa_a 3 (xa_upf (F' 11) 0 0) := ch22
                                            have hM0 : h22.1 k = xa_o 10 [xa_i (s 0), xa_r (k + 1), xa_r (k + 2), xa_r (k + 3), xa_r (k + 4), xa_r (k + 5), xa_r (k + 6), xa_r (k + 7), xa_r (k + 8), xa_r (k + 9), xa_r (k + 10), xa_r (k + 11), xa_r (k + 12), xa_i (s 13), xa_i (s 14), xa_i x, xa_r (k + 13), xa_i (s 17), xa_i (s 18), xa_i (s 19), xa_i (s 20), xa_r (k + 14), xa_r (k + 15), xa_i (s 23), xa_r (k + 16)] := (oh22 _ (by omega)).trans hM0
                                            have hM1 : h22.1 (k + 1) = xa_a 120 (F' 1) := (oh22 _ (by omega)).trans hM1
                                            have hM2 : h22.1 (k + 2) = xa_a 2 (xa_upf (F' 2) 0 ((F' 2) 1)) := (oh22 _ (by omega)).trans hM2
                                            have hM3 : h22.1 (k + 3) = xa_a 18 (xa_upf (xa_upf (xa_upf (xa_upf (xa_upf (xa_upf (xa_upf (xa_upf (xa_upf (F' 3) 0 (F' 3 9)) 1 (F' 3 10)) 2 (F' 3 11)) 3 (F' 3 12)) 4 (F' 3 13)) 5 (F' 3 14)) 6 (F' 3 15)) 7 (F' 3 16)) 8 (F' 3 17)) := (oh22 _ (by omega)).trans hM3
                                            have hM4 : h22.1 (k + 4) = xa_a 2 (xa_upf (F' 4) 0 ((F' 4) 1)) := (oh22 _ (by omega)).trans hM4
                                            have hM5 : h22.1 (k + 5) = xa_a 4 (xa_upf (xa_upf (F' 5) 0 (F' 5 2)) 1 (F' 5 3)) := (oh22 _ (by omega)).trans hM5
                                            have hM6 : h22.1 (k + 6) = xa_a 4 (xa_upf (xa_upf (F' 6) 0 (F' 6 2)) 1 (F' 6 3)) := (oh22 _ (by omega)).trans hM6
                                            have hM7 : h22.1 (k + 7) = xa_a 2 (xa_upf (F' 7) 0 ((F' 7) 1)) := (oh22 _ (by omega)).trans hM7
                                            have hM8 : h22.1 (k + 8) = xa_a 2 (xa_upf (F' 8) 0 ((F' 8) 1)) := (oh22 _ (by omega)).trans hM8
                                            have hM9 : h22.1 (k + 9) = xa_a 12 (xa_upf (xa_upf (xa_upf (xa_upf (F' 9) 0 0) 1 0) 2 0) 3 0) := (oh22 _ (by omega)).trans hM9
                                            have hM10 : h22.1 (k + 10) = xa_a 720 (F' 10) := (oh22 _ (by omega)).trans hM10
                                            have hM12 : h22.1 (k + 12) = xa_a 360 (F' 12) := (oh22 _ (by omega)).trans hM12
                                            have hM13 : h22.1 (k + 13) = xa_a 3 (F' 13) := (oh22 _ (by omega)).trans hM13
                                            have hM14 : h22.1 (k + 14) = xa_a 583200 (F' 14) := (oh22 _ (by omega)).trans hM14
                                            have hM15 : h22.1 (k + 15) = xa_a 583200 (F' 15) := (oh22 _ (by omega)).trans hM15
                                            have hM16 : h22.1 (k + 16) = xa_a 4 (F' 16) := (oh22 _ (by omega)).trans hM16
                                            have hn : h22.2 = h.2 := nh22.trans hn
                                            have fr : ∀ i, (i < k ∨ k + 17 ≤ i) → h22.1 i = h.1 i := fun i hi => (oh22 i (by omega)).trans (fr i hi)
                                            refine xa_aload_n (pc := 184) dX10_lay_184 rfl ?_
                                            refine xa_iconst (pc := 185) dX10_lay_185 ?_
                                            refine xa_putw (pc := 186) [xa_i (s 0), xa_r (k + 1), xa_r (k + 2), xa_r (k + 3), xa_r (k + 4), xa_r (k + 5), xa_r (k + 6), xa_r (k + 7), xa_r (k + 8), xa_r (k + 9), xa_r (k + 10), xa_r (k + 11), xa_r (k + 12), xa_i 0, xa_i (s 14), xa_i x, xa_r (k + 13), xa_i (s 17), xa_i (s 18), xa_i (s 19), xa_i (s 20), xa_r (k + 14), xa_r (k + 15), xa_i (s 23), xa_r (k + 16)] dX10_lay_186 flRX10_112 plX10_13 (by omega) (by omega) hM0 trivial rfl (fun h23 nh23 ch23 oh23 => ?_)
                                            have hM0 : h23.1 k = xa_o 10 [xa_i (s 0), xa_r (k + 1), xa_r (k + 2), xa_r (k + 3), xa_r (k + 4), xa_r (k + 5), xa_r (k + 6), xa_r (k + 7), xa_r (k + 8), xa_r (k + 9), xa_r (k + 10), xa_r (k + 11), xa_r (k + 12), xa_i 0, xa_i (s 14), xa_i x, xa_r (k + 13), xa_i (s 17), xa_i (s 18), xa_i (s 19), xa_i (s 20), xa_r (k + 14), xa_r (k + 15), xa_i (s 23), xa_r (k + 16)] := ch23
                                            have hM1 : h23.1 (k + 1) = xa_a 120 (F' 1) := (oh23 _ (by omega)).trans hM1
                                            have hM2 : h23.1 (k + 2) = xa_a 2 (xa_upf (F' 2) 0 ((F' 2) 1)) := (oh23 _ (by omega)).trans hM2
                                            have hM3 : h23.1 (k + 3) = xa_a 18 (xa_upf (xa_upf (xa_upf (xa_upf (xa_upf (xa_upf (xa_upf (xa_upf (xa_upf (F' 3) 0 (F' 3 9)) 1 (F' 3 10)) 2 (F' 3 11)) 3 (F' 3 12)) 4 (F' 3 13)) 5 (F' 3 14)) 6 (F' 3 15)) 7 (F' 3 16)) 8 (F' 3 17)) := (oh23 _ (by omega)).trans hM3
                                            have hM4 : h23.1 (k + 4) = xa_a 2 (xa_upf (F' 4) 0 ((F' 4) 1)) := (oh23 _ (by omega)).trans hM4
                                            have hM5 : h23.1 (k + 5) = xa_a 4 (xa_upf (xa_upf (F' 5) 0 (F' 5 2)) 1 (F' 5 3)) := (oh23 _ (by omega)).trans hM5
                                            have hM6 : h23.1 (k + 6) = xa_a 4 (xa_upf (xa_upf (F' 6) 0 (F' 6 2)) 1 (F' 6 3)) := (oh23 _ (by omega)).trans hM6
                                            have hM7 : h23.1 (k + 7) = xa_a 2 (xa_upf (F' 7) 0 ((F' 7) 1)) := (oh23 _ (by omega)).trans hM7
                                            have hM8 : h23.1 (k + 8) = xa_a 2 (xa_upf (F' 8) 0 ((F' 8) 1)) := (oh23 _ (by omega)).trans hM8
                                            have hM9 : h23.1 (k + 9) = xa_a 12 (xa_upf (xa_upf (xa_upf (xa_upf (F' 9) 0 0) 1 0) 2 0) 3 0) := (oh23 _ (by omega)).trans hM9
                                            have hM10 : h23.1 (k + 10) = xa_a 720 (F' 10) := (oh23 _ (by omega)).trans hM10
                                            have hM11 : h23.1 (k + 11) = xa_a 3 (xa_upf (F' 11) 0 0) := (oh23 _ (by omega)).trans hM11
                                            have hM12 : h23.1 (k + 12) = xa_a 360 (F' 12) := (oh23 _ (by omega)).trans hM12
                                            have hM13 : h23.1 (k + 13) = xa_a 3 (F' 13) := (oh23 _ (by omega)).trans hM13
                                            have hM14 : h23.1 (k + 14) = xa_a 583200 (F' 14) := (oh23 _ (by omega)).trans hM14
                                            have hM15 : h23.1 (k + 15) = xa_a 583200 (F' 15) := (oh23 _ (by omega)).trans hM15
                                            have hM16 : h23.1 (k + 16) = xa_a 4 (F' 16) := (oh23 _ (by omega)).trans hM16
                                            have hn : h23.2 = h.2 := nh23.trans hn
                                            have fr : ∀ i, (i < k ∨ k + 17 ≤ i) → h23.1 i = h.1 i := fun i hi => (oh23 i (by omega)).trans (fr i hi)
                                            refine xa_aload_n (pc := 189) dX10_lay_189 rfl ?_
                                            refine xa_bipush (pc := 190) dX10_lay_190 rfl ?_
                                            refine xa_putw (pc := 192) [xa_i (s 0), xa_r (k + 1), xa_r (k + 2), xa_r (k + 3), xa_r (k + 4), xa_r (k + 5), xa_r (k + 6), xa_r (k + 7), xa_r (k + 8), xa_r (k + 9), xa_r (k + 10), xa_r (k + 11), xa_r (k + 12), xa_i 0, xa_i (s 14), xa_i x, xa_r (k + 13), xa_i (s 17), xa_i (s 18), xa_i (s 19), xa_i (-4), xa_r (k + 14), xa_r (k + 15), xa_i (s 23), xa_r (k + 16)] dX10_lay_192 flRX10_49 plX10_20 (by omega) (by omega) hM0 trivial rfl (fun h24 nh24 ch24 oh24 => ?_)
                                            have hM0 : h24.1 k = xa_o 10 [xa_i (s 0), xa_r (k + 1), xa_r (k + 2), xa_r (k + 3), xa_r (k + 4), xa_r (k + 5), xa_r (k + 6), xa_r (k + 7), xa_r (k + 8), xa_r (k + 9), xa_r (k + 10), xa_r (k + 11), xa_r (k + 12), xa_i 0, xa_i (s 14), xa_i x, xa_r (k + 13), xa_i (s 17), xa_i (s 18), xa_i (s 19), xa_i (-4), xa_r (k + 14), xa_r (k + 15), xa_i (s 23), xa_r (k + 16)] := ch24
                                            have hM1 : h24.1 (k + 1) = xa_a 120 (F' 1) := (oh24 _ (by omega)).trans hM1
                                            have hM2 : h24.1 (k + 2) = xa_a 2 (xa_upf (F' 2) 0 ((F' 2) 1)) := (oh24 _ (by omega)).trans hM2
                                            have hM3 : h24.1 (k + 3) = xa_a 18 (xa_upf (xa_upf (xa_upf (xa_upf (xa_upf (xa_upf (xa_upf (xa_upf (xa_upf (F' 3) 0 (F' 3 9)) 1 (F' 3 10)) 2 (F' 3 11)) 3 (F' 3 12)) 4 (F' 3 13)) 5 (F' 3 14)) 6 (F' 3 15)) 7 (F' 3 16)) 8 (F' 3 17)) := (oh24 _ (by omega)).trans hM3
                                            have hM4 : h24.1 (k + 4) = xa_a 2 (xa_upf (F' 4) 0 ((F' 4) 1)) := (oh24 _ (by omega)).trans hM4
                                            have hM5 : h24.1 (k + 5) = xa_a 4 (xa_upf (xa_upf (F' 5) 0 (F' 5 2)) 1 (F' 5 3)) := (oh24 _ (by omega)).trans hM5
                                            have hM6 : h24.1 (k + 6) = xa_a 4 (xa_upf (xa_upf (F' 6) 0 (F' 6 2)) 1 (F' 6 3)) := (oh24 _ (by omega)).trans hM6
                                            have hM7 : h24.1 (k + 7) = xa_a 2 (xa_upf (F' 7) 0 ((F' 7) 1)) := (oh24 _ (by omega)).trans hM7
                                            have hM8 : h24.1 (k + 8) = xa_a 2 (xa_upf (F' 8) 0 ((F' 8) 1)) := (oh24 _ (by omega)).trans hM8
                                            have hM9 : h24.1 (k + 9) = xa_a 12 (xa_upf (xa_upf (xa_upf (xa_upf (F' 9) 0 0) 1 0) 2 0) 3 0) := (oh24 _ (by omega)).trans hM9
                                            have hM10 : h24.1 (k + 10) = xa_a 720 (F' 10) := (oh24 _ (by omega)).trans hM10
                                            have hM11 : h24.1 (k + 11) = xa_a 3 (xa_upf (F' 11) 0 0) := (oh24 _ (by omega)).trans hM11
                                            have hM12 : h24.1 (k + 12) = xa_a 360 (F' 12) := (oh24 _ (by omega)).trans hM12
                                            have hM13 : h24.1 (k + 13) = xa_a 3 (F' 13) := (oh24 _ (by omega)).trans hM13
                                            have hM14 : h24.1 (k + 14) = xa_a 583200 (F' 14) := (oh24 _ (by omega)).trans hM14
                                            have hM15 : h24.1 (k + 15) = xa_a 583200 (F' 15) := (oh24 _ (by omega)).trans hM15
                                            have hM16 : h24.1 (k + 16) = xa_a 4 (F' 16) := (oh24 _ (by omega)).trans hM16
                                            have hn : h24.2 = h.2 := nh24.trans hn
                                            have fr : ∀ i, (i < k ∨ k + 17 ≤ i) → h24.1 i = h.1 i := fun i hi => (oh24 i (by omega)).trans (fr i hi)
                                            refine xa_iconst (pc := 195) dX10_lay_195 ?_
                                            refine xa_istoren (pc := 196) [some (xa_r k), some (xa_i 0)] dX10_lay_196 (by decide) (Nat.le_of_ble_eq_true rfl) rfl rfl ?_
                                            refine xa_iload_n (pc := 197) dX10_lay_197 rfl ?_
                                            refine xa_iconst (pc := 198) dX10_lay_198 ?_
                                            refine xa_icmp_ge (pc := 199) (tgt := 215) dX10_lay_199 (by decide) (by decide) (by decide) (fun c_199 => ?_) (fun c_199 => ?_)
                                            · skip
                                              exfalso; omega
                                            · skip
                                              refine xa_aload_n (pc := 202) dX10_lay_202 rfl ?_
                                              refine xa_getfield (pc := 203) dX10_lay_203 flRX10_60 (by omega) (by omega) hM0 rfl ?_
                                              refine xa_iload_n (pc := 206) dX10_lay_206 rfl ?_
                                              refine xa_iconst (pc := 207) dX10_lay_207 ?_
                                              refine xa_iastw (pc := 208) 0 dX10_lay_208 (by omega) (by omega) hM16 (by omega) (by omega) rfl (fun h25 nh25 ch25 oh25 => ?_)
                                              have hM16 : h25.1 (k + 16) = xa_a 4 (xa_upf (F' 16) 0 0) := ch25
                                              have hM0 : h25.1 k = xa_o 10 [xa_i (s 0), xa_r (k + 1), xa_r (k + 2), xa_r (k + 3), xa_r (k + 4), xa_r (k + 5), xa_r (k + 6), xa_r (k + 7), xa_r (k + 8), xa_r (k + 9), xa_r (k + 10), xa_r (k + 11), xa_r (k + 12), xa_i 0, xa_i (s 14), xa_i x, xa_r (k + 13), xa_i (s 17), xa_i (s 18), xa_i (s 19), xa_i (-4), xa_r (k + 14), xa_r (k + 15), xa_i (s 23), xa_r (k + 16)] := (oh25 _ (by omega)).trans hM0
                                              have hM1 : h25.1 (k + 1) = xa_a 120 (F' 1) := (oh25 _ (by omega)).trans hM1
                                              have hM2 : h25.1 (k + 2) = xa_a 2 (xa_upf (F' 2) 0 ((F' 2) 1)) := (oh25 _ (by omega)).trans hM2
                                              have hM3 : h25.1 (k + 3) = xa_a 18 (xa_upf (xa_upf (xa_upf (xa_upf (xa_upf (xa_upf (xa_upf (xa_upf (xa_upf (F' 3) 0 (F' 3 9)) 1 (F' 3 10)) 2 (F' 3 11)) 3 (F' 3 12)) 4 (F' 3 13)) 5 (F' 3 14)) 6 (F' 3 15)) 7 (F' 3 16)) 8 (F' 3 17)) := (oh25 _ (by omega)).trans hM3
                                              have hM4 : h25.1 (k + 4) = xa_a 2 (xa_upf (F' 4) 0 ((F' 4) 1)) := (oh25 _ (by omega)).trans hM4
                                              have hM5 : h25.1 (k + 5) = xa_a 4 (xa_upf (xa_upf (F' 5) 0 (F' 5 2)) 1 (F' 5 3)) := (oh25 _ (by omega)).trans hM5
                                              have hM6 : h25.1 (k + 6) = xa_a 4 (xa_upf (xa_upf (F' 6) 0 (F' 6 2)) 1 (F' 6 3)) := (oh25 _ (by omega)).trans hM6
                                              have hM7 : h25.1 (k + 7) = xa_a 2 (xa_upf (F' 7) 0 ((F' 7) 1)) := (oh25 _ (by omega)).trans hM7
                                              have hM8 : h25.1 (k + 8) = xa_a 2 (xa_upf (F' 8) 0 ((F' 8) 1)) := (oh25 _ (by omega)).trans hM8
                                              have hM9 : h25.1 (k + 9) = xa_a 12 (xa_upf (xa_upf (xa_upf (xa_upf (F' 9) 0 0) 1 0) 2 0) 3 0) := (oh25 _ (by omega)).trans hM9
                                              have hM10 : h25.1 (k + 10) = xa_a 720 (F' 10) := (oh25 _ (by omega)).trans hM10
                                              have hM11 : h25.1 (k + 11) = xa_a 3 (xa_upf (F' 11) 0 0) := (oh25 _ (by omega)).trans hM11
                                              have hM12 : h25.1 (k + 12) = xa_a 360 (F' 12) := (oh25 _ (by omega)).trans hM12
                                              have hM13 : h25.1 (k + 13) = xa_a 3 (F' 13) := (oh25 _ (by omega)).trans hM13
                                              have hM14 : h25.1 (k + 14) = xa_a 583200 (F' 14) := (oh25 _ (by omega)).trans hM14
                                              have hM15 : h25.1 (k + 15) = xa_a 583200 (F' 15) := (oh25 _ (by omega)).trans hM15
                                              have hn : h25.2 = h.2 := nh25.trans hn
                                              have fr : ∀ i, (i < k ∨ k + 17 ≤ i) → h25.1 i = h.1 i := fun i hi => (oh25 i (by omega)).trans (fr i hi)
                                              refine xa_iincw (pc := 209) (y := 1) [some (xa_r k), some (xa_i 1)] dX10_lay_209 (by decide) rfl rfl rfl rfl ?_
                                              refine xa_goto (pc := 212) (tgt := 197) dX10_lay_212 (by decide) ?_
                                              refine xa_iload_n (pc := 197) dX10_lay_197 rfl ?_
                                              refine xa_iconst (pc := 198) dX10_lay_198 ?_
                                              refine xa_icmp_ge (pc := 199) (tgt := 215) dX10_lay_199 (by decide) (by decide) (by decide) (fun c_199 => ?_) (fun c_199 => ?_)
                                              · skip
                                                exfalso; omega
                                              · skip
                                                refine xa_aload_n (pc := 202) dX10_lay_202 rfl ?_
                                                refine xa_getfield (pc := 203) dX10_lay_203 flRX10_60 (by omega) (by omega) hM0 rfl ?_
                                                refine xa_iload_n (pc := 206) dX10_lay_206 rfl ?_
                                                refine xa_iconst (pc := 207) dX10_lay_207 ?_
                                                refine xa_iastw (pc := 208) 1 dX10_lay_208 (by omega) (by omega) hM16 (by omega) (by omega) rfl (fun h26 nh26 ch26 oh26 => ?_)
                                                have hM16 : h26.1 (k + 16) = xa_a 4 (xa_upf (xa_upf (F' 16) 0 0) 1 0) := ch26
                                                have hM0 : h26.1 k = xa_o 10 [xa_i (s 0), xa_r (k + 1), xa_r (k + 2), xa_r (k + 3), xa_r (k + 4), xa_r (k + 5), xa_r (k + 6), xa_r (k + 7), xa_r (k + 8), xa_r (k + 9), xa_r (k + 10), xa_r (k + 11), xa_r (k + 12), xa_i 0, xa_i (s 14), xa_i x, xa_r (k + 13), xa_i (s 17), xa_i (s 18), xa_i (s 19), xa_i (-4), xa_r (k + 14), xa_r (k + 15), xa_i (s 23), xa_r (k + 16)] := (oh26 _ (by omega)).trans hM0
                                                have hM1 : h26.1 (k + 1) = xa_a 120 (F' 1) := (oh26 _ (by omega)).trans hM1
                                                have hM2 : h26.1 (k + 2) = xa_a 2 (xa_upf (F' 2) 0 ((F' 2) 1)) := (oh26 _ (by omega)).trans hM2
                                                have hM3 : h26.1 (k + 3) = xa_a 18 (xa_upf (xa_upf (xa_upf (xa_upf (xa_upf (xa_upf (xa_upf (xa_upf (xa_upf (F' 3) 0 (F' 3 9)) 1 (F' 3 10)) 2 (F' 3 11)) 3 (F' 3 12)) 4 (F' 3 13)) 5 (F' 3 14)) 6 (F' 3 15)) 7 (F' 3 16)) 8 (F' 3 17)) := (oh26 _ (by omega)).trans hM3
                                                have hM4 : h26.1 (k + 4) = xa_a 2 (xa_upf (F' 4) 0 ((F' 4) 1)) := (oh26 _ (by omega)).trans hM4
                                                have hM5 : h26.1 (k + 5) = xa_a 4 (xa_upf (xa_upf (F' 5) 0 (F' 5 2)) 1 (F' 5 3)) := (oh26 _ (by omega)).trans hM5
                                                have hM6 : h26.1 (k + 6) = xa_a 4 (xa_upf (xa_upf (F' 6) 0 (F' 6 2)) 1 (F' 6 3)) := (oh26 _ (by omega)).trans hM6
                                                have hM7 : h26.1 (k + 7) = xa_a 2 (xa_upf (F' 7) 0 ((F' 7) 1)) := (oh26 _ (by omega)).trans hM7
                                                have hM8 : h26.1 (k + 8) = xa_a 2 (xa_upf (F' 8) 0 ((F' 8) 1)) := (oh26 _ (by omega)).trans hM8
                                                have hM9 : h26.1 (k + 9) = xa_a 12 (xa_upf (xa_upf (xa_upf (xa_upf (F' 9) 0 0) 1 0) 2 0) 3 0) := (oh26 _ (by omega)).trans hM9
                                                have hM10 : h26.1 (k + 10) = xa_a 720 (F' 10) := (oh26 _ (by omega)).trans hM10
                                                have hM11 : h26.1 (k + 11) = xa_a 3 (xa_upf (F' 11) 0 0) := (oh26 _ (by omega)).trans hM11
                                                have hM12 : h26.1 (k + 12) = xa_a 360 (F' 12) := (oh26 _ (by omega)).trans hM12
                                                have hM13 : h26.1 (k + 13) = xa_a 3 (F' 13) := (oh26 _ (by omega)).trans hM13
                                                have hM14 : h26.1 (k + 14) = xa_a 583200 (F' 14) := (oh26 _ (by omega)).trans hM14
                                                have hM15 : h26.1 (k + 15) = xa_a 583200 (F' 15) := (oh26 _ (by omega)).trans hM15
                                                have hn : h26.2 = h.2 := nh26.trans hn
                                                have fr : ∀ i, (i < k ∨ k + 17 ≤ i) → h26.1 i = h.1 i := fun i hi => (oh26 i (by omega)).trans (fr i hi)
                                                refine xa_iincw (pc := 209) (y := 2) [some (xa_r k), some (xa_i 2)] dX10_lay_209 (by decide) rfl rfl rfl rfl ?_
                                                refine xa_goto (pc := 212) (tgt := 197) dX10_lay_212 (by decide) ?_
                                                refine xa_iload_n (pc := 197) dX10_lay_197 rfl ?_
                                                refine xa_iconst (pc := 198) dX10_lay_198 ?_
                                                refine xa_icmp_ge (pc := 199) (tgt := 215) dX10_lay_199 (by decide) (by decide) (by decide) (fun c_199 => ?_) (fun c_199 => ?_)
                                                · skip
                                                  exfalso; omega
                                                · skip
                                                  refine xa_aload_n (pc := 202) dX10_lay_202 rfl ?_
                                                  refine xa_getfield (pc := 203) dX10_lay_203 flRX10_60 (by omega) (by omega) hM0 rfl ?_
                                                  refine xa_iload_n (pc := 206) dX10_lay_206 rfl ?_
                                                  refine xa_iconst (pc := 207) dX10_lay_207 ?_
                                                  refine xa_iastw (pc := 208) 2 dX10_lay_208 (by omega) (by omega) hM16 (by omega) (by omega) rfl (fun h27 nh27 ch27 oh27 => ?_)
                                                  have hM16 : h27.1 (k + 16) = xa_a 4 (xa_upf (xa_upf (xa_upf (F' 16) 0 0) 1 0) 2 0) := ch27
                                                  have hM0 : h27.1 k = xa_o 10 [xa_i (s 0), xa_r (k + 1), xa_r (k + 2), xa_r (k + 3), xa_r (k + 4), xa_r (k + 5), xa_r (k + 6), xa_r (k + 7), xa_r (k + 8), xa_r (k + 9), xa_r (k + 10), xa_r (k + 11), xa_r (k + 12), xa_i 0, xa_i (s 14), xa_i x, xa_r (k + 13), xa_i (s 17), xa_i (s 18), xa_i (s 19), xa_i (-4), xa_r (k + 14), xa_r (k + 15), xa_i (s 23), xa_r (k + 16)] := (oh27 _ (by omega)).trans hM0
                                                  have hM1 : h27.1 (k + 1) = xa_a 120 (F' 1) := (oh27 _ (by omega)).trans hM1
                                                  have hM2 : h27.1 (k + 2) = xa_a 2 (xa_upf (F' 2) 0 ((F' 2) 1)) := (oh27 _ (by omega)).trans hM2
                                                  have hM3 : h27.1 (k + 3) = xa_a 18 (xa_upf (xa_upf (xa_upf (xa_upf (xa_upf (xa_upf (xa_upf (xa_upf (xa_upf (F' 3) 0 (F' 3 9)) 1 (F' 3 10)) 2 (F' 3 11)) 3 (F' 3 12)) 4 (F' 3 13)) 5 (F' 3 14)) 6 (F' 3 15)) 7 (F' 3 16)) 8 (F' 3 17)) := (oh27 _ (by omega)).trans hM3
                                                  have hM4 : h27.1 (k + 4) = xa_a 2 (xa_upf (F' 4) 0 ((F' 4) 1)) := (oh27 _ (by omega)).trans hM4
                                                  have hM5 : h27.1 (k + 5) = xa_a 4 (xa_upf (xa_upf (F' 5) 0 (F' 5 2)) 1 (F' 5 3)) := (oh27 _ (by omega)).trans hM5
                                                  have hM6 : h27.1 (k + 6) = xa_a 4 (xa_upf (xa_upf (F' 6) 0 (F' 6 2)) 1 (F' 6 3)) := (oh27 _ (by omega)).trans hM6
                                                  have hM7 : h27.1 (k + 7) = xa_a 2 (xa_upf (F' 7) 0 ((F' 7) 1)) := (oh27 _ (by omega)).trans hM7
                                                  have hM8 : h27.1 (k + 8) = xa_a 2 (xa_upf (F' 8) 0 ((F' 8) 1)) := (oh27 _ (by omega)).trans hM8
                                                  have hM9 : h27.1 (k + 9) = xa_a 12 (xa_upf (xa_upf (xa_upf (xa_upf (F' 9) 0 0) 1 0) 2 0) 3 0) := (oh27 _ (by omega)).trans hM9
                                                  have hM10 : h27.1 (k + 10) = xa_a 720 (F' 10) := (oh27 _ (by omega)).trans hM10
                                                  have hM11 : h27.1 (k + 11) = xa_a 3 (xa_upf (F' 11) 0 0) := (oh27 _ (by omega)).trans hM11
                                                  have hM12 : h27.1 (k + 12) = xa_a 360 (F' 12) := (oh27 _ (by omega)).trans hM12
                                                  have hM13 : h27.1 (k + 13) = xa_a 3 (F' 13) := (oh27 _ (by omega)).trans hM13
                                                  have hM14 : h27.1 (k + 14) = xa_a 583200 (F' 14) := (oh27 _ (by omega)).trans hM14
                                                  have hM15 : h27.1 (k + 15) = xa_a 583200 (F' 15) := (oh27 _ (by omega)).trans hM15
                                                  have hn : h27.2 = h.2 := nh27.trans hn
                                                  have fr : ∀ i, (i < k ∨ k + 17 ≤ i) → h27.1 i = h.1 i := fun i hi => (oh27 i (by omega)).trans (fr i hi)
                                                  refine xa_iincw (pc := 209) (y := 3) [some (xa_r k), some (xa_i 3)] dX10_lay_209 (by decide) rfl rfl rfl rfl ?_
                                                  refine xa_goto (pc := 212) (tgt := 197) dX10_lay_212 (by decide) ?_
                                                  refine xa_iload_n (pc := 197) dX10_lay_197 rfl ?_
                                                  refine xa_iconst (pc := 198) dX10_lay_198 ?_
                                                  refine xa_icmp_ge (pc := 199) (tgt := 215) dX10_lay_199 (by decide) (by decide) (by decide) (fun c_199 => ?_) (fun c_199 => ?_)
                                                  · skip
                                                    exfalso; omega
                                                  · skip
                                                    refine xa_aload_n (pc := 202) dX10_lay_202 rfl ?_
                                                    refine xa_getfield (pc := 203) dX10_lay_203 flRX10_60 (by omega) (by omega) hM0 rfl ?_
                                                    refine xa_iload_n (pc := 206) dX10_lay_206 rfl ?_
                                                    refine xa_iconst (pc := 207) dX10_lay_207 ?_
                                                    refine xa_iastw (pc := 208) 3 dX10_lay_208 (by omega) (by omega) hM16 (by omega) (by omega) rfl (fun h28 nh28 ch28 oh28 => ?_)
                                                    have hM16 : h28.1 (k + 16) = xa_a 4 (xa_upf (xa_upf (xa_upf (xa_upf (F' 16) 0 0) 1 0) 2 0) 3 0) := ch28
                                                    have hM0 : h28.1 k = xa_o 10 [xa_i (s 0), xa_r (k + 1), xa_r (k + 2), xa_r (k + 3), xa_r (k + 4), xa_r (k + 5), xa_r (k + 6), xa_r (k + 7), xa_r (k + 8), xa_r (k + 9), xa_r (k + 10), xa_r (k + 11), xa_r (k + 12), xa_i 0, xa_i (s 14), xa_i x, xa_r (k + 13), xa_i (s 17), xa_i (s 18), xa_i (s 19), xa_i (-4), xa_r (k + 14), xa_r (k + 15), xa_i (s 23), xa_r (k + 16)] := (oh28 _ (by omega)).trans hM0
                                                    have hM1 : h28.1 (k + 1) = xa_a 120 (F' 1) := (oh28 _ (by omega)).trans hM1
                                                    have hM2 : h28.1 (k + 2) = xa_a 2 (xa_upf (F' 2) 0 ((F' 2) 1)) := (oh28 _ (by omega)).trans hM2
                                                    have hM3 : h28.1 (k + 3) = xa_a 18 (xa_upf (xa_upf (xa_upf (xa_upf (xa_upf (xa_upf (xa_upf (xa_upf (xa_upf (F' 3) 0 (F' 3 9)) 1 (F' 3 10)) 2 (F' 3 11)) 3 (F' 3 12)) 4 (F' 3 13)) 5 (F' 3 14)) 6 (F' 3 15)) 7 (F' 3 16)) 8 (F' 3 17)) := (oh28 _ (by omega)).trans hM3
                                                    have hM4 : h28.1 (k + 4) = xa_a 2 (xa_upf (F' 4) 0 ((F' 4) 1)) := (oh28 _ (by omega)).trans hM4
                                                    have hM5 : h28.1 (k + 5) = xa_a 4 (xa_upf (xa_upf (F' 5) 0 (F' 5 2)) 1 (F' 5 3)) := (oh28 _ (by omega)).trans hM5
                                                    have hM6 : h28.1 (k + 6) = xa_a 4 (xa_upf (xa_upf (F' 6) 0 (F' 6 2)) 1 (F' 6 3)) := (oh28 _ (by omega)).trans hM6
                                                    have hM7 : h28.1 (k + 7) = xa_a 2 (xa_upf (F' 7) 0 ((F' 7) 1)) := (oh28 _ (by omega)).trans hM7
                                                    have hM8 : h28.1 (k + 8) = xa_a 2 (xa_upf (F' 8) 0 ((F' 8) 1)) := (oh28 _ (by omega)).trans hM8
                                                    have hM9 : h28.1 (k + 9) = xa_a 12 (xa_upf (xa_upf (xa_upf (xa_upf (F' 9) 0 0) 1 0) 2 0) 3 0) := (oh28 _ (by omega)).trans hM9
                                                    have hM10 : h28.1 (k + 10) = xa_a 720 (F' 10) := (oh28 _ (by omega)).trans hM10
                                                    have hM11 : h28.1 (k + 11) = xa_a 3 (xa_upf (F' 11) 0 0) := (oh28 _ (by omega)).trans hM11
                                                    have hM12 : h28.1 (k + 12) = xa_a 360 (F' 12) := (oh28 _ (by omega)).trans hM12
                                                    have hM13 : h28.1 (k + 13) = xa_a 3 (F' 13) := (oh28 _ (by omega)).trans hM13
                                                    have hM14 : h28.1 (k + 14) = xa_a 583200 (F' 14) := (oh28 _ (by omega)).trans hM14
                                                    have hM15 : h28.1 (k + 15) = xa_a 583200 (F' 15) := (oh28 _ (by omega)).trans hM15
                                                    have hn : h28.2 = h.2 := nh28.trans hn
                                                    have fr : ∀ i, (i < k ∨ k + 17 ≤ i) → h28.1 i = h.1 i := fun i hi => (oh28 i (by omega)).trans (fr i hi)
                                                    refine xa_iincw (pc := 209) (y := 4) [some (xa_r k), some (xa_i 4)] dX10_lay_209 (by decide) rfl rfl rfl rfl ?_
                                                    refine xa_goto (pc := 212) (tgt := 197) dX10_lay_212 (by decide) ?_
                                                    refine xa_iload_n (pc := 197) dX10_lay_197 rfl ?_
                                                    refine xa_iconst (pc := 198) dX10_lay_198 ?_
                                                    refine xa_icmp_ge (pc := 199) (tgt := 215) dX10_lay_199 (by decide) (by decide) (by decide) (fun c_199 => ?_) (fun c_199 => ?_)
                                                    · skip
                                                      refine xa_aload_n (pc := 215) dX10_lay_215 rfl ?_
                                                      refine xa_getfield (pc := 216) dX10_lay_216 flRX10_13 (by omega) (by omega) hM0 rfl ?_
                                                      refine xa_iconst (pc := 219) dX10_lay_219 ?_
                                                      refine xa_ialdw (pc := 220) 0 dX10_lay_220 (by omega) hM2 (by omega) (by omega) rfl ?_
                                                      refine xa_ireturn (pc := 221) dX10_lay_221 rfl trivial ?_
                                                      have hz : (rd_go n (F 1) 120 0 (rd_b0 ld dg)).1 = none := rd_res_none.mp (by omega)
                                                      obtain ⟨d1, d2, d3, d4, d5, d6, d7⟩ := hD hz
                                                      obtain ⟨b1, b2, b3, b4, b5, b6, b7⟩ := hBd1
                                                      obtain ⟨⟨f1, f2, f3, f4, f5, f6, f7, f8⟩, -⟩ := hfr
                                                      generalize hG : (rd_go n (F 1) 120 0 (rd_b0 ld dg)).2 = G at *
                                                      have hv3 := hv.1
                                                      refine ⟨Or.inl ⟨⟨hz, by omega, by omega⟩, xa_uF (xa_uF (xa_uF (xa_uF (xa_uF (xa_uF (xa_uF (xa_uF (xa_uF (xa_uF F' 2 (xa_upf (F' 2) 0 ((F' 2) 1))) 3 (xa_upf (xa_upf (xa_upf (xa_upf (xa_upf (xa_upf (xa_upf (xa_upf (xa_upf (F' 3) 0 (F' 3 9)) 1 (F' 3 10)) 2 (F' 3 11)) 3 (F' 3 12)) 4 (F' 3 13)) 5 (F' 3 14)) 6 (F' 3 15)) 7 (F' 3 16)) 8 (F' 3 17))) 4 (xa_upf (F' 4) 0 ((F' 4) 1))) 5 (xa_upf (xa_upf (F' 5) 0 (F' 5 2)) 1 (F' 5 3))) 6 (xa_upf (xa_upf (F' 6) 0 (F' 6 2)) 1 (F' 6 3))) 7 (xa_upf (F' 7) 0 ((F' 7) 1))) 8 (xa_upf (F' 8) 0 ((F' 8) 1))) 9 (xa_upf (xa_upf (xa_upf (xa_upf (F' 9) 0 0) 1 0) 2 0) 3 0)) 11 (xa_upf (F' 11) 0 0)) 16 (xa_upf (xa_upf (xa_upf (xa_upf (F' 16) 0 0) 1 0) 2 0) 3 0), xa_upf (xa_upf (xa_upf s 13 0) 15 x) 20 (-4), congrArg (fun z => some (xa_i z)) (show (xa_upf (F' 2) 0 ((F' 2) 1)) 0 = ((G.2.2.1 : Nat) : Int) from d1), ⟨⟨d1, d2, fun i hi => ?_, fun j hj => ?_, fun j hj => ?_⟩, d6, d7, ⟨(xa_upf_b (xa_upf_b (xa_upf_b (xa_upf_b (xa_upf_b (xa_upf_b (xa_upf_b (xa_upf_b (xa_upf_b b1 (b1 _)) (b1 _)) (b1 _)) (b1 _)) (b1 _)) (b1 _)) (b1 _)) (b1 _)) (b1 _)), (xa_upf_b (xa_upf_b b2 (b2 _)) (b2 _)), (xa_upf_b (xa_upf_b b3 (b3 _)) (b3 _)), (xa_upf_b b4 (b4 _)), (xa_upf_b b5 (b5 _)), (xa_upf_b b6 (b6 _)), (xa_upf_b b7 (b7 _))⟩, f1, f3, f5, fun i => ?_, fun i => ?_, fun i hi => ?_, rfl, rfl, rfl⟩, ⟨hM0, hM1, hM2, hM3, hM4, hM5, hM6, hM7, hM8, hM9, hM10, hM11, hM12, hM13, hM14, hM15, hM16, by omega, by omega⟩⟩, hn, fr⟩
                                                      · have q : i = 0 ∨ i = 1 ∨ i = 2 ∨ i = 3 ∨ i = 4 ∨ i = 5 ∨ i = 6 ∨ i = 7 ∨ i = 8 := by omega
                                                        have q3 := d3 i hi
                                                        rcases q with rfl | rfl | rfl | rfl | rfl | rfl | rfl | rfl | rfl <;> exact q3
                                                      · have q : j = 0 ∨ j = 1 := by omega
                                                        have q3 := d4 j hj
                                                        rcases q with rfl | rfl <;> exact q3
                                                      · have q : j = 0 ∨ j = 1 := by omega
                                                        have q3 := d5 j hj
                                                        rcases q with rfl | rfl <;> exact q3
                                                      · show (xa_upf (xa_upf (xa_upf (xa_upf (F' 9) 0 0) 1 0) 2 0) 3 0) i = _
                                                        rw [← f2]
                                                        unfold xa_upf
                                                        repeat' split
                                                        all_goals first | rfl | omega
                                                      · show (xa_upf (F' 11) 0 0) i = _
                                                        rw [← f4]
                                                        unfold xa_upf
                                                        repeat' split
                                                        all_goals first | rfl | omega
                                                      · have q : i = 0 ∨ i = 1 ∨ i = 2 ∨ i = 3 := by omega
                                                        rcases q with rfl | rfl | rfl | rfl <;> rfl
                                                    · skip
                                                      exfalso; omega
                                          · skip
                                            exfalso; omega
                                · skip
                                  exfalso; omega
                          · skip
                            exfalso; omega
      · skip
        refine xa_bipush (pc := 36) dX10_lay_36 rfl ?_
        refine xa_ireturn (pc := 38) dX10_lay_38 rfl trivial ?_
        have hno : ¬ ((rd_go n (F 1) 120 0 (rd_b0 ld dg)).1 = none ∧ (2 ≤ (rd_go n (F 1) 120 0 (rd_b0 ld dg)).2.2.2.1 ∧ (rd_go n (F 1) 120 0 (rd_b0 ld dg)).2.2.2.1 = (rd_go n (F 1) 120 0 (rd_b0 ld dg)).2.2.2.2.1 + 1)) := by
          rintro ⟨z, z1, z2⟩
          obtain ⟨d1, d2, -⟩ := hD z
          have z3 := rd_res_none.mpr z
          generalize hG : rd_go n (F 1) 120 0 (rd_b0 ld dg) = G at *
          omega
        exact ⟨Or.inr ⟨hno, rfl, F', x, hBd1, hfr, ⟨hM0, hM1, hM2, hM3, hM4, hM5, hM6, hM7, hM8, hM9, hM10, hM11, hM12, hM13, hM14, hM15, hM16, by omega, by omega⟩⟩, hn, fr⟩
