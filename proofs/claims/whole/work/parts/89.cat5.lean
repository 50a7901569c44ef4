/-! The class: fault, lay, free, fewest, keep, back -/
theorem sm_same {ld ld2 dg dg2 : Nat → Int} {pa jo : Nat} {c : Int} (h : sp_sm (sp_sm c ld ld2 (pa * 3)) dg dg2 jo ≠ 0) (hj : 1 ≤ jo) (hp : 1 ≤ pa) : c ≠ 0 ∧ (∀ i, i < 3 * pa → ld i = ld2 i) ∧ ∀ j, j < jo → dg j = dg2 j := by
  obtain ⟨h1, h2⟩ := (sp_sm_1 dg dg2 jo (fun z => by omega)).mp h
  obtain ⟨h3, h4⟩ := (sp_sm_1 ld ld2 (pa * 3) (fun z => by omega)).mp h1
  exact ⟨h3, fun i hi => h4 i (by omega), h2⟩
/-- the answer of the loops -/
def lpq (ld dg : Nat → Int) (pa jo : Nat) (wa sr J : Int) : Nat := 360 / lp_M ld dg pa jo wa sr J
theorem lpq_le (ld dg : Nat → Int) (pa jo : Nat) (wa sr J : Int) : lpq ld dg pa jo wa sr J ≤ 360 := Nat.div_le_self _ _
theorem lpq_fr {ld dg : Nat → Int} {pa jo : Nat} {wa sr pu ri J : Int} (hB : vB ld dg pa jo wa sr pu ri) : fr_is ld dg pa jo wa sr J ((lpq ld dg pa jo wa sr J : Nat) : Int) := lp_fr hB
/-- where a search's links lie -/
def FL (k l n : Nat) : Prop := (k + 12 ≤ l ∨ l = k + 3) ∧ l < n

theorem c_xFault {G : xa_G} {h : xa_H} (k : Nat) (kp : Int) (n p : Nat) (f nu ld2 dg2 : Nat → Int) (pa2 jo2 : Nat) (wa2 sr2 pu2 ri2 : Int) (go : Option Nat) (ld3 dg3 : Nat → Int) (pa3 jo3 : Nat) (wa3 sr3 pu3 ri3 : Int) (hgo : rd_go n f 120 0 (rd_b0 ld2 dg2) = (go, ld3, dg3, pa3, jo3, wa3, sr3, pu3, ri3)) (hl2 : ∀ i, 0 ≤ ld2 i ∧ ld2 i ≤ 99) (hd2 : ∀ i, 0 ≤ dg2 i ∧ dg2 i ≤ 120) (hnu : ∀ i, -9999 ≤ nu i ∧ nu i ≤ 9999) (hW : h.1 1 = xa_a 8 xa_wagf) (hT : xT h (k + 1) n f) (hD : xB h (k + 6) ld2 dg2 pa2 jo2 wa2 sr2 pu2 ri2) (hR : xRd h (k + 9) (k + 1) (k + 6) nu p) (hX : xX0 h k kp)  : xa_M G mX9_fault [xa_r k] h 0 0 (fun r h' => r = some (xa_i (rd_res go)) ∧ (xB h' (k + 6) ld3 dg3 pa3 jo3 wa3 sr3 pu3 ri3 ∧ vD (ld3, dg3, pa3, jo3, wa3, sr3, pu3, ri3) ∧ ∃ (p' : Nat) (nu' : Nat → Int), xRd h' (k + 9) (k + 1) (k + 6) nu' p' ∧ ∀ i, -9999 ≤ nu' i ∧ nu' i ≤ 9999) ∧ h'.2 = h.2 ∧ ∀ i, (i < k + 6 ∨ k + 11 ≤ i) → h'.1 i = h.1 i) := by
  refine xa_enter (by decide +kernel) (Nat.le_of_ble_eq_true rfl) ?_
  refine xa_locals (ls' := [some (xa_r k)]) rfl ?_
  have hn : h.2 = h.2 := rfl
  have fr : ∀ i, (i < k + 6 ∨ k + 11 ≤ i) → h.1 i = h.1 i := fun _ _ => rfl
  obtain ⟨hX0, hk, hkn⟩ := hX
  obtain ⟨hT0, hT1, hTk, hTn, hTl, hTf⟩ := hT
  obtain ⟨hD0, hD1, hD2, hDk, hDn⟩ := hD
  obtain ⟨hR0, hR1, hRk, hRn⟩ := hR
  refine xa_aload_n (pc := 0) dX9_fault_0 rfl ?_
  refine xa_getfield (pc := 1) dX9_fault_1 flRX9_31 (by omega) (by omega) hX0 rfl ?_
  refine xa_callV (pc := 4) (as := []) (rest := []) dX9_fault_4 ⟨qX2_firstFault.1, qX2_firstFault.2.1, qX2_firstFault.2.2, by decide, by decide⟩ lkRX9_100 imX2_firstFault seX2_firstFault rfl rfl (by omega) (by omega) hR0 rfl (Nat.le_of_ble_eq_true rfl) (Nat.zero_le _) (Nat.zero_le _) (c_firstFault (k + 9) (k + 1) (k + 6) n p f nu ld2 dg2 pa2 jo2 wa2 sr2 pu2 ri2 (by omega) (by omega) (by omega) hl2 hd2 hnu (by first | exact hW | (rw [fr 1 (by omega)]; exact hW)) ⟨hR0, hR1, by omega, by omega⟩ ⟨hT0, hT1, by omega, by omega, by omega, hTf⟩ ⟨hD0, hD1, hD2, by omega, by omega⟩) (fun r h' hq => ?_)
  rw [hgo] at hq
  dsimp only at hq
  obtain ⟨rfl, hqD, hvD, ⟨p', nu', ⟨hR0, hR1, -, -⟩, hnu'⟩, hqn, hqf⟩ := hq
  have hqD : xB h' (k + 6) ld3 dg3 pa3 jo3 wa3 sr3 pu3 ri3 := hqD
  obtain ⟨hD0, hD1, hD2, -, -⟩ := hqD
  have hv1 : pa3 ≤ 3 ∧ jo3 ≤ 2 := hvD.1
  have hrb := rd_res_b n f 120 0 (rd_b0 ld2 dg2) ⟨by omega, by omega⟩
  rw [hgo] at hrb
  have hrb : xa_ok (rd_res go) := hrb
  have hD0 : h'.1 (k + 6) = xa_o 0 [xa_r (k + 6 + 1), xa_r (k + 6 + 2), xa_i ((pa3 : Nat) : Int), xa_i ((jo3 : Nat) : Int), xa_i wa3, xa_i sr3, xa_i pu3, xa_i ri3] := hD0
  have hD1 : h'.1 (k + 6 + 1) = xa_a 9 ld3 := hD1
  have hD2 : h'.1 (k + 6 + 2) = xa_a 2 dg3 := hD2
  have hR0 : h'.1 (k + 9) = xa_o 2 [xa_r (k + 1), xa_r (k + 6), xa_r (k + 9 + 1), xa_i ((p' : Nat) : Int)] := hR0
  have hR1 : h'.1 (k + 9 + 1) = xa_a 3 nu' := hR1
  have hX0 : h'.1 k = xa_o 9 [xa_r (k + 1), xa_r (k + 3), xa_r (k + 6), xa_r (k + 9), xa_r (k + 11), xa_r (k + 15), xa_i kp, xa_r (k + 24), xa_r (k + 31), xa_r (k + 32), xa_r (k + 36), xa_r (k + 48), xa_r (k + 60)] := (hqf _ (by omega)).trans hX0
  have hT0 : h'.1 (k + 1) = xa_o 7 [xa_r (k + 1 + 1), xa_i ((n : Nat) : Int)] := (hqf _ (by omega)).trans hT0
  have hT1 : h'.1 (k + 1 + 1) = xa_a 120 f := (hqf _ (by omega)).trans hT1
  have hn : h'.2 = h.2 := hqn.trans hn
  have fr : ∀ i, (i < k + 6 ∨ k + 11 ≤ i) → h'.1 i = h.1 i := fun i hi => (hqf i (by omega)).trans (fr i hi)
  refine xa_ireturn (pc := 7) dX9_fault_7 rfl trivial ?_
  exact ⟨rfl, ⟨⟨hD0, hD1, hD2, by omega, by omega⟩, hvD, p', nu', ⟨hR0, hR1, by omega, by omega⟩, hnu'⟩, hn, fr⟩
theorem vD_wok {b : xBt} (h : vD b) : xa_ok b.2.2.2.2.1 := by
  have h1 := h.1
  rcases h.2.2.2.2.2.1 with z | ⟨w, z, z1, -⟩
  · exact ⟨by omega, by omega⟩
  · exact ⟨by omega, by omega⟩
theorem vD_pr {b : xBt} (h : vD b) : xa_ok b.2.2.2.2.2.2.1 ∧ xa_ok b.2.2.2.2.2.2.2 := by
  have h1 := h.2.2.2.2.2.2.1
  have h2 := h.2.2.2.2.2.2.2
  exact ⟨⟨by omega, by omega⟩, ⟨by omega, by omega⟩⟩
set_option maxHeartbeats 4000000 in
theorem c_xLay {G : xa_G} {h : xa_H} (k : Nat) (kp : Int) (ld dg : Nat → Int) (pa jo : Nat) (wa sr pu ri : Int) (mv le fi : Nat → Int) (pc : Nat) (n p : Nat) (f nu ld2 dg2 : Nat → Int) (pa2 jo2 : Nat) (wa2 sr2 pu2 ri2 : Int) (go : Option Nat) (ld3 dg3 : Nat → Int) (pa3 jo3 : Nat) (wa3 sr3 pu3 ri3 : Int) (hgo : rd_go n f 120 0 (rd_b0 ld2 dg2) = (go, ld3, dg3, pa3, jo3, wa3, sr3, pu3, ri3)) (hl2 : ∀ i, 0 ≤ ld2 i ∧ ld2 i ≤ 99) (hd2 : ∀ i, 0 ≤ dg2 i ∧ dg2 i ≤ 120) (hnu : ∀ i, -9999 ≤ nu i ∧ nu i ≤ 9999) (hW : h.1 1 = xa_a 8 xa_wagf) (hT : xT h (k + 1) n f) (hD : xB h (k + 6) ld2 dg2 pa2 jo2 wa2 sr2 pu2 ri2) (hR : xRd h (k + 9) (k + 1) (k + 6) nu p) (l1 l2 l3 : Nat) (r1 o1 f1 u1 b1 t1 m1 r2 o2 f2 u2 b2 t2 m2 r3 o3 f3 u3 b3 t3 m3 : Int) (fl1 : FL (k + 36) l1 h.2) (fl2 : FL (k + 48) l2 h.2) (fl3 : FL (k + 60) l3 h.2) (hE1 : h.1 (k + 36) = xa_o 3 [xa_r (k + 3), xa_r (k + 36 + 4), xa_r (k + 36 + 1), xa_r (k + 36 + 2), xa_r l1, xa_i r1, xa_i o1, xa_i f1, xa_i u1, xa_i b1, xa_i t1, xa_i m1]) (hE2 : h.1 (k + 48) = xa_o 3 [xa_r (k + 3), xa_r (k + 48 + 4), xa_r (k + 48 + 1), xa_r (k + 48 + 2), xa_r l2, xa_i r2, xa_i o2, xa_i f2, xa_i u2, xa_i b2, xa_i t2, xa_i m2]) (hE3 : h.1 (k + 60) = xa_o 3 [xa_r (k + 3), xa_r (k + 60 + 4), xa_r (k + 60 + 1), xa_r (k + 60 + 2), xa_r l3, xa_i r3, xa_i o3, xa_i f3, xa_i u3, xa_i b3, xa_i t3, xa_i m3]) (hB9 : vB ld dg pa jo wa sr pu ri) (hX : xX0 h k kp) (hB : xB h (k + 3) ld dg pa jo wa sr pu ri) (hH : xH h (k + 11) mv le fi pc)  : xa_M G mX9_lay [xa_r k] h 0 0 (fun r h' => ((¬ (go = none ∧ 2 ≤ pa3 ∧ pa3 = jo3 + 1) ∧ r = some (xa_i (-2)) ∧ (xB h' (k + 6) ld3 dg3 pa3 jo3 wa3 sr3 pu3 ri3 ∧ vD (ld3, dg3, pa3, jo3, wa3, sr3, pu3, ri3) ∧ ∃ (p' : Nat) (nu' : Nat → Int), xRd h' (k + 9) (k + 1) (k + 6) nu' p' ∧ ∀ i, -9999 ≤ nu' i ∧ nu' i ≤ 9999) ∧ xX0 h' k kp ∧ xB h' (k + 3) ld dg pa jo wa sr pu ri ∧ xH h' (k + 11) mv le fi pc ∧ h'.1 (k + 36) = xa_o 3 [xa_r (k + 3), xa_r (k + 36 + 4), xa_r (k + 36 + 1), xa_r (k + 36 + 2), xa_r l1, xa_i r1, xa_i o1, xa_i f1, xa_i u1, xa_i b1, xa_i t1, xa_i m1] ∧ h'.1 (k + 48) = xa_o 3 [xa_r (k + 3), xa_r (k + 48 + 4), xa_r (k + 48 + 1), xa_r (k + 48 + 2), xa_r l2, xa_i r2, xa_i o2, xa_i f2, xa_i u2, xa_i b2, xa_i t2, xa_i m2] ∧ h'.1 (k + 60) = xa_o 3 [xa_r (k + 3), xa_r (k + 60 + 4), xa_r (k + 60 + 1), xa_r (k + 60 + 2), xa_r l3, xa_i r3, xa_i o3, xa_i f3, xa_i u3, xa_i b3, xa_i t3, xa_i m3]) ∨ ((go = none ∧ 2 ≤ pa3 ∧ pa3 = jo3 + 1) ∧ r = some (xa_i ((pa3 : Nat) : Int)) ∧ (xB h' (k + 6) ld3 dg3 pa3 jo3 wa3 sr3 pu3 ri3 ∧ vD (ld3, dg3, pa3, jo3, wa3, sr3, pu3, ri3) ∧ ∃ (p' : Nat) (nu' : Nat → Int), xRd h' (k + 9) (k + 1) (k + 6) nu' p' ∧ ∀ i, -9999 ≤ nu' i ∧ nu' i ≤ 9999) ∧ xX0 h' k 0 ∧ xH h' (k + 11) mv (xa_fl le 4 0) fi 0 ∧ ((((pa3 = pa ∧ jo3 = jo ∧ wa3 = wa ∧ pu3 = pu ∧ ri3 = ri) ∧ (∀ i, i < 3 * pa3 → ld3 i = ld i) ∧ ∀ j, j < jo3 → dg3 j = dg j) ∧ xB h' (k + 3) ld dg pa jo wa sr pu ri ∧ h'.1 (k + 36) = xa_o 3 [xa_r (k + 3), xa_r (k + 36 + 4), xa_r (k + 36 + 1), xa_r (k + 36 + 2), xa_r l1, xa_i r1, xa_i o1, xa_i f1, xa_i u1, xa_i b1, xa_i t1, xa_i m1] ∧ h'.1 (k + 48) = xa_o 3 [xa_r (k + 3), xa_r (k + 48 + 4), xa_r (k + 48 + 1), xa_r (k + 48 + 2), xa_r l2, xa_i r2, xa_i o2, xa_i f2, xa_i u2, xa_i b2, xa_i t2, xa_i m2] ∧ h'.1 (k + 60) = xa_o 3 [xa_r (k + 3), xa_r (k + 60 + 4), xa_r (k + 60 + 1), xa_r (k + 60 + 2), xa_r l3, xa_i r3, xa_i o3, xa_i f3, xa_i u3, xa_i b3, xa_i t3, xa_i m3]) ∨ (xB h' (k + 3) (sp_cp ld ld3 9) (sp_cp dg dg3 2) pa3 jo3 wa3 sr3 pu3 ri3 ∧ h'.1 (k + 36) = xa_o 3 [xa_r (k + 3), xa_r (k + 36 + 4), xa_r (k + 36 + 1), xa_r (k + 36 + 2), xa_r l1, xa_i 0, xa_i o1, xa_i f1, xa_i u1, xa_i b1, xa_i t1, xa_i m1] ∧ h'.1 (k + 48) = xa_o 3 [xa_r (k + 3), xa_r (k + 48 + 4), xa_r (k + 48 + 1), xa_r (k + 48 + 2), xa_r l2, xa_i 0, xa_i o2, xa_i f2, xa_i u2, xa_i b2, xa_i t2, xa_i m2] ∧ h'.1 (k + 60) = xa_o 3 [xa_r (k + 3), xa_r (k + 60 + 4), xa_r (k + 60 + 1), xa_r (k + 60 + 2), xa_r l3, xa_i 0, xa_i o3, xa_i f3, xa_i u3, xa_i b3, xa_i t3, xa_i m3])))) ∧ h'.2 = h.2 ∧ ∀ i, (i ≠ k ∧ (i < k + 3 ∨ k + 15 ≤ i) ∧ i ≠ k + 36 ∧ i ≠ k + 48 ∧ i ≠ k + 60) → h'.1 i = h.1 i) := by
  refine xa_enter (by decide +kernel) (Nat.le_of_ble_eq_true rfl) ?_
  refine xa_locals (ls' := [some (xa_r k)]) rfl ?_
  have hn : h.2 = h.2 := rfl
  have fr : ∀ i, (i ≠ k ∧ (i < k + 3 ∨ k + 15 ≤ i) ∧ i ≠ k + 36 ∧ i ≠ k + 48 ∧ i ≠ k + 60) → h.1 i = h.1 i := fun _ _ => rfl
  obtain ⟨hX0, hk, hkn⟩ := hX
  obtain ⟨hT0, hT1, hTk, hTn, hTl, hTf⟩ := hT
  obtain ⟨hD0, hD1, hD2, hDk, hDn⟩ := hD
  obtain ⟨hR0, hR1, hRk, hRn⟩ := hR
  obtain ⟨hB0, hB1, hB2, hBk, hBn⟩ := hB
  obtain ⟨hH0, hH1, hH2, hH3, hHk, hHn⟩ := hH
  have h0' := hB9.1
  have hwq := hB9.wag
  have hwa : xa_ok wa := by omega
  have hpu := hB9.2.2.2.2.2.2.1
  have hri := hB9.2.2.2.2.2.2.2
  clear hwq
  refine xa_aload_n (pc := 0) dX9_lay_0 rfl ?_
  refine xa_getfield (pc := 1) dX9_lay_1 flRX9_31 (by omega) (by omega) hX0 rfl ?_
  refine xa_callV (pc := 4) (as := []) (rest := []) dX9_lay_4 ⟨qX2_firstFault.1, qX2_firstFault.2.1, qX2_firstFault.2.2, by decide, by decide⟩ lkRX9_100 imX2_firstFault seX2_firstFault rfl rfl (by omega) (by omega) hR0 rfl (Nat.le_of_ble_eq_true rfl) (Nat.zero_le _) (Nat.zero_le _) (c_firstFault (k + 9) (k + 1) (k + 6) n p f nu ld2 dg2 pa2 jo2 wa2 sr2 pu2 ri2 (by omega) (by omega) (by omega) hl2 hd2 hnu (by first | exact hW | (rw [fr 1 (by omega)]; exact hW)) ⟨hR0, hR1, by omega, by omega⟩ ⟨hT0, hT1, by omega, by omega, by omega, hTf⟩ ⟨hD0, hD1, hD2, by omega, by omega⟩) (fun r h' hq => ?_)
  rw [hgo] at hq
  dsimp only at hq
  obtain ⟨rfl, hqD, hvD, ⟨p', nu', ⟨hR0, hR1, -, -⟩, hnu'⟩, hqn, hqf⟩ := hq
  have hqD : xB h' (k + 6) ld3 dg3 pa3 jo3 wa3 sr3 pu3 ri3 := hqD
  obtain ⟨hD0, hD1, hD2, -, -⟩ := hqD
  have hv1 : pa3 ≤ 3 ∧ jo3 ≤ 2 := hvD.1
  have hrb := rd_res_b n f 120 0 (rd_b0 ld2 dg2) ⟨by omega, by omega⟩
  rw [hgo] at hrb
  have hrb : xa_ok (rd_res go) := hrb
  have hD0 : h'.1 (k + 6) = xa_o 0 [xa_r (k + 6 + 1), xa_r (k + 6 + 2), xa_i ((pa3 : Nat) : Int), xa_i ((jo3 : Nat) : Int), xa_i wa3, xa_i sr3, xa_i pu3, xa_i ri3] := hD0
  have hD1 : h'.1 (k + 6 + 1) = xa_a 9 ld3 := hD1
  have hD2 : h'.1 (k + 6 + 2) = xa_a 2 dg3 := hD2
  have hR0 : h'.1 (k + 9) = xa_o 2 [xa_r (k + 1), xa_r (k + 6), xa_r (k + 9 + 1), xa_i ((p' : Nat) : Int)] := hR0
  have hR1 : h'.1 (k + 9 + 1) = xa_a 3 nu' := hR1
  have hX0 : h'.1 k = xa_o 9 [xa_r (k + 1), xa_r (k + 3), xa_r (k + 6), xa_r (k + 9), xa_r (k + 11), xa_r (k + 15), xa_i kp, xa_r (k + 24), xa_r (k + 31), xa_r (k + 32), xa_r (k + 36), xa_r (k + 48), xa_r (k + 60)] := (hqf _ (by omega)).trans hX0
  have hT0 : h'.1 (k + 1) = xa_o 7 [xa_r (k + 1 + 1), xa_i ((n : Nat) : Int)] := (hqf _ (by omega)).trans hT0
  have hT1 : h'.1 (k + 1 + 1) = xa_a 120 f := (hqf _ (by omega)).trans hT1
  have hB0 : h'.1 (k + 3) = xa_o 0 [xa_r (k + 3 + 1), xa_r (k + 3 + 2), xa_i ((pa : Nat) : Int), xa_i ((jo : Nat) : Int), xa_i wa, xa_i sr, xa_i pu, xa_i ri] := (hqf _ (by omega)).trans hB0
  have hB1 : h'.1 (k + 3 + 1) = xa_a 9 ld := (hqf _ (by omega)).trans hB1
  have hB2 : h'.1 (k + 3 + 2) = xa_a 2 dg := (hqf _ (by omega)).trans hB2
  have hH0 : h'.1 (k + 11) = xa_o 5 [xa_r (k + 11 + 1), xa_r (k + 11 + 2), xa_r (k + 11 + 3), xa_i ((pc : Nat) : Int)] := (hqf _ (by omega)).trans hH0
  have hH1 : h'.1 (k + 11 + 1) = xa_a 240 mv := (hqf _ (by omega)).trans hH1
  have hH2 : h'.1 (k + 11 + 2) = xa_a 4 le := (hqf _ (by omega)).trans hH2
  have hH3 : h'.1 (k + 11 + 3) = xa_a 120 fi := (hqf _ (by omega)).trans hH3
  have hE1 : h'.1 (k + 36) = xa_o 3 [xa_r (k + 3), xa_r (k + 36 + 4), xa_r (k + 36 + 1), xa_r (k + 36 + 2), xa_r l1, xa_i r1, xa_i o1, xa_i f1, xa_i u1, xa_i b1, xa_i t1, xa_i m1] := (hqf _ (by omega)).trans hE1
  have hE2 : h'.1 (k + 48) = xa_o 3 [xa_r (k + 3), xa_r (k + 48 + 4), xa_r (k + 48 + 1), xa_r (k + 48 + 2), xa_r l2, xa_i r2, xa_i o2, xa_i f2, xa_i u2, xa_i b2, xa_i t2, xa_i m2] := (hqf _ (by omega)).trans hE2
  have hE3 : h'.1 (k + 60) = xa_o 3 [xa_r (k + 3), xa_r (k + 60 + 4), xa_r (k + 60 + 1), xa_r (k + 60 + 2), xa_r l3, xa_i r3, xa_i o3, xa_i f3, xa_i u3, xa_i b3, xa_i t3, xa_i m3] := (hqf _ (by omega)).trans hE3
  have hn : h'.2 = h.2 := hqn.trans hn
  have fr : ∀ i, (i ≠ k ∧ (i < k + 3 ∨ k + 15 ≤ i) ∧ i ≠ k + 36 ∧ i ≠ k + 48 ∧ i ≠ k + 60) → h'.1 i = h.1 i := fun i hi => (hqf i (by omega)).trans (fr i hi)
  refine xa_bipush (pc := 7) dX9_lay_7 rfl ?_
  refine xa_icmp_ne (pc := 9) (tgt := 22) dX9_lay_9 (by decide) ⟨by omega, by omega⟩ (by decide) (fun c_9 => ?_) (fun c_9 => ?_)
  · skip
    refine xa_bipush (pc := 22) dX9_lay_22 rfl ?_
    refine xa_ireturn (pc := 24) dX9_lay_24 rfl trivial ?_
    exact ⟨Or.inl ⟨fun z => by have := rd_res_none.mpr z.1; omega, rfl, ⟨⟨hD0, hD1, hD2, by omega, by omega⟩, hvD, p', nu', ⟨hR0, hR1, by omega, by omega⟩, hnu'⟩, ⟨hX0, by omega, by omega⟩, ⟨hB0, hB1, hB2, by omega, by omega⟩, ⟨hH0, hH1, hH2, hH3, by omega, by omega⟩, hE1, hE2, hE3⟩, hn, fr⟩
  · skip
    refine xa_aload_n (pc := 12) dX9_lay_12 rfl ?_
    refine xa_getfield (pc := 13) dX9_lay_13 flRX9_23 (by omega) (by omega) hX0 rfl ?_
    refine xa_callV (pc := 16) (as := []) (rest := []) dX9_lay_16 ⟨qX0_isWhole.1, qX0_isWhole.2.1, qX0_isWhole.2.2, by decide, by decide⟩ lkRX9_104 imX0_isWhole seX0_isWhole rfl rfl (by omega) (by omega) hD0 rfl (Nat.le_of_ble_eq_true rfl) (Nat.zero_le _) (Nat.zero_le _) (c_isWhole _ _ _ _ _ _ _ _ _ hv1.1 hv1.2 ⟨hD0, hD1, hD2, by omega, by omega⟩) (fun r h' hq => ?_)
    obtain ⟨rfl, hq⟩ := hq
    have hq := hq.symm
    subst hq
    refine xa_if_ne (pc := 19) (tgt := 25) dX9_lay_19 (by decide) xa_okb (fun c_19 => ?_) (fun c_19 => ?_)
    · have c_19 := xa_b1.mp c_19
      refine xa_aload_n (pc := 25) dX9_lay_25 rfl ?_
      refine xa_getfield (pc := 26) dX9_lay_26 flRX9_23 (by omega) (by omega) hX0 rfl ?_
      refine xa_aload_n (pc := 29) dX9_lay_29 rfl ?_
      refine xa_getfield (pc := 30) dX9_lay_30 flRX9_19 (by omega) (by omega) hX0 rfl ?_
      refine xa_callV (pc := 33) (as := [xa_r (k + 3)]) (rest := []) dX9_lay_33 ⟨qX0_isAs.1, qX0_isAs.2.1, qX0_isAs.2.2, by decide, by decide⟩ lkRX9_108 imX0_isAs seX0_isAs rfl rfl (by omega) (by omega) hD0 rfl (Nat.le_of_ble_eq_true rfl) (Nat.zero_le _) (Nat.zero_le _) (c_isAs (k + 6) (k + 3) ld3 dg3 ld dg pa3 jo3 pa jo wa3 sr3 pu3 ri3 wa sr pu ri (by omega) (by omega) (vD_wok hvD) hwa (vD_pr hvD).1 ⟨by omega, by omega⟩ (vD_pr hvD).2 ⟨by omega, by omega⟩ hv1.1 hv1.2 hvD.2.1 hvD.2.2.2.1 hB9.2.1 hB9.2.2.2.1 ⟨hD0, hD1, hD2, by omega, by omega⟩ ⟨hB0, hB1, hB2, by omega, by omega⟩) (fun r h' hq => ?_)
      obtain ⟨hq1, hq⟩ := hq
      have hq := hq.symm
      subst hq
      obtain ⟨sm, hsm⟩ : ∃ z, sp_sm (sp_sm (xa_b (pa3 = pa ∧ jo3 = jo ∧ wa3 = wa ∧ pu3 = pu ∧ ri3 = ri)) ld3 ld (pa3 * 3)) dg3 dg jo3 = z := ⟨_, rfl⟩
      have hsb := sp_sm_b (sp_sm_b (c := xa_b (pa3 = pa ∧ jo3 = jo ∧ wa3 = wa ∧ pu3 = pu ∧ ri3 = ri)) xa_bq ld3 ld (pa3 * 3)) dg3 dg jo3
      rw [hsm] at hq1 hsb
      subst hq1
      refine xa_if_ne (pc := 36) (tgt := 71) dX9_lay_36 (by decide) ⟨by omega, by omega⟩ (fun c_36 => ?_) (fun c_36 => ?_)
      · skip
        refine xa_aload_n (pc := 71) dX9_lay_71 rfl ?_
        refine xa_getfield (pc := 72) dX9_lay_72 flRX9_38 (by omega) (by omega) hX0 rfl ?_
        refine xa_callV (pc := 75) (as := []) (rest := []) dX9_lay_75 ⟨qX5_clear.1, qX5_clear.2.1, qX5_clear.2.2, by decide, by decide⟩ lkRX9_118 imX5_clear seX5_clear rfl rfl (by omega) (by omega) hH0 rfl (Nat.le_of_ble_eq_true rfl) (Nat.zero_le _) (Nat.zero_le _) (c_clear _ _ _ _ _ ⟨hH0, hH1, hH2, hH3, by omega, by omega⟩) (fun r h' hq => ?_)
        obtain ⟨rfl, ⟨hH0, hH1, hH2, hH3, -, -⟩, hqn, hqf⟩ := hq
        have hH0 : h'.1 (k + 11) = xa_o 5 [xa_r (k + 11 + 1), xa_r (k + 11 + 2), xa_r (k + 11 + 3), xa_i 0] := hH0
        have hH1 : h'.1 (k + 11 + 1) = xa_a 240 mv := hH1
        have hH2 : h'.1 (k + 11 + 2) = xa_a 4 (xa_fl le 4 0) := hH2
        have hH3 : h'.1 (k + 11 + 3) = xa_a 120 fi := hH3
        have hX0 : h'.1 k = xa_o 9 [xa_r (k + 1), xa_r (k + 3), xa_r (k + 6), xa_r (k + 9), xa_r (k + 11), xa_r (k + 15), xa_i kp, xa_r (k + 24), xa_r (k + 31), xa_r (k + 32), xa_r (k + 36), xa_r (k + 48), xa_r (k + 60)] := (hqf _ (by omega)).trans hX0
        have hT0 : h'.1 (k + 1) = xa_o 7 [xa_r (k + 1 + 1), xa_i ((n : Nat) : Int)] := (hqf _ (by omega)).trans hT0
        have hT1 : h'.1 (k + 1 + 1) = xa_a 120 f := (hqf _ (by omega)).trans hT1
        have hD0 : h'.1 (k + 6) = xa_o 0 [xa_r (k + 6 + 1), xa_r (k + 6 + 2), xa_i ((pa3 : Nat) : Int), xa_i ((jo3 : Nat) : Int), xa_i wa3, xa_i sr3, xa_i pu3, xa_i ri3] := (hqf _ (by omega)).trans hD0
        have hD1 : h'.1 (k + 6 + 1) = xa_a 9 ld3 := (hqf _ (by omega)).trans hD1
        have hD2 : h'.1 (k + 6 + 2) = xa_a 2 dg3 := (hqf _ (by omega)).trans hD2
        have hR0 : h'.1 (k + 9) = xa_o 2 [xa_r (k + 1), xa_r (k + 6), xa_r (k + 9 + 1), xa_i ((p' : Nat) : Int)] := (hqf _ (by omega)).trans hR0
        have hR1 : h'.1 (k + 9 + 1) = xa_a 3 nu' := (hqf _ (by omega)).trans hR1
        have hB0 : h'.1 (k + 3) = xa_o 0 [xa_r (k + 3 + 1), xa_r (k + 3 + 2), xa_i ((pa : Nat) : Int), xa_i ((jo : Nat) : Int), xa_i wa, xa_i sr, xa_i pu, xa_i ri] := (hqf _ (by omega)).trans hB0
        have hB1 : h'.1 (k + 3 + 1) = xa_a 9 ld := (hqf _ (by omega)).trans hB1
        have hB2 : h'.1 (k + 3 + 2) = xa_a 2 dg := (hqf _ (by omega)).trans hB2
        have hE1 : h'.1 (k + 36) = xa_o 3 [xa_r (k + 3), xa_r (k + 36 + 4), xa_r (k + 36 + 1), xa_r (k + 36 + 2), xa_r l1, xa_i r1, xa_i o1, xa_i f1, xa_i u1, xa_i b1, xa_i t1, xa_i m1] := (hqf _ (by omega)).trans hE1
        have hE2 : h'.1 (k + 48) = xa_o 3 [xa_r (k + 3), xa_r (k + 48 + 4), xa_r (k + 48 + 1), xa_r (k + 48 + 2), xa_r l2, xa_i r2, xa_i o2, xa_i f2, xa_i u2, xa_i b2, xa_i t2, xa_i m2] := (hqf _ (by omega)).trans hE2
        have hE3 : h'.1 (k + 60) = xa_o 3 [xa_r (k + 3), xa_r (k + 60 + 4), xa_r (k + 60 + 1), xa_r (k + 60 + 2), xa_r l3, xa_i r3, xa_i o3, xa_i f3, xa_i u3, xa_i b3, xa_i t3, xa_i m3] := (hqf _ (by omega)).trans hE3
        have hn : h'.2 = h.2 := hqn.trans hn
        have fr : ∀ i, (i ≠ k ∧ (i < k + 3 ∨ k + 15 ≤ i) ∧ i ≠ k + 36 ∧ i ≠ k + 48 ∧ i ≠ k + 60) → h'.1 i = h.1 i := fun i hi => (hqf i (by omega)).trans (fr i hi)
        refine xa_aload_n (pc := 78) dX9_lay_78 rfl ?_
        refine xa_iconst (pc := 79) dX9_lay_79 ?_
        refine xa_putw (pc := 80) [xa_r (k + 1), xa_r (k + 3), xa_r (k + 6), xa_r (k + 9), xa_r (k + 11), xa_r (k + 15), xa_i 0, xa_r (k + 24), xa_r (k + 31), xa_r (k + 32), xa_r (k + 36), xa_r (k + 48), xa_r (k + 60)] dX9_lay_80 flRX9_121 plX9_6 (by omega) (by omega) hX0 trivial rfl (fun h1 nh1 ch1 oh1 => ?_)
        have hX0 : h1.1 k = xa_o 9 [xa_r (k + 1), xa_r (k + 3), xa_r (k + 6), xa_r (k + 9), xa_r (k + 11), xa_r (k + 15), xa_i 0, xa_r (k + 24), xa_r (k + 31), xa_r (k + 32), xa_r (k + 36), xa_r (k + 48), xa_r (k + 60)] := ch1
        have hT0 : h1.1 (k + 1) = xa_o 7 [xa_r (k + 1 + 1), xa_i ((n : Nat) : Int)] := (oh1 _ (by omega)).trans hT0
        have hT1 : h1.1 (k + 1 + 1) = xa_a 120 f := (oh1 _ (by omega)).trans hT1
        have hD0 : h1.1 (k + 6) = xa_o 0 [xa_r (k + 6 + 1), xa_r (k + 6 + 2), xa_i ((pa3 : Nat) : Int), xa_i ((jo3 : Nat) : Int), xa_i wa3, xa_i sr3, xa_i pu3, xa_i ri3] := (oh1 _ (by omega)).trans hD0
        have hD1 : h1.1 (k + 6 + 1) = xa_a 9 ld3 := (oh1 _ (by omega)).trans hD1
        have hD2 : h1.1 (k + 6 + 2) = xa_a 2 dg3 := (oh1 _ (by omega)).trans hD2
        have hR0 : h1.1 (k + 9) = xa_o 2 [xa_r (k + 1), xa_r (k + 6), xa_r (k + 9 + 1), xa_i ((p' : Nat) : Int)] := (oh1 _ (by omega)).trans hR0
        have hR1 : h1.1 (k + 9 + 1) = xa_a 3 nu' := (oh1 _ (by omega)).trans hR1
        have hB0 : h1.1 (k + 3) = xa_o 0 [xa_r (k + 3 + 1), xa_r (k + 3 + 2), xa_i ((pa : Nat) : Int), xa_i ((jo : Nat) : Int), xa_i wa, xa_i sr, xa_i pu, xa_i ri] := (oh1 _ (by omega)).trans hB0
        have hB1 : h1.1 (k + 3 + 1) = xa_a 9 ld := (oh1 _ (by omega)).trans hB1
        have hB2 : h1.1 (k + 3 + 2) = xa_a 2 dg := (oh1 _ (by omega)).trans hB2
        have hH0 : h1.1 (k + 11) = xa_o 5 [xa_r (k + 11 + 1), xa_r (k + 11 + 2), xa_r (k + 11 + 3), xa_i 0] := (oh1 _ (by omega)).trans hH0
        have hH1 : h1.1 (k + 11 + 1) = xa_a 240 mv := (oh1 _ (by omega)).trans hH1
        have hH2 : h1.1 (k + 11 + 2) = xa_a 4 (xa_fl le 4 0) := (oh1 _ (by omega)).trans hH2
        have hH3 : h1.1 (k + 11 + 3) = xa_a 120 fi := (oh1 _ (by omega)).trans hH3
        have hE1 : h1.1 (k + 36) = xa_o 3 [xa_r (k + 3), xa_r (k + 36 + 4), xa_r (k + 36 + 1), xa_r (k + 36 + 2), xa_r l1, xa_i r1, xa_i o1, xa_i f1, xa_i u1, xa_i b1, xa_i t1, xa_i m1] := (oh1 _ (by omega)).trans hE1
        have hE2 : h1.1 (k + 48) = xa_o 3 [xa_r (k + 3), xa_r (k + 48 + 4), xa_r (k + 48 + 1), xa_r (k + 48 + 2), xa_r l2, xa_i r2, xa_i o2, xa_i f2, xa_i u2, xa_i b2, xa_i t2, xa_i m2] := (oh1 _ (by omega)).trans hE2
        have hE3 : h1.1 (k + 60) = xa_o 3 [xa_r (k + 3), xa_r (k + 60 + 4), xa_r (k + 60 + 1), xa_r (k + 60 + 2), xa_r l3, xa_i r3, xa_i o3, xa_i f3, xa_i u3, xa_i b3, xa_i t3, xa_i m3] := (oh1 _ (by omega)).trans hE3
        have hn : h1.2 = h.2 := nh1.trans hn
        have fr : ∀ i, (i ≠ k ∧ (i < k + 3 ∨ k + 15 ≤ i) ∧ i ≠ k + 36 ∧ i ≠ k + 48 ∧ i ≠ k + 60) → h1.1 i = h.1 i := fun i hi => (oh1 i (by omega)).trans (fr i hi)
        refine xa_aload_n (pc := 83) dX9_lay_83 rfl ?_
        refine xa_getfield (pc := 84) dX9_lay_84 flRX9_19 (by omega) (by omega) hX0 rfl ?_
        refine xa_getfield (pc := 87) dX9_lay_87 flRX9_124 (by omega) (by omega) hB0 rfl ?_
        refine xa_ireturn (pc := 90) dX9_lay_90 rfl trivial ?_
        obtain ⟨s1, s2, s3⟩ := sm_same (by rw [hsm]; exact c_36) (by omega) (by omega)
        have s4 := xa_b1.mp s1
        exact ⟨Or.inr ⟨⟨rd_res_none.mp (by omega), c_19⟩, by rw [s4.1], ⟨⟨hD0, hD1, hD2, by omega, by omega⟩, hvD, p', nu', ⟨hR0, hR1, by omega, by omega⟩, hnu'⟩, ⟨hX0, by omega, by omega⟩, ⟨hH0, hH1, hH2, hH3, by omega, by omega⟩, Or.inl ⟨⟨s4, s2, s3⟩, ⟨hB0, hB1, hB2, by omega, by omega⟩, hE1, hE2, hE3⟩⟩, hn, fr⟩
      · skip
        refine xa_aload_n (pc := 39) dX9_lay_39 rfl ?_
        refine xa_getfield (pc := 40) dX9_lay_40 flRX9_19 (by omega) (by omega) hX0 rfl ?_
        refine xa_aload_n (pc := 43) dX9_lay_43 rfl ?_
        refine xa_getfield (pc := 44) dX9_lay_44 flRX9_23 (by omega) (by omega) hX0 rfl ?_
        refine xa_callV (pc := 47) (as := [xa_r (k + 6)]) (rest := []) dX9_lay_47 ⟨qX0_copyBody.1, qX0_copyBody.2.1, qX0_copyBody.2.2, by decide, by decide⟩ lkRX9_112 imX0_copyBody seX0_copyBody rfl rfl (by omega) (by omega) hB0 rfl (Nat.le_of_ble_eq_true rfl) (Nat.zero_le _) (Nat.zero_le _) (c_copyBody _ _ _ _ _ _ _ _ _ _ _ _ _ _ _ _ _ _ (by omega) ⟨hB0, hB1, hB2, by omega, by omega⟩ ⟨hD0, hD1, hD2, by omega, by omega⟩) (fun r h' hq => ?_)
        obtain ⟨rfl, ⟨hB0, hB1, hB2, -, -⟩, hqn, hqf⟩ := hq
        have hB0 : h'.1 (k + 3) = xa_o 0 [xa_r (k + 3 + 1), xa_r (k + 3 + 2), xa_i ((pa3 : Nat) : Int), xa_i ((jo3 : Nat) : Int), xa_i wa3, xa_i sr3, xa_i pu3, xa_i ri3] := hB0
        have hB1 : h'.1 (k + 3 + 1) = xa_a 9 (sp_cp ld ld3 9) := hB1
        have hB2 : h'.1 (k + 3 + 2) = xa_a 2 (sp_cp dg dg3 2) := hB2
        have hX0 : h'.1 k = xa_o 9 [xa_r (k + 1), xa_r (k + 3), xa_r (k + 6), xa_r (k + 9), xa_r (k + 11), xa_r (k + 15), xa_i kp, xa_r (k + 24), xa_r (k + 31), xa_r (k + 32), xa_r (k + 36), xa_r (k + 48), xa_r (k + 60)] := (hqf _ (by omega)).trans hX0
        have hT0 : h'.1 (k + 1) = xa_o 7 [xa_r (k + 1 + 1), xa_i ((n : Nat) : Int)] := (hqf _ (by omega)).trans hT0
        have hT1 : h'.1 (k + 1 + 1) = xa_a 120 f := (hqf _ (by omega)).trans hT1
        have hD0 : h'.1 (k + 6) = xa_o 0 [xa_r (k + 6 + 1), xa_r (k + 6 + 2), xa_i ((pa3 : Nat) : Int), xa_i ((jo3 : Nat) : Int), xa_i wa3, xa_i sr3, xa_i pu3, xa_i ri3] := (hqf _ (by omega)).trans hD0
        have hD1 : h'.1 (k + 6 + 1) = xa_a 9 ld3 := (hqf _ (by omega)).trans hD1
        have hD2 : h'.1 (k + 6 + 2) = xa_a 2 dg3 := (hqf _ (by omega)).trans hD2
        have hR0 : h'.1 (k + 9) = xa_o 2 [xa_r (k + 1), xa_r (k + 6), xa_r (k + 9 + 1), xa_i ((p' : Nat) : Int)] := (hqf _ (by omega)).trans hR0
        have hR1 : h'.1 (k + 9 + 1) = xa_a 3 nu' := (hqf _ (by omega)).trans hR1
        have hH0 : h'.1 (k + 11) = xa_o 5 [xa_r (k + 11 + 1), xa_r (k + 11 + 2), xa_r (k + 11 + 3), xa_i ((pc : Nat) : Int)] := (hqf _ (by omega)).trans hH0
        have hH1 : h'.1 (k + 11 + 1) = xa_a 240 mv := (hqf _ (by omega)).trans hH1
        have hH2 : h'.1 (k + 11 + 2) = xa_a 4 le := (hqf _ (by omega)).trans hH2
        have hH3 : h'.1 (k + 11 + 3) = xa_a 120 fi := (hqf _ (by omega)).trans hH3
        have hE1 : h'.1 (k + 36) = xa_o 3 [xa_r (k + 3), xa_r (k + 36 + 4), xa_r (k + 36 + 1), xa_r (k + 36 + 2), xa_r l1, xa_i r1, xa_i o1, xa_i f1, xa_i u1, xa_i b1, xa_i t1, xa_i m1] := (hqf _ (by omega)).trans hE1
        have hE2 : h'.1 (k + 48) = xa_o 3 [xa_r (k + 3), xa_r (k + 48 + 4), xa_r (k + 48 + 1), xa_r (k + 48 + 2), xa_r l2, xa_i r2, xa_i o2, xa_i f2, xa_i u2, xa_i b2, xa_i t2, xa_i m2] := (hqf _ (by omega)).trans hE2
        have hE3 : h'.1 (k + 60) = xa_o 3 [xa_r (k + 3), xa_r (k + 60 + 4), xa_r (k + 60 + 1), xa_r (k + 60 + 2), xa_r l3, xa_i r3, xa_i o3, xa_i f3, xa_i u3, xa_i b3, xa_i t3, xa_i m3] := (hqf _ (by omega)).trans hE3
        have hn : h'.2 = h.2 := hqn.trans hn
        have fr : ∀ i, (i ≠ k ∧ (i < k + 3 ∨ k + 15 ≤ i) ∧ i ≠ k + 36 ∧ i ≠ k + 48 ∧ i ≠ k + 60) → h'.1 i = h.1 i := fun i hi => (hqf i (by omega)).trans (fr i hi)
        refine xa_aload_n (pc := 50) dX9_lay_50 rfl ?_
        refine xa_getfield (pc := 51) dX9_lay_51 flRX9_71 (by omega) (by omega) hX0 rfl ?_
        refine xa_callV (pc := 54) (as := []) (rest := []) dX9_lay_54 ⟨qX3_forget.1, qX3_forget.2.1, qX3_forget.2.2, by decide, by decide⟩ lkRX9_115 imX3_forget seX3_forget rfl rfl (by omega) (by omega) hE1 rfl (Nat.le_of_ble_eq_true rfl) (Nat.zero_le _) (Nat.zero_le _) (c_forget (k + 36) (k + 3) l1 0 (fun _ => 0) (fun _ => 0) (fun _ => 0) r1 o1 f1 u1 b1 t1 m1 (by omega) (by omega) fl1.1 (by rw [hn]; exact fl1.2) hE1) (fun r h' hq => ?_)
        obtain ⟨rfl, hE1, hqn, hqf⟩ := hq
        have hE1 : h'.1 (k + 36) = xa_o 3 [xa_r (k + 3), xa_r (k + 36 + 4), xa_r (k + 36 + 1), xa_r (k + 36 + 2), xa_r l1, xa_i 0, xa_i o1, xa_i f1, xa_i u1, xa_i b1, xa_i t1, xa_i m1] := hE1
        have hX0 : h'.1 k = xa_o 9 [xa_r (k + 1), xa_r (k + 3), xa_r (k + 6), xa_r (k + 9), xa_r (k + 11), xa_r (k + 15), xa_i kp, xa_r (k + 24), xa_r (k + 31), xa_r (k + 32), xa_r (k + 36), xa_r (k + 48), xa_r (k + 60)] := (hqf _ (by omega)).trans hX0
        have hT0 : h'.1 (k + 1) = xa_o 7 [xa_r (k + 1 + 1), xa_i ((n : Nat) : Int)] := (hqf _ (by omega)).trans hT0
        have hT1 : h'.1 (k + 1 + 1) = xa_a 120 f := (hqf _ (by omega)).trans hT1
        have hD0 : h'.1 (k + 6) = xa_o 0 [xa_r (k + 6 + 1), xa_r (k + 6 + 2), xa_i ((pa3 : Nat) : Int), xa_i ((jo3 : Nat) : Int), xa_i wa3, xa_i sr3, xa_i pu3, xa_i ri3] := (hqf _ (by omega)).trans hD0
        have hD1 : h'.1 (k + 6 + 1) = xa_a 9 ld3 := (hqf _ (by omega)).trans hD1
        have hD2 : h'.1 (k + 6 + 2) = xa_a 2 dg3 := (hqf _ (by omega)).trans hD2
        have hR0 : h'.1 (k + 9) = xa_o 2 [xa_r (k + 1), xa_r (k + 6), xa_r (k + 9 + 1), xa_i ((p' : Nat) : Int)] := (hqf _ (by omega)).trans hR0
        have hR1 : h'.1 (k + 9 + 1) = xa_a 3 nu' := (hqf _ (by omega)).trans hR1
        have hB0 : h'.1 (k + 3) = xa_o 0 [xa_r (k + 3 + 1), xa_r (k + 3 + 2), xa_i ((pa3 : Nat) : Int), xa_i ((jo3 : Nat) : Int), xa_i wa3, xa_i sr3, xa_i pu3, xa_i ri3] := (hqf _ (by omega)).trans hB0
        have hB1 : h'.1 (k + 3 + 1) = xa_a 9 (sp_cp ld ld3 9) := (hqf _ (by omega)).trans hB1
        have hB2 : h'.1 (k + 3 + 2) = xa_a 2 (sp_cp dg dg3 2) := (hqf _ (by omega)).trans hB2
        have hH0 : h'.1 (k + 11) = xa_o 5 [xa_r (k + 11 + 1), xa_r (k + 11 + 2), xa_r (k + 11 + 3), xa_i ((pc : Nat) : Int)] := (hqf _ (by omega)).trans hH0
        have hH1 : h'.1 (k + 11 + 1) = xa_a 240 mv := (hqf _ (by omega)).trans hH1
        have hH2 : h'.1 (k + 11 + 2) = xa_a 4 le := (hqf _ (by omega)).trans hH2
        have hH3 : h'.1 (k + 11 + 3) = xa_a 120 fi := (hqf _ (by omega)).trans hH3
        have hE2 : h'.1 (k + 48) = xa_o 3 [xa_r (k + 3), xa_r (k + 48 + 4), xa_r (k + 48 + 1), xa_r (k + 48 + 2), xa_r l2, xa_i r2, xa_i o2, xa_i f2, xa_i u2, xa_i b2, xa_i t2, xa_i m2] := (hqf _ (by omega)).trans hE2
        have hE3 : h'.1 (k + 60) = xa_o 3 [xa_r (k + 3), xa_r (k + 60 + 4), xa_r (k + 60 + 1), xa_r (k + 60 + 2), xa_r l3, xa_i r3, xa_i o3, xa_i f3, xa_i u3, xa_i b3, xa_i t3, xa_i m3] := (hqf _ (by omega)).trans hE3
        have hn : h'.2 = h.2 := hqn.trans hn
        have fr : ∀ i, (i ≠ k ∧ (i < k + 3 ∨ k + 15 ≤ i) ∧ i ≠ k + 36 ∧ i ≠ k + 48 ∧ i ≠ k + 60) → h'.1 i = h.1 i := fun i hi => (hqf i (by omega)).trans (fr i hi)
        refine xa_aload_n (pc := 57) dX9_lay_57 rfl ?_
        refine xa_getfield (pc := 58) dX9_lay_58 flRX9_75 (by omega) (by omega) hX0 rfl ?_
        refine xa_callV (pc := 61) (as := []) (rest := []) dX9_lay_61 ⟨qX3_forget.1, qX3_forget.2.1, qX3_forget.2.2, by decide, by decide⟩ lkRX9_115 imX3_forget seX3_forget rfl rfl (by omega) (by omega) hE2 rfl (Nat.le_of_ble_eq_true rfl) (Nat.zero_le _) (Nat.zero_le _) (c_forget (k + 48) (k + 3) l2 0 (fun _ => 0) (fun _ => 0) (fun _ => 0) r2 o2 f2 u2 b2 t2 m2 (by omega) (by omega) fl2.1 (by rw [hn]; exact fl2.2) hE2) (fun r h' hq => ?_)
        obtain ⟨rfl, hE2, hqn, hqf⟩ := hq
        have hE2 : h'.1 (k + 48) = xa_o 3 [xa_r (k + 3), xa_r (k + 48 + 4), xa_r (k + 48 + 1), xa_r (k + 48 + 2), xa_r l2, xa_i 0, xa_i o2, xa_i f2, xa_i u2, xa_i b2, xa_i t2, xa_i m2] := hE2
        have hX0 : h'.1 k = xa_o 9 [xa_r (k + 1), xa_r (k + 3), xa_r (k + 6), xa_r (k + 9), xa_r (k + 11), xa_r (k + 15), xa_i kp, xa_r (k + 24), xa_r (k + 31), xa_r (k + 32), xa_r (k + 36), xa_r (k + 48), xa_r (k + 60)] := (hqf _ (by omega)).trans hX0
        have hT0 : h'.1 (k + 1) = xa_o 7 [xa_r (k + 1 + 1), xa_i ((n : Nat) : Int)] := (hqf _ (by omega)).trans hT0
        have hT1 : h'.1 (k + 1 + 1) = xa_a 120 f := (hqf _ (by omega)).trans hT1
        have hD0 : h'.1 (k + 6) = xa_o 0 [xa_r (k + 6 + 1), xa_r (k + 6 + 2), xa_i ((pa3 : Nat) : Int), xa_i ((jo3 : Nat) : Int), xa_i wa3, xa_i sr3, xa_i pu3, xa_i ri3] := (hqf _ (by omega)).trans hD0
        have hD1 : h'.1 (k + 6 + 1) = xa_a 9 ld3 := (hqf _ (by omega)).trans hD1
        have hD2 : h'.1 (k + 6 + 2) = xa_a 2 dg3 := (hqf _ (by omega)).trans hD2
        have hR0 : h'.1 (k + 9) = xa_o 2 [xa_r (k + 1), xa_r (k + 6), xa_r (k + 9 + 1), xa_i ((p' : Nat) : Int)] := (hqf _ (by omega)).trans hR0
        have hR1 : h'.1 (k + 9 + 1) = xa_a 3 nu' := (hqf _ (by omega)).trans hR1
        have hB0 : h'.1 (k + 3) = xa_o 0 [xa_r (k + 3 + 1), xa_r (k + 3 + 2), xa_i ((pa3 : Nat) : Int), xa_i ((jo3 : Nat) : Int), xa_i wa3, xa_i sr3, xa_i pu3, xa_i ri3] := (hqf _ (by omega)).trans hB0
        have hB1 : h'.1 (k + 3 + 1) = xa_a 9 (sp_cp ld ld3 9) := (hqf _ (by omega)).trans hB1
        have hB2 : h'.1 (k + 3 + 2) = xa_a 2 (sp_cp dg dg3 2) := (hqf _ (by omega)).trans hB2
        have hH0 : h'.1 (k + 11) = xa_o 5 [xa_r (k + 11 + 1), xa_r (k + 11 + 2), xa_r (k + 11 + 3), xa_i ((pc : Nat) : Int)] := (hqf _ (by omega)).trans hH0
        have hH1 : h'.1 (k + 11 + 1) = xa_a 240 mv := (hqf _ (by omega)).trans hH1
        have hH2 : h'.1 (k + 11 + 2) = xa_a 4 le := (hqf _ (by omega)).trans hH2
        have hH3 : h'.1 (k + 11 + 3) = xa_a 120 fi := (hqf _ (by omega)).trans hH3
        have hE1 : h'.1 (k + 36) = xa_o 3 [xa_r (k + 3), xa_r (k + 36 + 4), xa_r (k + 36 + 1), xa_r (k + 36 + 2), xa_r l1, xa_i 0, xa_i o1, xa_i f1, xa_i u1, xa_i b1, xa_i t1, xa_i m1] := (hqf _ (by omega)).trans hE1
        have hE3 : h'.1 (k + 60) = xa_o 3 [xa_r (k + 3), xa_r (k + 60 + 4), xa_r (k + 60 + 1), xa_r (k + 60 + 2), xa_r l3, xa_i r3, xa_i o3, xa_i f3, xa_i u3, xa_i b3, xa_i t3, xa_i m3] := (hqf _ (by omega)).trans hE3
        have hn : h'.2 = h.2 := hqn.trans hn
        have fr : ∀ i, (i ≠ k ∧ (i < k + 3 ∨ k + 15 ≤ i) ∧ i ≠ k + 36 ∧ i ≠ k + 48 ∧ i ≠ k + 60) → h'.1 i = h.1 i := fun i hi => (hqf i (by omega)).trans (fr i hi)
        refine xa_aload_n (pc := 64) dX9_lay_64 rfl ?_
        refine xa_getfield (pc := 65) dX9_lay_65 flRX9_78 (by omega) (by omega) hX0 rfl ?_
        refine xa_callV (pc := 68) (as := []) (rest := []) dX9_lay_68 ⟨qX3_forget.1, qX3_forget.2.1, qX3_forget.2.2, by decide, by decide⟩ lkRX9_115 imX3_forget seX3_forget rfl rfl (by omega) (by omega) hE3 rfl (Nat.le_of_ble_eq_true rfl) (Nat.zero_le _) (Nat.zero_le _) (c_forget (k + 60) (k + 3) l3 0 (fun _ => 0) (fun _ => 0) (fun _ => 0) r3 o3 f3 u3 b3 t3 m3 (by omega) (by omega) fl3.1 (by rw [hn]; exact fl3.2) hE3) (fun r h' hq => ?_)
        obtain ⟨rfl, hE3, hqn, hqf⟩ := hq
        have hE3 : h'.1 (k + 60) = xa_o 3 [xa_r (k + 3), xa_r (k + 60 + 4), xa_r (k + 60 + 1), xa_r (k + 60 + 2), xa_r l3, xa_i 0, xa_i o3, xa_i f3, xa_i u3, xa_i b3, xa_i t3, xa_i m3] := hE3
        have hX0 : h'.1 k = xa_o 9 [xa_r (k + 1), xa_r (k + 3), xa_r (k + 6), xa_r (k + 9), xa_r (k + 11), xa_r (k + 15), xa_i kp, xa_r (k + 24), xa_r (k + 31), xa_r (k + 32), xa_r (k + 36), xa_r (k + 48), xa_r (k + 60)] := (hqf _ (by omega)).trans hX0
        have hT0 : h'.1 (k + 1) = xa_o 7 [xa_r (k + 1 + 1), xa_i ((n : Nat) : Int)] := (hqf _ (by omega)).trans hT0
        have hT1 : h'.1 (k + 1 + 1) = xa_a 120 f := (hqf _ (by omega)).trans hT1
        have hD0 : h'.1 (k + 6) = xa_o 0 [xa_r (k + 6 + 1), xa_r (k + 6 + 2), xa_i ((pa3 : Nat) : Int), xa_i ((jo3 : Nat) : Int), xa_i wa3, xa_i sr3, xa_i pu3, xa_i ri3] := (hqf _ (by omega)).trans hD0
        have hD1 : h'.1 (k + 6 + 1) = xa_a 9 ld3 := (hqf _ (by omega)).trans hD1
        have hD2 : h'.1 (k + 6 + 2) = xa_a 2 dg3 := (hqf _ (by omega)).trans hD2
        have hR0 : h'.1 (k + 9) = xa_o 2 [xa_r (k + 1), xa_r (k + 6), xa_r (k + 9 + 1), xa_i ((p' : Nat) : Int)] := (hqf _ (by omega)).trans hR0
        have hR1 : h'.1 (k + 9 + 1) = xa_a 3 nu' := (hqf _ (by omega)).trans hR1
        have hB0 : h'.1 (k + 3) = xa_o 0 [xa_r (k + 3 + 1), xa_r (k + 3 + 2), xa_i ((pa3 : Nat) : Int), xa_i ((jo3 : Nat) : Int), xa_i wa3, xa_i sr3, xa_i pu3, xa_i ri3] := (hqf _ (by omega)).trans hB0
        have hB1 : h'.1 (k + 3 + 1) = xa_a 9 (sp_cp ld ld3 9) := (hqf _ (by omega)).trans hB1
        have hB2 : h'.1 (k + 3 + 2) = xa_a 2 (sp_cp dg dg3 2) := (hqf _ (by omega)).trans hB2
        have hH0 : h'.1 (k + 11) = xa_o 5 [xa_r (k + 11 + 1), xa_r (k + 11 + 2), xa_r (k + 11 + 3), xa_i ((pc : Nat) : Int)] := (hqf _ (by omega)).trans hH0
        have hH1 : h'.1 (k + 11 + 1) = xa_a 240 mv := (hqf _ (by omega)).trans hH1
        have hH2 : h'.1 (k + 11 + 2) = xa_a 4 le := (hqf _ (by omega)).trans hH2
        have hH3 : h'.1 (k + 11 + 3) = xa_a 120 fi := (hqf _ (by omega)).trans hH3
        have hE1 : h'.1 (k + 36) = xa_o 3 [xa_r (k + 3), xa_r (k + 36 + 4), xa_r (k + 36 + 1), xa_r (k + 36 + 2), xa_r l1, xa_i 0, xa_i o1, xa_i f1, xa_i u1, xa_i b1, xa_i t1, xa_i m1] := (hqf _ (by omega)).trans hE1
        have hE2 : h'.1 (k + 48) = xa_o 3 [xa_r (k + 3), xa_r (k + 48 + 4), xa_r (k + 48 + 1), xa_r (k + 48 + 2), xa_r l2, xa_i 0, xa_i o2, xa_i f2, xa_i u2, xa_i b2, xa_i t2, xa_i m2] := (hqf _ (by omega)).trans hE2
        have hn : h'.2 = h.2 := hqn.trans hn
        have fr : ∀ i, (i ≠ k ∧ (i < k + 3 ∨ k + 15 ≤ i) ∧ i ≠ k + 36 ∧ i ≠ k + 48 ∧ i ≠ k + 60) → h'.1 i = h.1 i := fun i hi => (hqf i (by omega)).trans (fr i hi)
        refine xa_aload_n (pc := 71) dX9_lay_71 rfl ?_
        refine xa_getfield (pc := 72) dX9_lay_72 flRX9_38 (by omega) (by omega) hX0 rfl ?_
        refine xa_callV (pc := 75) (as := []) (rest := []) dX9_lay_75 ⟨qX5_clear.1, qX5_clear.2.1, qX5_clear.2.2, by decide, by decide⟩ lkRX9_118 imX5_clear seX5_clear rfl rfl (by omega) (by omega) hH0 rfl (Nat.le_of_ble_eq_true rfl) (Nat.zero_le _) (Nat.zero_le _) (c_clear _ _ _ _ _ ⟨hH0, hH1, hH2, hH3, by omega, by omega⟩) (fun r h' hq => ?_)
        obtain ⟨rfl, ⟨hH0, hH1, hH2, hH3, -, -⟩, hqn, hqf⟩ := hq
        have hH0 : h'.1 (k + 11) = xa_o 5 [xa_r (k + 11 + 1), xa_r (k + 11 + 2), xa_r (k + 11 + 3), xa_i 0] := hH0
        have hH1 : h'.1 (k + 11 + 1) = xa_a 240 mv := hH1
        have hH2 : h'.1 (k + 11 + 2) = xa_a 4 (xa_fl le 4 0) := hH2
        have hH3 : h'.1 (k + 11 + 3) = xa_a 120 fi := hH3
        have hX0 : h'.1 k = xa_o 9 [xa_r (k + 1), xa_r (k + 3), xa_r (k + 6), xa_r (k + 9), xa_r (k + 11), xa_r (k + 15), xa_i kp, xa_r (k + 24), xa_r (k + 31), xa_r (k + 32), xa_r (k + 36), xa_r (k + 48), xa_r (k + 60)] := (hqf _ (by omega)).trans hX0
        have hT0 : h'.1 (k + 1) = xa_o 7 [xa_r (k + 1 + 1), xa_i ((n : Nat) : Int)] := (hqf _ (by omega)).trans hT0
        have hT1 : h'.1 (k + 1 + 1) = xa_a 120 f := (hqf _ (by omega)).trans hT1
        have hD0 : h'.1 (k + 6) = xa_o 0 [xa_r (k + 6 + 1), xa_r (k + 6 + 2), xa_i ((pa3 : Nat) : Int), xa_i ((jo3 : Nat) : Int), xa_i wa3, xa_i sr3, xa_i pu3, xa_i ri3] := (hqf _ (by omega)).trans hD0
        have hD1 : h'.1 (k + 6 + 1) = xa_a 9 ld3 := (hqf _ (by omega)).trans hD1
        have hD2 : h'.1 (k + 6 + 2) = xa_a 2 dg3 := (hqf _ (by omega)).trans hD2
        have hR0 : h'.1 (k + 9) = xa_o 2 [xa_r (k + 1), xa_r (k + 6), xa_r (k + 9 + 1), xa_i ((p' : Nat) : Int)] := (hqf _ (by omega)).trans hR0
        have hR1 : h'.1 (k + 9 + 1) = xa_a 3 nu' := (hqf _ (by omega)).trans hR1
        have hB0 : h'.1 (k + 3) = xa_o 0 [xa_r (k + 3 + 1), xa_r (k + 3 + 2), xa_i ((pa3 : Nat) : Int), xa_i ((jo3 : Nat) : Int), xa_i wa3, xa_i sr3, xa_i pu3, xa_i ri3] := (hqf _ (by omega)).trans hB0
        have hB1 : h'.1 (k + 3 + 1) = xa_a 9 (sp_cp ld ld3 9) := (hqf _ (by omega)).trans hB1
        have hB2 : h'.1 (k + 3 + 2) = xa_a 2 (sp_cp dg dg3 2) := (hqf _ (by omega)).trans hB2
        have hE1 : h'.1 (k + 36) = xa_o 3 [xa_r (k + 3), xa_r (k + 36 + 4), xa_r (k + 36 + 1), xa_r (k + 36 + 2), xa_r l1, xa_i 0, xa_i o1, xa_i f1, xa_i u1, xa_i b1, xa_i t1, xa_i m1] := (hqf _ (by omega)).trans hE1
        have hE2 : h'.1 (k + 48) = xa_o 3 [xa_r (k + 3), xa_r (k + 48 + 4), xa_r (k + 48 + 1), xa_r (k + 48 + 2), xa_r l2, xa_i 0, xa_i o2, xa_i f2, xa_i u2, xa_i b2, xa_i t2, xa_i m2] := (hqf _ (by omega)).trans hE2
        have hE3 : h'.1 (k + 60) = xa_o 3 [xa_r (k + 3), xa_r (k + 60 + 4), xa_r (k + 60 + 1), xa_r (k + 60 + 2), xa_r l3, xa_i 0, xa_i o3, xa_i f3, xa_i u3, xa_i b3, xa_i t3, xa_i m3] := (hqf _ (by omega)).trans hE3
        have hn : h'.2 = h.2 := hqn.trans hn
        have fr : ∀ i, (i ≠ k ∧ (i < k + 3 ∨ k + 15 ≤ i) ∧ i ≠ k + 36 ∧ i ≠ k + 48 ∧ i ≠ k + 60) → h'.1 i = h.1 i := fun i hi => (hqf i (by omega)).trans (fr i hi)
        refine xa_aload_n (pc := 78) dX9_lay_78 rfl ?_
        refine xa_iconst (pc := 79) dX9_lay_79 ?_
        refine xa_putw (pc := 80) [xa_r (k + 1), xa_r (k + 3), xa_r (k + 6), xa_r (k + 9), xa_r (k + 11), xa_r (k + 15), xa_i 0, xa_r (k + 24), xa_r (k + 31), xa_r (k + 32), xa_r (k + 36), xa_r (k + 48), xa_r (k + 60)] dX9_lay_80 flRX9_121 plX9_6 (by omega) (by omega) hX0 trivial rfl (fun h2 nh2 ch2 oh2 => ?_)
        have hX0 : h2.1 k = xa_o 9 [xa_r (k + 1), xa_r (k + 3), xa_r (k + 6), xa_r (k + 9), xa_r (k + 11), xa_r (k + 15), xa_i 0, xa_r (k + 24), xa_r (k + 31), xa_r (k + 32), xa_r (k + 36), xa_r (k + 48), xa_r (k + 60)] := ch2
        have hT0 : h2.1 (k + 1) = xa_o 7 [xa_r (k + 1 + 1), xa_i ((n : Nat) : Int)] := (oh2 _ (by omega)).trans hT0
        have hT1 : h2.1 (k + 1 + 1) = xa_a 120 f := (oh2 _ (by omega)).trans hT1
        have hD0 : h2.1 (k + 6) = xa_o 0 [xa_r (k + 6 + 1), xa_r (k + 6 + 2), xa_i ((pa3 : Nat) : Int), xa_i ((jo3 : Nat) : Int), xa_i wa3, xa_i sr3, xa_i pu3, xa_i ri3] := (oh2 _ (by omega)).trans hD0
        have hD1 : h2.1 (k + 6 + 1) = xa_a 9 ld3 := (oh2 _ (by omega)).trans hD1
        have hD2 : h2.1 (k + 6 + 2) = xa_a 2 dg3 := (oh2 _ (by omega)).trans hD2
        have hR0 : h2.1 (k + 9) = xa_o 2 [xa_r (k + 1), xa_r (k + 6), xa_r (k + 9 + 1), xa_i ((p' : Nat) : Int)] := (oh2 _ (by omega)).trans hR0
        have hR1 : h2.1 (k + 9 + 1) = xa_a 3 nu' := (oh2 _ (by omega)).trans hR1
        have hB0 : h2.1 (k + 3) = xa_o 0 [xa_r (k + 3 + 1), xa_r (k + 3 + 2), xa_i ((pa3 : Nat) : Int), xa_i ((jo3 : Nat) : Int), xa_i wa3, xa_i sr3, xa_i pu3, xa_i ri3] := (oh2 _ (by omega)).trans hB0
        have hB1 : h2.1 (k + 3 + 1) = xa_a 9 (sp_cp ld ld3 9) := (oh2 _ (by omega)).trans hB1
        have hB2 : h2.1 (k + 3 + 2) = xa_a 2 (sp_cp dg dg3 2) := (oh2 _ (by omega)).trans hB2
        have hH0 : h2.1 (k + 11) = xa_o 5 [xa_r (k + 11 + 1), xa_r (k + 11 + 2), xa_r (k + 11 + 3), xa_i 0] := (oh2 _ (by omega)).trans hH0
        have hH1 : h2.1 (k + 11 + 1) = xa_a 240 mv := (oh2 _ (by omega)).trans hH1
        have hH2 : h2.1 (k + 11 + 2) = xa_a 4 (xa_fl le 4 0) := (oh2 _ (by omega)).trans hH2
        have hH3 : h2.1 (k + 11 + 3) = xa_a 120 fi := (oh2 _ (by omega)).trans hH3
        have hE1 : h2.1 (k + 36) = xa_o 3 [xa_r (k + 3), xa_r (k + 36 + 4), xa_r (k + 36 + 1), xa_r (k + 36 + 2), xa_r l1, xa_i 0, xa_i o1, xa_i f1, xa_i u1, xa_i b1, xa_i t1, xa_i m1] := (oh2 _ (by omega)).trans hE1
        have hE2 : h2.1 (k + 48) = xa_o 3 [xa_r (k + 3), xa_r (k + 48 + 4), xa_r (k + 48 + 1), xa_r (k + 48 + 2), xa_r l2, xa_i 0, xa_i o2, xa_i f2, xa_i u2, xa_i b2, xa_i t2, xa_i m2] := (oh2 _ (by omega)).trans hE2
        have hE3 : h2.1 (k + 60) = xa_o 3 [xa_r (k + 3), xa_r (k + 60 + 4), xa_r (k + 60 + 1), xa_r (k + 60 + 2), xa_r l3, xa_i 0, xa_i o3, xa_i f3, xa_i u3, xa_i b3, xa_i t3, xa_i m3] := (oh2 _ (by omega)).trans hE3
        have hn : h2.2 = h.2 := nh2.trans hn
        have fr : ∀ i, (i ≠ k ∧ (i < k + 3 ∨ k + 15 ≤ i) ∧ i ≠ k + 36 ∧ i ≠ k + 48 ∧ i ≠ k + 60) → h2.1 i = h.1 i := fun i hi => (oh2 i (by omega)).trans (fr i hi)
        refine xa_aload_n (pc := 83) dX9_lay_83 rfl ?_
        refine xa_getfield (pc := 84) dX9_lay_84 flRX9_19 (by omega) (by omega) hX0 rfl ?_
        refine xa_getfield (pc := 87) dX9_lay_87 flRX9_124 (by omega) (by omega) hB0 rfl ?_
        refine xa_ireturn (pc := 90) dX9_lay_90 rfl trivial ?_
        exact ⟨Or.inr ⟨⟨rd_res_none.mp (by omega), c_19⟩, rfl, ⟨⟨hD0, hD1, hD2, by omega, by omega⟩, hvD, p', nu', ⟨hR0, hR1, by omega, by omega⟩, hnu'⟩, ⟨hX0, by omega, by omega⟩, ⟨hH0, hH1, hH2, hH3, by omega, by omega⟩, Or.inr ⟨⟨hB0, hB1, hB2, by omega, by omega⟩, hE1, hE2, hE3⟩⟩, hn, fr⟩
    · have c_19 := xa_b0.mp c_19
      refine xa_bipush (pc := 22) dX9_lay_22 rfl ?_
      refine xa_ireturn (pc := 24) dX9_lay_24 rfl trivial ?_
      exact ⟨Or.inl ⟨fun z => by have := rd_res_none.mpr z.1; omega, rfl, ⟨⟨hD0, hD1, hD2, by omega, by omega⟩, hvD, p', nu', ⟨hR0, hR1, by omega, by omega⟩, hnu'⟩, ⟨hX0, by omega, by omega⟩, ⟨hB0, hB1, hB2, by omega, by omega⟩, ⟨hH0, hH1, hH2, hH3, by omega, by omega⟩, hE1, hE2, hE3⟩, hn, fr⟩
theorem c_xFree {G : xa_G} {h : xa_H} (k : Nat) (kp : Int) (ld dg : Nat → Int) (pa jo : Nat) (wa sr pu ri : Int) (J : Int) (h1 : xa_ok J) (hB9 : vB ld dg pa jo wa sr pu ri) (hX : xX0 h k kp) (hB : xB h (k + 3) ld dg pa jo wa sr pu ri) (hL : xLS h k)  : xa_M G mX9_free [xa_r k, xa_i J] h 0 0 (fun r h' => (∃ r0, r = some (xa_i r0) ∧ sq_free ld dg pa jo wa sr J r0) ∧ xLS h' k ∧ h'.2 = h.2 ∧ ∀ i, (i < k + 33 ∨ k + 36 ≤ i) → h'.1 i = h.1 i) := by
  refine xa_enter (by decide +kernel) (Nat.le_of_ble_eq_true rfl) ?_
  refine xa_locals (ls' := [some (xa_r k), some (xa_i J)]) rfl ?_
  have hn : h.2 = h.2 := rfl
  have fr : ∀ i, (i < k + 33 ∨ k + 36 ≤ i) → h.1 i = h.1 i := fun _ _ => rfl
  obtain ⟨hX0, hk, hkn⟩ := hX
  obtain ⟨hB0, hB1, hB2, hBk, hBn⟩ := hB
  obtain ⟨hL0, po, sp, tj, tb, ⟨hS0, hS1, hS2, -, -⟩, hpo, hsp, htj⟩ := hL
  have hst : (∀ i, 0 ≤ po i ∧ po i ≤ 2) ∧ (∀ i, -2 ≤ sp i ∧ sp i ≤ 12) ∧ (tj = 0 ∨ tj = 1) := ⟨hpo, hsp, htj⟩
  clear hpo hsp htj
  have h0' := hB9.1
  refine xa_iload_n (pc := 0) dX9_free_0 rfl ?_
  refine xa_iconst (pc := 1) dX9_free_1 ?_
  refine xa_iconst (pc := 2) dX9_free_2 ?_
  refine xa_aload_n (pc := 3) dX9_free_3 rfl ?_
  refine xa_getfield (pc := 4) dX9_free_4 flRX9_19 (by omega) (by omega) hX0 rfl ?_
  refine xa_getfield (pc := 7) dX9_free_7 flRX9_214 (by omega) (by omega) hB0 rfl ?_
  refine xa_ishl (pc := 10) dX9_free_10 ?_
  obtain ⟨Y, hY, hY2⟩ := shl_jo (jo := jo) (by omega)
  refine xa_top (y := Y) hY ?_
  refine xa_iconst (pc := 11) dX9_free_11 ?_
  refine xa_isub (pc := 12) dX9_free_12 ?_
  refine xa_callS (pc := 13) (as := [xa_i J, xa_i 0, xa_i (Y - 1)]) (rest := []) dX9_free_13 ⟨qX9_isWithin.1, qX9_isWithin.2.1, qX9_isWithin.2.2, by decide, by decide⟩ lkRX9_89 smX9_isWithin rfl rfl (Nat.le_of_ble_eq_true rfl) (Nat.zero_le _) (Nat.zero_le _) (c_isWithin _ _ _ ⟨by omega, by omega⟩ (by decide) ⟨by omega, by omega⟩) (fun r h' hq => ?_)
  obtain ⟨rfl, hq⟩ := hq
  have hq := hq.symm
  subst hq
  refine xa_if_ne (pc := 16) (tgt := 21) dX9_free_16 (by decide) xa_okb (fun c_16 => ?_) (fun c_16 => ?_)
  · have c_16 := xa_b1.mp c_16
    refine xa_aload_n (pc := 21) dX9_free_21 rfl ?_
    refine xa_getfield (pc := 22) dX9_free_22 flRX9_62 (by omega) (by omega) hX0 rfl ?_
    refine xa_iload_n (pc := 25) dX9_free_25 rfl ?_
    refine xa_callV (pc := 26) (as := [xa_i J]) (rest := []) dX9_free_26 ⟨qX1_turnsBy.1, qX1_turnsBy.2.1, qX1_turnsBy.2.2, by decide, by decide⟩ lkRX9_217 imX1_turnsBy seX1_turnsBy rfl rfl (by omega) (by omega) hL0 rfl (Nat.le_of_ble_eq_true rfl) (Nat.zero_le _) (Nat.zero_le _) (c_turnsBy (k + 32) (k + 3) J ld dg pa jo wa sr pu ri po sp tj tb hB9 (by omega) (by omega) (by omega) (by omega) (by omega) hst hL0 hS0 hS1 hS2 hB0 hB1 hB2) (fun r h' hq => ?_)
    have hq : r = some (xa_i ((lpq ld dg pa jo wa sr J : Nat) : Int)) ∧ _ := hq
    obtain ⟨rfl, ⟨po, sp, tj, tb, ⟨hS0, hS1, hS2, -, -⟩, hst⟩, hqn, hqf⟩ := hq
    have hlp_J := lpq_le ld dg pa jo wa sr J
    have hS0 : h'.1 (k + 32 + 1) = xa_o 4 [xa_r (k + 3), xa_r (k + 32 + 1 + 1), xa_r (k + 32 + 1 + 2), xa_i tj, xa_i tb] := hS0
    have hS1 : h'.1 (k + 32 + 1 + 1) = xa_a 3 po := hS1
    have hS2 : h'.1 (k + 32 + 1 + 2) = xa_a 2 sp := hS2
    have hX0 : h'.1 k = xa_o 9 [xa_r (k + 1), xa_r (k + 3), xa_r (k + 6), xa_r (k + 9), xa_r (k + 11), xa_r (k + 15), xa_i kp, xa_r (k + 24), xa_r (k + 31), xa_r (k + 32), xa_r (k + 36), xa_r (k + 48), xa_r (k + 60)] := (hqf _ (by omega)).trans hX0
    have hB0 : h'.1 (k + 3) = xa_o 0 [xa_r (k + 3 + 1), xa_r (k + 3 + 2), xa_i ((pa : Nat) : Int), xa_i ((jo : Nat) : Int), xa_i wa, xa_i sr, xa_i pu, xa_i ri] := (hqf _ (by omega)).trans hB0
    have hB1 : h'.1 (k + 3 + 1) = xa_a 9 ld := (hqf _ (by omega)).trans hB1
    have hB2 : h'.1 (k + 3 + 2) = xa_a 2 dg := (hqf _ (by omega)).trans hB2
    have hL0 : h'.1 (k + 32) = xa_o 1 [xa_r (k + 3), xa_r (k + 32 + 1)] := (hqf _ (by omega)).trans hL0
    have hn : h'.2 = h.2 := hqn.trans hn
    have fr : ∀ i, (i < k + 33 ∨ k + 36 ≤ i) → h'.1 i = h.1 i := fun i hi => (hqf i (by omega)).trans (fr i hi)
    refine xa_ireturn (pc := 29) dX9_free_29 rfl trivial ?_
    exact ⟨⟨_, rfl, Or.inr ⟨(show 0 ≤ J ∧ J ≤ (if jo = 1 then 1 else 3) by split <;> omega), lpq_fr hB9⟩⟩, ⟨hL0, po, sp, tj, tb, ⟨hS0, hS1, hS2, by omega, by omega⟩, hst⟩, hn, fr⟩
  · have c_16 := xa_b0.mp c_16
    refine xa_iconst (pc := 19) dX9_free_19 ?_
    refine xa_ireturn (pc := 20) dX9_free_20 rfl trivial ?_
    have hJn : ¬ (0 ≤ J ∧ J ≤ (if jo = 1 then 1 else 3)) := by split <;> omega
    exact ⟨⟨_, rfl, Or.inl ⟨hJn, rfl⟩⟩, ⟨hL0, po, sp, tj, tb, ⟨hS0, hS1, hS2, by omega, by omega⟩, hst⟩, hn, fr⟩
theorem c_xFewest1 {G : xa_G} {h : xa_H} (k : Nat) (kp : Int) (ld dg : Nat → Int) (pa jo : Nat) (wa sr pu ri : Int) (hB9 : vB ld dg pa jo wa sr pu ri) (hj9 : jo = 1) (hX : xX0 h k kp) (hB : xB h (k + 3) ld dg pa jo wa sr pu ri) (hL : xLS h k)  : xa_M G mX9_fewest [xa_r k] h 0 0 (fun r h' => (∃ r0, r = some (xa_i r0) ∧ sq_fewest ld dg pa jo wa sr r0) ∧ xLS h' k ∧ h'.2 = h.2 ∧ ∀ i, (i < k + 33 ∨ k + 36 ≤ i) → h'.1 i = h.1 i) := by
  refine xa_enter (by decide +kernel) (Nat.le_of_ble_eq_true rfl) ?_
  refine xa_locals (ls' := [some (xa_r k), none]) rfl ?_
  have hn : h.2 = h.2 := rfl
  have fr : ∀ i, (i < k + 33 ∨ k + 36 ≤ i) → h.1 i = h.1 i := fun _ _ => rfl
  obtain ⟨hX0, hk, hkn⟩ := hX
  obtain ⟨hB0, hB1, hB2, hBk, hBn⟩ := hB
  obtain ⟨hL0, po, sp, tj, tb, ⟨hS0, hS1, hS2, -, -⟩, hpo, hsp, htj⟩ := hL
  have hst : (∀ i, 0 ≤ po i ∧ po i ≤ 2) ∧ (∀ i, -2 ≤ sp i ∧ sp i ≤ 12) ∧ (tj = 0 ∨ tj = 1) := ⟨hpo, hsp, htj⟩
  clear hpo hsp htj
  have h0' := hB9.1
  have z1 : ((1 : Nat) : Int) = 1 := rfl
  have z2 : ((2 : Nat) : Int) = 2 := rfl
  have z3 : ((3 : Nat) : Int) = 3 := rfl
  refine xa_iconst (pc := 0) dX9_fewest_0 ?_
  refine xa_istoren (pc := 1) [some (xa_r k), some (xa_i 1)] dX9_fewest_1 (by decide) (Nat.le_of_ble_eq_true rfl) rfl rfl ?_
  refine xa_iload_n (pc := 2) dX9_fewest_2 rfl ?_
  refine xa_iconst (pc := 3) dX9_fewest_3 ?_
  refine xa_aload_n (pc := 4) dX9_fewest_4 rfl ?_
  refine xa_getfield (pc := 5) dX9_fewest_5 flRX9_19 (by omega) (by omega) hX0 rfl ?_
  refine xa_getfield (pc := 8) dX9_fewest_8 flRX9_214 (by omega) (by omega) hB0 rfl ?_
  refine xa_ishl (pc := 11) dX9_fewest_11 ?_
  refine xa_top (y := 2) (by rw [hj9]; decide) ?_
  refine xa_icmp_ge (pc := 12) (tgt := 35) dX9_fewest_12 (by decide) (by decide) (by decide) (fun c_12 => ?_) (fun c_12 => ?_)
  · skip
    exfalso; omega
  · skip
    refine xa_aload_n (pc := 15) dX9_fewest_15 rfl ?_
    refine xa_getfield (pc := 16) dX9_fewest_16 flRX9_62 (by omega) (by omega) hX0 rfl ?_
    refine xa_iload_n (pc := 19) dX9_fewest_19 rfl ?_
    refine xa_callV (pc := 20) (as := [xa_i 1]) (rest := []) dX9_fewest_20 ⟨qX1_turnsBy.1, qX1_turnsBy.2.1, qX1_turnsBy.2.2, by decide, by decide⟩ lkRX9_217 imX1_turnsBy seX1_turnsBy rfl rfl (by omega) (by omega) hL0 rfl (Nat.le_of_ble_eq_true rfl) (Nat.zero_le _) (Nat.zero_le _) (c_turnsBy (k + 32) (k + 3) 1 ld dg pa jo wa sr pu ri po sp tj tb hB9 (by omega) (by omega) (by omega) (by omega) (by omega) hst hL0 hS0 hS1 hS2 hB0 hB1 hB2) (fun r h' hq => ?_)
    have hq : r = some (xa_i ((lpq ld dg pa jo wa sr 1 : Nat) : Int)) ∧ _ := hq
    obtain ⟨rfl, ⟨po, sp, tj, tb, ⟨hS0, hS1, hS2, -, -⟩, hst⟩, hqn, hqf⟩ := hq
    have hlp_1 := lpq_le ld dg pa jo wa sr 1
    have hS0 : h'.1 (k + 32 + 1) = xa_o 4 [xa_r (k + 3), xa_r (k + 32 + 1 + 1), xa_r (k + 32 + 1 + 2), xa_i tj, xa_i tb] := hS0
    have hS1 : h'.1 (k + 32 + 1 + 1) = xa_a 3 po := hS1
    have hS2 : h'.1 (k + 32 + 1 + 2) = xa_a 2 sp := hS2
    have hX0 : h'.1 k = xa_o 9 [xa_r (k + 1), xa_r (k + 3), xa_r (k + 6), xa_r (k + 9), xa_r (k + 11), xa_r (k + 15), xa_i kp, xa_r (k + 24), xa_r (k + 31), xa_r (k + 32), xa_r (k + 36), xa_r (k + 48), xa_r (k + 60)] := (hqf _ (by omega)).trans hX0
    have hB0 : h'.1 (k + 3) = xa_o 0 [xa_r (k + 3 + 1), xa_r (k + 3 + 2), xa_i ((pa : Nat) : Int), xa_i ((jo : Nat) : Int), xa_i wa, xa_i sr, xa_i pu, xa_i ri] := (hqf _ (by omega)).trans hB0
    have hB1 : h'.1 (k + 3 + 1) = xa_a 9 ld := (hqf _ (by omega)).trans hB1
    have hB2 : h'.1 (k + 3 + 2) = xa_a 2 dg := (hqf _ (by omega)).trans hB2
    have hL0 : h'.1 (k + 32) = xa_o 1 [xa_r (k + 3), xa_r (k + 32 + 1)] := (hqf _ (by omega)).trans hL0
    have hn : h'.2 = h.2 := hqn.trans hn
    have fr : ∀ i, (i < k + 33 ∨ k + 36 ≤ i) → h'.1 i = h.1 i := fun i hi => (hqf i (by omega)).trans (fr i hi)
    refine xa_iconst (pc := 23) dX9_fewest_23 ?_
    refine xa_icmp_le (pc := 24) (tgt := 29) dX9_fewest_24 (by decide) ⟨by omega, by omega⟩ (by decide) (fun c_24 => ?_) (fun c_24 => ?_)
    · skip
      refine xa_iincw (pc := 29) (y := 2) [some (xa_r k), some (xa_i 2)] dX9_fewest_29 (by decide) rfl rfl rfl rfl ?_
      refine xa_goto (pc := 32) (tgt := 2) dX9_fewest_32 (by decide) ?_
      refine xa_iload_n (pc := 2) dX9_fewest_2 rfl ?_
      refine xa_iconst (pc := 3) dX9_fewest_3 ?_
      refine xa_aload_n (pc := 4) dX9_fewest_4 rfl ?_
      refine xa_getfield (pc := 5) dX9_fewest_5 flRX9_19 (by omega) (by omega) hX0 rfl ?_
      refine xa_getfield (pc := 8) dX9_fewest_8 flRX9_214 (by omega) (by omega) hB0 rfl ?_
      refine xa_ishl (pc := 11) dX9_fewest_11 ?_
      refine xa_top (y := 2) (by rw [hj9]; decide) ?_
      refine xa_icmp_ge (pc := 12) (tgt := 35) dX9_fewest_12 (by decide) (by decide) (by decide) (fun c_12 => ?_) (fun c_12 => ?_)
      · skip
        refine xa_bipush (pc := 35) dX9_fewest_35 rfl ?_
        refine xa_ireturn (pc := 37) dX9_fewest_37 rfl trivial ?_
        refine ⟨⟨_, rfl, (fun J => ((lpq ld dg pa jo wa sr ((J : Nat) : Int) : Nat) : Int)), fun J _ => lpq_fr hB9, ?_⟩, ⟨hL0, po, sp, tj, tb, ⟨hS0, hS1, hS2, by omega, by omega⟩, hst⟩, hn, fr⟩
        show ((-4) : Int) = if ((lpq ld dg pa jo wa sr ((1 : Nat) : Int) : Nat) : Int) > 1 then (1 : Int) else if jo = 1 then -4 else if ((lpq ld dg pa jo wa sr ((2 : Nat) : Int) : Nat) : Int) > 1 then 2 else if ((lpq ld dg pa jo wa sr ((3 : Nat) : Int) : Nat) : Int) > 1 then 3 else -4
        simp only [z1, z2, z3]
        rw [if_neg (by omega), if_pos hj9]
      · skip
        exfalso; omega
    · skip
      refine xa_iload_n (pc := 27) dX9_fewest_27 rfl ?_
      refine xa_ireturn (pc := 28) dX9_fewest_28 rfl trivial ?_
      refine ⟨⟨_, rfl, (fun J => ((lpq ld dg pa jo wa sr ((J : Nat) : Int) : Nat) : Int)), fun J _ => lpq_fr hB9, ?_⟩, ⟨hL0, po, sp, tj, tb, ⟨hS0, hS1, hS2, by omega, by omega⟩, hst⟩, hn, fr⟩
      show (1 : Int) = if ((lpq ld dg pa jo wa sr ((1 : Nat) : Int) : Nat) : Int) > 1 then (1 : Int) else if jo = 1 then -4 else if ((lpq ld dg pa jo wa sr ((2 : Nat) : Int) : Nat) : Int) > 1 then 2 else if ((lpq ld dg pa jo wa sr ((3 : Nat) : Int) : Nat) : Int) > 1 then 3 else -4
      simp only [z1, z2, z3]
      rw [if_pos (by omega)]
theorem c_xFewest2 {G : xa_G} {h : xa_H} (k : Nat) (kp : Int) (ld dg : Nat → Int) (pa jo : Nat) (wa sr pu ri : Int) (hB9 : vB ld dg pa jo wa sr pu ri) (hj9 : jo = 2) (hX : xX0 h k kp) (hB : xB h (k + 3) ld dg pa jo wa sr pu ri) (hL : xLS h k)  : xa_M G mX9_fewest [xa_r k] h 0 0 (fun r h' => (∃ r0, r = some (xa_i r0) ∧ sq_fewest ld dg pa jo wa sr r0) ∧ xLS h' k ∧ h'.2 = h.2 ∧ ∀ i, (i < k + 33 ∨ k + 36 ≤ i) → h'.1 i = h.1 i) := by
  refine xa_enter (by decide +kernel) (Nat.le_of_ble_eq_true rfl) ?_
  refine xa_locals (ls' := [some (xa_r k), none]) rfl ?_
  have hn : h.2 = h.2 := rfl
  have fr : ∀ i, (i < k + 33 ∨ k + 36 ≤ i) → h.1 i = h.1 i := fun _ _ => rfl
  obtain ⟨hX0, hk, hkn⟩ := hX
  obtain ⟨hB0, hB1, hB2, hBk, hBn⟩ := hB
  obtain ⟨hL0, po, sp, tj, tb, ⟨hS0, hS1, hS2, -, -⟩, hpo, hsp, htj⟩ := hL
  have hst : (∀ i, 0 ≤ po i ∧ po i ≤ 2) ∧ (∀ i, -2 ≤ sp i ∧ sp i ≤ 12) ∧ (tj = 0 ∨ tj = 1) := ⟨hpo, hsp, htj⟩
  clear hpo hsp htj
  have h0' := hB9.1
  have z1 : ((1 : Nat) : Int) = 1 := rfl
  have z2 : ((2 : Nat) : Int) = 2 := rfl
  have z3 : ((3 : Nat) : Int) = 3 := rfl
  refine xa_iconst (pc := 0) dX9_fewest_0 ?_
  refine xa_istoren (pc := 1) [some (xa_r k), some (xa_i 1)] dX9_fewest_1 (by decide) (Nat.le_of_ble_eq_true rfl) rfl rfl ?_
  refine xa_iload_n (pc := 2) dX9_fewest_2 rfl ?_
  refine xa_iconst (pc := 3) dX9_fewest_3 ?_
  refine xa_aload_n (pc := 4) dX9_fewest_4 rfl ?_
  refine xa_getfield (pc := 5) dX9_fewest_5 flRX9_19 (by omega) (by omega) hX0 rfl ?_
  refine xa_getfield (pc := 8) dX9_fewest_8 flRX9_214 (by omega) (by omega) hB0 rfl ?_
  refine xa_ishl (pc := 11) dX9_fewest_11 ?_
  refine xa_top (y := 4) (by rw [hj9]; decide) ?_
  refine xa_icmp_ge (pc := 12) (tgt := 35) dX9_fewest_12 (by decide) (by decide) (by decide) (fun c_12 => ?_) (fun c_12 => ?_)
  · skip
    exfalso; omega
  · skip
    refine xa_aload_n (pc := 15) dX9_fewest_15 rfl ?_
    refine xa_getfield (pc := 16) dX9_fewest_16 flRX9_62 (by omega) (by omega) hX0 rfl ?_
    refine xa_iload_n (pc := 19) dX9_fewest_19 rfl ?_
    refine xa_callV (pc := 20) (as := [xa_i 1]) (rest := []) dX9_fewest_20 ⟨qX1_turnsBy.1, qX1_turnsBy.2.1, qX1_turnsBy.2.2, by decide, by decide⟩ lkRX9_217 imX1_turnsBy seX1_turnsBy rfl rfl (by omega) (by omega) hL0 rfl (Nat.le_of_ble_eq_true rfl) (Nat.zero_le _) (Nat.zero_le _) (c_turnsBy (k + 32) (k + 3) 1 ld dg pa jo wa sr pu ri po sp tj tb hB9 (by omega) (by omega) (by omega) (by omega) (by omega) hst hL0 hS0 hS1 hS2 hB0 hB1 hB2) (fun r h' hq => ?_)
    have hq : r = some (xa_i ((lpq ld dg pa jo wa sr 1 : Nat) : Int)) ∧ _ := hq
    obtain ⟨rfl, ⟨po, sp, tj, tb, ⟨hS0, hS1, hS2, -, -⟩, hst⟩, hqn, hqf⟩ := hq
    have hlp_1 := lpq_le ld dg pa jo wa sr 1
    have hS0 : h'.1 (k + 32 + 1) = xa_o 4 [xa_r (k + 3), xa_r (k + 32 + 1 + 1), xa_r (k + 32 + 1 + 2), xa_i tj, xa_i tb] := hS0
    have hS1 : h'.1 (k + 32 + 1 + 1) = xa_a 3 po := hS1
    have hS2 : h'.1 (k + 32 + 1 + 2) = xa_a 2 sp := hS2
    have hX0 : h'.1 k = xa_o 9 [xa_r (k + 1), xa_r (k + 3), xa_r (k + 6), xa_r (k + 9), xa_r (k + 11), xa_r (k + 15), xa_i kp, xa_r (k + 24), xa_r (k + 31), xa_r (k + 32), xa_r (k + 36), xa_r (k + 48), xa_r (k + 60)] := (hqf _ (by omega)).trans hX0
    have hB0 : h'.1 (k + 3) = xa_o 0 [xa_r (k + 3 + 1), xa_r (k + 3 + 2), xa_i ((pa : Nat) : Int), xa_i ((jo : Nat) : Int), xa_i wa, xa_i sr, xa_i pu, xa_i ri] := (hqf _ (by omega)).trans hB0
    have hB1 : h'.1 (k + 3 + 1) = xa_a 9 ld := (hqf _ (by omega)).trans hB1
    have hB2 : h'.1 (k + 3 + 2) = xa_a 2 dg := (hqf _ (by omega)).trans hB2
    have hL0 : h'.1 (k + 32) = xa_o 1 [xa_r (k + 3), xa_r (k + 32 + 1)] := (hqf _ (by omega)).trans hL0
    have hn : h'.2 = h.2 := hqn.trans hn
    have fr : ∀ i, (i < k + 33 ∨ k + 36 ≤ i) → h'.1 i = h.1 i := fun i hi => (hqf i (by omega)).trans (fr i hi)
    refine xa_iconst (pc := 23) dX9_fewest_23 ?_
    refine xa_icmp_le (pc := 24) (tgt := 29) dX9_fewest_24 (by decide) ⟨by omega, by omega⟩ (by decide) (fun c_24 => ?_) (fun c_24 => ?_)
    · skip
      refine xa_iincw (pc := 29) (y := 2) [some (xa_r k), some (xa_i 2)] dX9_fewest_29 (by decide) rfl rfl rfl rfl ?_
      refine xa_goto (pc := 32) (tgt := 2) dX9_fewest_32 (by decide) ?_
      refine xa_iload_n (pc := 2) dX9_fewest_2 rfl ?_
      refine xa_iconst (pc := 3) dX9_fewest_3 ?_
      refine xa_aload_n (pc := 4) dX9_fewest_4 rfl ?_
      refine xa_getfield (pc := 5) dX9_fewest_5 flRX9_19 (by omega) (by omega) hX0 rfl ?_
      refine xa_getfield (pc := 8) dX9_fewest_8 flRX9_214 (by omega) (by omega) hB0 rfl ?_
      refine xa_ishl (pc := 11) dX9_fewest_11 ?_
      refine xa_top (y := 4) (by rw [hj9]; decide) ?_
      refine xa_icmp_ge (pc := 12) (tgt := 35) dX9_fewest_12 (by decide) (by decide) (by decide) (fun c_12 => ?_) (fun c_12 => ?_)
      · skip
        exfalso; omega
      · skip
        refine xa_aload_n (pc := 15) dX9_fewest_15 rfl ?_
        refine xa_getfield (pc := 16) dX9_fewest_16 flRX9_62 (by omega) (by omega) hX0 rfl ?_
        refine xa_iload_n (pc := 19) dX9_fewest_19 rfl ?_
        refine xa_callV (pc := 20) (as := [xa_i 2]) (rest := []) dX9_fewest_20 ⟨qX1_turnsBy.1, qX1_turnsBy.2.1, qX1_turnsBy.2.2, by decide, by decide⟩ lkRX9_217 imX1_turnsBy seX1_turnsBy rfl rfl (by omega) (by omega) hL0 rfl (Nat.le_of_ble_eq_true rfl) (Nat.zero_le _) (Nat.zero_le _) (c_turnsBy (k + 32) (k + 3) 2 ld dg pa jo wa sr pu ri po sp tj tb hB9 (by omega) (by omega) (by omega) (by omega) (by omega) hst hL0 hS0 hS1 hS2 hB0 hB1 hB2) (fun r h' hq => ?_)
        have hq : r = some (xa_i ((lpq ld dg pa jo wa sr 2 : Nat) : Int)) ∧ _ := hq
        obtain ⟨rfl, ⟨po, sp, tj, tb, ⟨hS0, hS1, hS2, -, -⟩, hst⟩, hqn, hqf⟩ := hq
        have hlp_2 := lpq_le ld dg pa jo wa sr 2
        have hS0 : h'.1 (k + 32 + 1) = xa_o 4 [xa_r (k + 3), xa_r (k + 32 + 1 + 1), xa_r (k + 32 + 1 + 2), xa_i tj, xa_i tb] := hS0
        have hS1 : h'.1 (k + 32 + 1 + 1) = xa_a 3 po := hS1
        have hS2 : h'.1 (k + 32 + 1 + 2) = xa_a 2 sp := hS2
        have hX0 : h'.1 k = xa_o 9 [xa_r (k + 1), xa_r (k + 3), xa_r (k + 6), xa_r (k + 9), xa_r (k + 11), xa_r (k + 15), xa_i kp, xa_r (k + 24), xa_r (k + 31), xa_r (k + 32), xa_r (k + 36), xa_r (k + 48), xa_r (k + 60)] := (hqf _ (by omega)).trans hX0
        have hB0 : h'.1 (k + 3) = xa_o 0 [xa_r (k + 3 + 1), xa_r (k + 3 + 2), xa_i ((pa : Nat) : Int), xa_i ((jo : Nat) : Int), xa_i wa, xa_i sr, xa_i pu, xa_i ri] := (hqf _ (by omega)).trans hB0
        have hB1 : h'.1 (k + 3 + 1) = xa_a 9 ld := (hqf _ (by omega)).trans hB1
        have hB2 : h'.1 (k + 3 + 2) = xa_a 2 dg := (hqf _ (by omega)).trans hB2
        have hL0 : h'.1 (k + 32) = xa_o 1 [xa_r (k + 3), xa_r (k + 32 + 1)] := (hqf _ (by omega)).trans hL0
        have hn : h'.2 = h.2 := hqn.trans hn
        have fr : ∀ i, (i < k + 33 ∨ k + 36 ≤ i) → h'.1 i = h.1 i := fun i hi => (hqf i (by omega)).trans (fr i hi)
        refine xa_iconst (pc := 23) dX9_fewest_23 ?_
        refine xa_icmp_le (pc := 24) (tgt := 29) dX9_fewest_24 (by decide) ⟨by omega, by omega⟩ (by decide) (fun c_24 => ?_) (fun c_24 => ?_)
        · skip
          refine xa_iincw (pc := 29) (y := 3) [some (xa_r k), some (xa_i 3)] dX9_fewest_29 (by decide) rfl rfl rfl rfl ?_
          refine xa_goto (pc := 32) (tgt := 2) dX9_fewest_32 (by decide) ?_
          refine xa_iload_n (pc := 2) dX9_fewest_2 rfl ?_
          refine xa_iconst (pc := 3) dX9_fewest_3 ?_
          refine xa_aload_n (pc := 4) dX9_fewest_4 rfl ?_
          refine xa_getfield (pc := 5) dX9_fewest_5 flRX9_19 (by omega) (by omega) hX0 rfl ?_
          refine xa_getfield (pc := 8) dX9_fewest_8 flRX9_214 (by omega) (by omega) hB0 rfl ?_
          refine xa_ishl (pc := 11) dX9_fewest_11 ?_
          refine xa_top (y := 4) (by rw [hj9]; decide) ?_
          refine xa_icmp_ge (pc := 12) (tgt := 35) dX9_fewest_12 (by decide) (by decide) (by decide) (fun c_12 => ?_) (fun c_12 => ?_)
          · skip
            exfalso; omega
          · skip
            refine xa_aload_n (pc := 15) dX9_fewest_15 rfl ?_
            refine xa_getfield (pc := 16) dX9_fewest_16 flRX9_62 (by omega) (by omega) hX0 rfl ?_
            refine xa_iload_n (pc := 19) dX9_fewest_19 rfl ?_
            refine xa_callV (pc := 20) (as := [xa_i 3]) (rest := []) dX9_fewest_20 ⟨qX1_turnsBy.1, qX1_turnsBy.2.1, qX1_turnsBy.2.2, by decide, by decide⟩ lkRX9_217 imX1_turnsBy seX1_turnsBy rfl rfl (by omega) (by omega) hL0 rfl (Nat.le_of_ble_eq_true rfl) (Nat.zero_le _) (Nat.zero_le _) (c_turnsBy (k + 32) (k + 3) 3 ld dg pa jo wa sr pu ri po sp tj tb hB9 (by omega) (by omega) (by omega) (by omega) (by omega) hst hL0 hS0 hS1 hS2 hB0 hB1 hB2) (fun r h' hq => ?_)
            have hq : r = some (xa_i ((lpq ld dg pa jo wa sr 3 : Nat) : Int)) ∧ _ := hq
            obtain ⟨rfl, ⟨po, sp, tj, tb, ⟨hS0, hS1, hS2, -, -⟩, hst⟩, hqn, hqf⟩ := hq
            have hlp_3 := lpq_le ld dg pa jo wa sr 3
            have hS0 : h'.1 (k + 32 + 1) = xa_o 4 [xa_r (k + 3), xa_r (k + 32 + 1 + 1), xa_r (k + 32 + 1 + 2), xa_i tj, xa_i tb] := hS0
            have hS1 : h'.1 (k + 32 + 1 + 1) = xa_a 3 po := hS1
            have hS2 : h'.1 (k + 32 + 1 + 2) = xa_a 2 sp := hS2
            have hX0 : h'.1 k = xa_o 9 [xa_r (k + 1), xa_r (k + 3), xa_r (k + 6), xa_r (k + 9), xa_r (k + 11), xa_r (k + 15), xa_i kp, xa_r (k + 24), xa_r (k + 31), xa_r (k + 32), xa_r (k + 36), xa_r (k + 48), xa_r (k + 60)] := (hqf _ (by omega)).trans hX0
            have hB0 : h'.1 (k + 3) = xa_o 0 [xa_r (k + 3 + 1), xa_r (k + 3 + 2), xa_i ((pa : Nat) : Int), xa_i ((jo : Nat) : Int), xa_i wa, xa_i sr, xa_i pu, xa_i ri] := (hqf _ (by omega)).trans hB0
            have hB1 : h'.1 (k + 3 + 1) = xa_a 9 ld := (hqf _ (by omega)).trans hB1
            have hB2 : h'.1 (k + 3 + 2) = xa_a 2 dg := (hqf _ (by omega)).trans hB2
            have hL0 : h'.1 (k + 32) = xa_o 1 [xa_r (k + 3), xa_r (k + 32 + 1)] := (hqf _ (by omega)).trans hL0
            have hn : h'.2 = h.2 := hqn.trans hn
            have fr : ∀ i, (i < k + 33 ∨ k + 36 ≤ i) → h'.1 i = h.1 i := fun i hi => (hqf i (by omega)).trans (fr i hi)
            refine xa_iconst (pc := 23) dX9_fewest_23 ?_
            refine xa_icmp_le (pc := 24) (tgt := 29) dX9_fewest_24 (by decide) ⟨by omega, by omega⟩ (by decide) (fun c_24 => ?_) (fun c_24 => ?_)
            · skip
              refine xa_iincw (pc := 29) (y := 4) [some (xa_r k), some (xa_i 4)] dX9_fewest_29 (by decide) rfl rfl rfl rfl ?_
              refine xa_goto (pc := 32) (tgt := 2) dX9_fewest_32 (by decide) ?_
              refine xa_iload_n (pc := 2) dX9_fewest_2 rfl ?_
              refine xa_iconst (pc := 3) dX9_fewest_3 ?_
              refine xa_aload_n (pc := 4) dX9_fewest_4 rfl ?_
              refine xa_getfield (pc := 5) dX9_fewest_5 flRX9_19 (by omega) (by omega) hX0 rfl ?_
              refine xa_getfield (pc := 8) dX9_fewest_8 flRX9_214 (by omega) (by omega) hB0 rfl ?_
              refine xa_ishl (pc := 11) dX9_fewest_11 ?_
              refine xa_top (y := 4) (by rw [hj9]; decide) ?_
              refine xa_icmp_ge (pc := 12) (tgt := 35) dX9_fewest_12 (by decide) (by decide) (by decide) (fun c_12 => ?_) (fun c_12 => ?_)
              · skip
                refine xa_bipush (pc := 35) dX9_fewest_35 rfl ?_
                refine xa_ireturn (pc := 37) dX9_fewest_37 rfl trivial ?_
                refine ⟨⟨_, rfl, (fun J => ((lpq ld dg pa jo wa sr ((J : Nat) : Int) : Nat) : Int)), fun J _ => lpq_fr hB9, ?_⟩, ⟨hL0, po, sp, tj, tb, ⟨hS0, hS1, hS2, by omega, by omega⟩, hst⟩, hn, fr⟩
                show ((-4) : Int) = if ((lpq ld dg pa jo wa sr ((1 : Nat) : Int) : Nat) : Int) > 1 then (1 : Int) else if jo = 1 then -4 else if ((lpq ld dg pa jo wa sr ((2 : Nat) : Int) : Nat) : Int) > 1 then 2 else if ((lpq ld dg pa jo wa sr ((3 : Nat) : Int) : Nat) : Int) > 1 then 3 else -4
                simp only [z1, z2, z3]
                rw [if_neg (by omega), if_neg (by omega), if_neg (by omega), if_neg (by omega)]
              · skip
                exfalso; omega
            · skip
              refine xa_iload_n (pc := 27) dX9_fewest_27 rfl ?_
              refine xa_ireturn (pc := 28) dX9_fewest_28 rfl trivial ?_
              refine ⟨⟨_, rfl, (fun J => ((lpq ld dg pa jo wa sr ((J : Nat) : Int) : Nat) : Int)), fun J _ => lpq_fr hB9, ?_⟩, ⟨hL0, po, sp, tj, tb, ⟨hS0, hS1, hS2, by omega, by omega⟩, hst⟩, hn, fr⟩
              show (3 : Int) = if ((lpq ld dg pa jo wa sr ((1 : Nat) : Int) : Nat) : Int) > 1 then (1 : Int) else if jo = 1 then -4 else if ((lpq ld dg pa jo wa sr ((2 : Nat) : Int) : Nat) : Int) > 1 then 2 else if ((lpq ld dg pa jo wa sr ((3 : Nat) : Int) : Nat) : Int) > 1 then 3 else -4
              simp only [z1, z2, z3]
              rw [if_neg (by omega), if_neg (by omega), if_neg (by omega), if_pos (by omega)]
        · skip
          refine xa_iload_n (pc := 27) dX9_fewest_27 rfl ?_
          refine xa_ireturn (pc := 28) dX9_fewest_28 rfl trivial ?_
          refine ⟨⟨_, rfl, (fun J => ((lpq ld dg pa jo wa sr ((J : Nat) : Int) : Nat) : Int)), fun J _ => lpq_fr hB9, ?_⟩, ⟨hL0, po, sp, tj, tb, ⟨hS0, hS1, hS2, by omega, by omega⟩, hst⟩, hn, fr⟩
          show (2 : Int) = if ((lpq ld dg pa jo wa sr ((1 : Nat) : Int) : Nat) : Int) > 1 then (1 : Int) else if jo = 1 then -4 else if ((lpq ld dg pa jo wa sr ((2 : Nat) : Int) : Nat) : Int) > 1 then 2 else if ((lpq ld dg pa jo wa sr ((3 : Nat) : Int) : Nat) : Int) > 1 then 3 else -4
          simp only [z1, z2, z3]
          rw [if_neg (by omega), if_neg (by omega), if_pos (by omega)]
    · skip
      refine xa_iload_n (pc := 27) dX9_fewest_27 rfl ?_
      refine xa_ireturn (pc := 28) dX9_fewest_28 rfl trivial ?_
      refine ⟨⟨_, rfl, (fun J => ((lpq ld dg pa jo wa sr ((J : Nat) : Int) : Nat) : Int)), fun J _ => lpq_fr hB9, ?_⟩, ⟨hL0, po, sp, tj, tb, ⟨hS0, hS1, hS2, by omega, by omega⟩, hst⟩, hn, fr⟩
      show (1 : Int) = if ((lpq ld dg pa jo wa sr ((1 : Nat) : Int) : Nat) : Int) > 1 then (1 : Int) else if jo = 1 then -4 else if ((lpq ld dg pa jo wa sr ((2 : Nat) : Int) : Nat) : Int) > 1 then 2 else if ((lpq ld dg pa jo wa sr ((3 : Nat) : Int) : Nat) : Int) > 1 then 3 else -4
      simp only [z1, z2, z3]
      rw [if_pos (by omega)]
theorem c_xFewest {G : xa_G} {h : xa_H} (k : Nat) (kp : Int) (ld dg : Nat → Int) (pa jo : Nat) (wa sr pu ri : Int) (hB9 : vB ld dg pa jo wa sr pu ri) (hX : xX0 h k kp) (hB : xB h (k + 3) ld dg pa jo wa sr pu ri) (hL : xLS h k) : xa_M G mX9_fewest [xa_r k] h 0 0 (fun r h' => (∃ r0, r = some (xa_i r0) ∧ sq_fewest ld dg pa jo wa sr r0) ∧ xLS h' k ∧ h'.2 = h.2 ∧ ∀ i, (i < k + 33 ∨ k + 36 ≤ i) → h'.1 i = h.1 i) := by
  have h0 := hB9.1
  rcases (show jo = 1 ∨ jo = 2 by omega) with e | e
  · exact c_xFewest1 k kp ld dg pa jo wa sr pu ri hB9 e hX hB hL
  · exact c_xFewest2 k kp ld dg pa jo wa sr pu ri hB9 e hX hB hL
theorem c_xKeep0 {G : xa_G} {h : xa_H} (k : Nat) (mv le fi : Nat → Int) (pc : Nat) (kf : Nat → Option Nat) (hk0 : kf 0 = some (k + 16)) (hk1 : kf 1 = some (k + 20)) (hK : h.1 (k + 15) = xa_q 2 kf) (mv1 le1 fi1 : Nat → Int) (pc1 : Nat) (hA : xH h (k + 16) mv1 le1 fi1 pc1) (hX : xX0 h k 0) (hH : xH h (k + 11) mv le fi pc)  : xa_M G mX9_keep [xa_r k] h 0 0 (fun r h' => r = some (xa_i 1) ∧ xX0 h' k 1 ∧ xH h' (k + 16) (sp_cp mv1 mv 240) (sp_cp le1 le 4) (sp_cp fi1 fi 120) pc ∧ h'.2 = h.2 ∧ ∀ i, (i ≠ k ∧ (i < k + 16 ∨ k + 16 + 4 ≤ i)) → h'.1 i = h.1 i) := by
  refine xa_enter (by decide +kernel) (Nat.le_of_ble_eq_true rfl) ?_
  refine xa_locals (ls' := [some (xa_r k)]) rfl ?_
  have hn : h.2 = h.2 := rfl
  have fr : ∀ i, (i ≠ k ∧ (i < k + 16 ∨ k + 16 + 4 ≤ i)) → h.1 i = h.1 i := fun _ _ => rfl
  obtain ⟨hX0, hk, hkn⟩ := hX
  obtain ⟨hH0, hH1, hH2, hH3, hHk, hHn⟩ := hH
  obtain ⟨hA0, hA1, hA2, hA3, hAk, hAn⟩ := hA
  refine xa_aload_n (pc := 0) dX9_keep_0 rfl ?_
  refine xa_getfield (pc := 1) dX9_keep_1 flRX9_121 (by omega) (by omega) hX0 rfl ?_
  refine xa_if_lt (pc := 4) (tgt := 31) dX9_keep_4 (by decide) (by decide) (fun c_4 => ?_) (fun c_4 => ?_)
  · skip
    exfalso; omega
  · skip
    refine xa_aload_n (pc := 7) dX9_keep_7 rfl ?_
    refine xa_getfield (pc := 8) dX9_keep_8 flRX9_121 (by omega) (by omega) hX0 rfl ?_
    refine xa_aload_n (pc := 11) dX9_keep_11 rfl ?_
    refine xa_getfield (pc := 12) dX9_keep_12 flRX9_42 (by omega) (by omega) hX0 rfl ?_
    refine xa_alenq (pc := 15) dX9_keep_15 (by omega) (by omega) hK ?_
    refine xa_top (y := 2) rfl ?_
    refine xa_icmp_ge (pc := 16) (tgt := 31) dX9_keep_16 (by decide) (by decide) (by decide) (fun c_16 => ?_) (fun c_16 => ?_)
    · skip
      exfalso; omega
    · skip
      refine xa_aload_n (pc := 19) dX9_keep_19 rfl ?_
      refine xa_getfield (pc := 20) dX9_keep_20 flRX9_42 (by omega) (by omega) hX0 rfl ?_
      refine xa_aload_n (pc := 23) dX9_keep_23 rfl ?_
      refine xa_getfield (pc := 24) dX9_keep_24 flRX9_121 (by omega) (by omega) hX0 rfl ?_
      refine xa_aaload (pc := 27) dX9_keep_27 (by omega) (by omega) hK (by omega) (by omega) ?_
      refine xa_topr (k := k + 16) (by show (.inr (.inr (kf 0)) : xa_V) = _; rw [hk0]) ?_
      refine xa_ifnonnull (pc := 28) (tgt := 34) dX9_keep_28 (by decide) ?_
      refine xa_aload_n (pc := 34) dX9_keep_34 rfl ?_
      refine xa_getfield (pc := 35) dX9_keep_35 flRX9_42 (by omega) (by omega) hX0 rfl ?_
      refine xa_aload_n (pc := 38) dX9_keep_38 rfl ?_
      refine xa_getfield (pc := 39) dX9_keep_39 flRX9_121 (by omega) (by omega) hX0 rfl ?_
      refine xa_aaload (pc := 42) dX9_keep_42 (by omega) (by omega) hK (by omega) (by omega) ?_
      refine xa_topr (k := k + 16) (by show (.inr (.inr (kf 0)) : xa_V) = _; rw [hk0]) ?_
      refine xa_aload_n (pc := 43) dX9_keep_43 rfl ?_
      refine xa_getfield (pc := 44) dX9_keep_44 flRX9_38 (by omega) (by omega) hX0 rfl ?_
      refine xa_callV (pc := 47) (as := [xa_r (k + 11)]) (rest := []) dX9_keep_47 ⟨qX5_copySheet.1, qX5_copySheet.2.1, qX5_copySheet.2.2, by decide, by decide⟩ lkRX9_237 imX5_copySheet seX5_copySheet rfl rfl (by omega) (by omega) hA0 rfl (Nat.le_of_ble_eq_true rfl) (Nat.zero_le _) (Nat.zero_le _) (c_copySheet (k + 16) (k + 11) mv1 le1 fi1 mv le fi pc1 pc (by omega) ⟨hA0, hA1, hA2, hA3, by omega, by omega⟩ ⟨hH0, hH1, hH2, hH3, by omega, by omega⟩) (fun r h' hq => ?_)
      obtain ⟨rfl, ⟨hA0, hA1, hA2, hA3, -, -⟩, hqn, hqf⟩ := hq
      have hA0 : h'.1 (k + 16) = xa_o 5 [xa_r (k + 16 + 1), xa_r (k + 16 + 2), xa_r (k + 16 + 3), xa_i ((pc : Nat) : Int)] := hA0
      have hA1 : h'.1 (k + 16 + 1) = xa_a 240 (sp_cp mv1 mv 240) := hA1
      have hA2 : h'.1 (k + 16 + 2) = xa_a 4 (sp_cp le1 le 4) := hA2
      have hA3 : h'.1 (k + 16 + 3) = xa_a 120 (sp_cp fi1 fi 120) := hA3
      have hX0 : h'.1 k = xa_o 9 [xa_r (k + 1), xa_r (k + 3), xa_r (k + 6), xa_r (k + 9), xa_r (k + 11), xa_r (k + 15), xa_i 0, xa_r (k + 24), xa_r (k + 31), xa_r (k + 32), xa_r (k + 36), xa_r (k + 48), xa_r (k + 60)] := (hqf _ (by omega)).trans hX0
      have hH0 : h'.1 (k + 11) = xa_o 5 [xa_r (k + 11 + 1), xa_r (k + 11 + 2), xa_r (k + 11 + 3), xa_i ((pc : Nat) : Int)] := (hqf _ (by omega)).trans hH0
      have hH1 : h'.1 (k + 11 + 1) = xa_a 240 mv := (hqf _ (by omega)).trans hH1
      have hH2 : h'.1 (k + 11 + 2) = xa_a 4 le := (hqf _ (by omega)).trans hH2
      have hH3 : h'.1 (k + 11 + 3) = xa_a 120 fi := (hqf _ (by omega)).trans hH3
      have hK : h'.1 (k + 15) = xa_q 2 kf := (hqf _ (by omega)).trans hK
      have hn : h'.2 = h.2 := hqn.trans hn
      have fr : ∀ i, (i ≠ k ∧ (i < k + 16 ∨ k + 16 + 4 ≤ i)) → h'.1 i = h.1 i := fun i hi => (hqf i (by omega)).trans (fr i hi)
      refine xa_aload_n (pc := 50) dX9_keep_50 rfl ?_
      refine xa_dup (pc := 51) dX9_keep_51 rfl ?_
      refine xa_getfield (pc := 52) dX9_keep_52 flRX9_121 (by omega) (by omega) hX0 rfl ?_
      refine xa_iconst (pc := 55) dX9_keep_55 ?_
      refine xa_iadd (pc := 56) dX9_keep_56 ?_
      refine xa_top (y := 1) (by decide) ?_
      refine xa_putw (pc := 57) [xa_r (k + 1), xa_r (k + 3), xa_r (k + 6), xa_r (k + 9), xa_r (k + 11), xa_r (k + 15), xa_i 1, xa_r (k + 24), xa_r (k + 31), xa_r (k + 32), xa_r (k + 36), xa_r (k + 48), xa_r (k + 60)] dX9_keep_57 flRX9_121 plX9_6 (by omega) (by omega) hX0 trivial rfl (fun h1 nh1 ch1 oh1 => ?_)
      have hX0 : h1.1 k = xa_o 9 [xa_r (k + 1), xa_r (k + 3), xa_r (k + 6), xa_r (k + 9), xa_r (k + 11), xa_r (k + 15), xa_i 1, xa_r (k + 24), xa_r (k + 31), xa_r (k + 32), xa_r (k + 36), xa_r (k + 48), xa_r (k + 60)] := ch1
      have hH0 : h1.1 (k + 11) = xa_o 5 [xa_r (k + 11 + 1), xa_r (k + 11 + 2), xa_r (k + 11 + 3), xa_i ((pc : Nat) : Int)] := (oh1 _ (by omega)).trans hH0
      have hH1 : h1.1 (k + 11 + 1) = xa_a 240 mv := (oh1 _ (by omega)).trans hH1
      have hH2 : h1.1 (k + 11 + 2) = xa_a 4 le := (oh1 _ (by omega)).trans hH2
      have hH3 : h1.1 (k + 11 + 3) = xa_a 120 fi := (oh1 _ (by omega)).trans hH3
      have hK : h1.1 (k + 15) = xa_q 2 kf := (oh1 _ (by omega)).trans hK
      have hA0 : h1.1 (k + 16) = xa_o 5 [xa_r (k + 16 + 1), xa_r (k + 16 + 2), xa_r (k + 16 + 3), xa_i ((pc : Nat) : Int)] := (oh1 _ (by omega)).trans hA0
      have hA1 : h1.1 (k + 16 + 1) = xa_a 240 (sp_cp mv1 mv 240) := (oh1 _ (by omega)).trans hA1
      have hA2 : h1.1 (k + 16 + 2) = xa_a 4 (sp_cp le1 le 4) := (oh1 _ (by omega)).trans hA2
      have hA3 : h1.1 (k + 16 + 3) = xa_a 120 (sp_cp fi1 fi 120) := (oh1 _ (by omega)).trans hA3
      have hn : h1.2 = h.2 := nh1.trans hn
      have fr : ∀ i, (i ≠ k ∧ (i < k + 16 ∨ k + 16 + 4 ≤ i)) → h1.1 i = h.1 i := fun i hi => (oh1 i (by omega)).trans (fr i hi)
      refine xa_aload_n (pc := 60) dX9_keep_60 rfl ?_
      refine xa_getfield (pc := 61) dX9_keep_61 flRX9_121 (by omega) (by omega) hX0 rfl ?_
      refine xa_ireturn (pc := 64) dX9_keep_64 rfl trivial ?_
      exact ⟨rfl, ⟨hX0, by omega, by omega⟩, ⟨hA0, hA1, hA2, hA3, by omega, by omega⟩, hn, fr⟩
theorem c_xKeep1 {G : xa_G} {h : xa_H} (k : Nat) (mv le fi : Nat → Int) (pc : Nat) (kf : Nat → Option Nat) (hk0 : kf 0 = some (k + 16)) (hk1 : kf 1 = some (k + 20)) (hK : h.1 (k + 15) = xa_q 2 kf) (mv1 le1 fi1 : Nat → Int) (pc1 : Nat) (hA : xH h (k + 20) mv1 le1 fi1 pc1) (hX : xX0 h k 1) (hH : xH h (k + 11) mv le fi pc)  : xa_M G mX9_keep [xa_r k] h 0 0 (fun r h' => r = some (xa_i 2) ∧ xX0 h' k 2 ∧ xH h' (k + 20) (sp_cp mv1 mv 240) (sp_cp le1 le 4) (sp_cp fi1 fi 120) pc ∧ h'.2 = h.2 ∧ ∀ i, (i ≠ k ∧ (i < k + 20 ∨ k + 20 + 4 ≤ i)) → h'.1 i = h.1 i) := by
  refine xa_enter (by decide +kernel) (Nat.le_of_ble_eq_true rfl) ?_
  refine xa_locals (ls' := [some (xa_r k)]) rfl ?_
  have hn : h.2 = h.2 := rfl
  have fr : ∀ i, (i ≠ k ∧ (i < k + 20 ∨ k + 20 + 4 ≤ i)) → h.1 i = h.1 i := fun _ _ => rfl
  obtain ⟨hX0, hk, hkn⟩ := hX
  obtain ⟨hH0, hH1, hH2, hH3, hHk, hHn⟩ := hH
  obtain ⟨hA0, hA1, hA2, hA3, hAk, hAn⟩ := hA
  refine xa_aload_n (pc := 0) dX9_keep_0 rfl ?_
  refine xa_getfield (pc := 1) dX9_keep_1 flRX9_121 (by omega) (by omega) hX0 rfl ?_
  refine xa_if_lt (pc := 4) (tgt := 31) dX9_keep_4 (by decide) (by decide) (fun c_4 => ?_) (fun c_4 => ?_)
  · skip
    exfalso; omega
  · skip
    refine xa_aload_n (pc := 7) dX9_keep_7 rfl ?_
    refine xa_getfield (pc := 8) dX9_keep_8 flRX9_121 (by omega) (by omega) hX0 rfl ?_
    refine xa_aload_n (pc := 11) dX9_keep_11 rfl ?_
    refine xa_getfield (pc := 12) dX9_keep_12 flRX9_42 (by omega) (by omega) hX0 rfl ?_
    refine xa_alenq (pc := 15) dX9_keep_15 (by omega) (by omega) hK ?_
    refine xa_top (y := 2) rfl ?_
    refine xa_icmp_ge (pc := 16) (tgt := 31) dX9_keep_16 (by decide) (by decide) (by decide) (fun c_16 => ?_) (fun c_16 => ?_)
    · skip
      exfalso; omega
    · skip
      refine xa_aload_n (pc := 19) dX9_keep_19 rfl ?_
      refine xa_getfield (pc := 20) dX9_keep_20 flRX9_42 (by omega) (by omega) hX0 rfl ?_
      refine xa_aload_n (pc := 23) dX9_keep_23 rfl ?_
      refine xa_getfield (pc := 24) dX9_keep_24 flRX9_121 (by omega) (by omega) hX0 rfl ?_
      refine xa_aaload (pc := 27) dX9_keep_27 (by omega) (by omega) hK (by omega) (by omega) ?_
      refine xa_topr (k := k + 20) (by show (.inr (.inr (kf 1)) : xa_V) = _; rw [hk1]) ?_
      refine xa_ifnonnull (pc := 28) (tgt := 34) dX9_keep_28 (by decide) ?_
      refine xa_aload_n (pc := 34) dX9_keep_34 rfl ?_
      refine xa_getfield (pc := 35) dX9_keep_35 flRX9_42 (by omega) (by omega) hX0 rfl ?_
      refine xa_aload_n (pc := 38) dX9_keep_38 rfl ?_
      refine xa_getfield (pc := 39) dX9_keep_39 flRX9_121 (by omega) (by omega) hX0 rfl ?_
      refine xa_aaload (pc := 42) dX9_keep_42 (by omega) (by omega) hK (by omega) (by omega) ?_
      refine xa_topr (k := k + 20) (by show (.inr (.inr (kf 1)) : xa_V) = _; rw [hk1]) ?_
      refine xa_aload_n (pc := 43) dX9_keep_43 rfl ?_
      refine xa_getfield (pc := 44) dX9_keep_44 flRX9_38 (by omega) (by omega) hX0 rfl ?_
      refine xa_callV (pc := 47) (as := [xa_r (k + 11)]) (rest := []) dX9_keep_47 ⟨qX5_copySheet.1, qX5_copySheet.2.1, qX5_copySheet.2.2, by decide, by decide⟩ lkRX9_237 imX5_copySheet seX5_copySheet rfl rfl (by omega) (by omega) hA0 rfl (Nat.le_of_ble_eq_true rfl) (Nat.zero_le _) (Nat.zero_le _) (c_copySheet (k + 20) (k + 11) mv1 le1 fi1 mv le fi pc1 pc (by omega) ⟨hA0, hA1, hA2, hA3, by omega, by omega⟩ ⟨hH0, hH1, hH2, hH3, by omega, by omega⟩) (fun r h' hq => ?_)
      obtain ⟨rfl, ⟨hA0, hA1, hA2, hA3, -, -⟩, hqn, hqf⟩ := hq
      have hA0 : h'.1 (k + 20) = xa_o 5 [xa_r (k + 20 + 1), xa_r (k + 20 + 2), xa_r (k + 20 + 3), xa_i ((pc : Nat) : Int)] := hA0
      have hA1 : h'.1 (k + 20 + 1) = xa_a 240 (sp_cp mv1 mv 240) := hA1
      have hA2 : h'.1 (k + 20 + 2) = xa_a 4 (sp_cp le1 le 4) := hA2
      have hA3 : h'.1 (k + 20 + 3) = xa_a 120 (sp_cp fi1 fi 120) := hA3
      have hX0 : h'.1 k = xa_o 9 [xa_r (k + 1), xa_r (k + 3), xa_r (k + 6), xa_r (k + 9), xa_r (k + 11), xa_r (k + 15), xa_i 1, xa_r (k + 24), xa_r (k + 31), xa_r (k + 32), xa_r (k + 36), xa_r (k + 48), xa_r (k + 60)] := (hqf _ (by omega)).trans hX0
      have hH0 : h'.1 (k + 11) = xa_o 5 [xa_r (k + 11 + 1), xa_r (k + 11 + 2), xa_r (k + 11 + 3), xa_i ((pc : Nat) : Int)] := (hqf _ (by omega)).trans hH0
      have hH1 : h'.1 (k + 11 + 1) = xa_a 240 mv := (hqf _ (by omega)).trans hH1
      have hH2 : h'.1 (k + 11 + 2) = xa_a 4 le := (hqf _ (by omega)).trans hH2
      have hH3 : h'.1 (k + 11 + 3) = xa_a 120 fi := (hqf _ (by omega)).trans hH3
      have hK : h'.1 (k + 15) = xa_q 2 kf := (hqf _ (by omega)).trans hK
      have hn : h'.2 = h.2 := hqn.trans hn
      have fr : ∀ i, (i ≠ k ∧ (i < k + 20 ∨ k + 20 + 4 ≤ i)) → h'.1 i = h.1 i := fun i hi => (hqf i (by omega)).trans (fr i hi)
      refine xa_aload_n (pc := 50) dX9_keep_50 rfl ?_
      refine xa_dup (pc := 51) dX9_keep_51 rfl ?_
      refine xa_getfield (pc := 52) dX9_keep_52 flRX9_121 (by omega) (by omega) hX0 rfl ?_
      refine xa_iconst (pc := 55) dX9_keep_55 ?_
      refine xa_iadd (pc := 56) dX9_keep_56 ?_
      refine xa_top (y := 2) (by decide) ?_
      refine xa_putw (pc := 57) [xa_r (k + 1), xa_r (k + 3), xa_r (k + 6), xa_r (k + 9), xa_r (k + 11), xa_r (k + 15), xa_i 2, xa_r (k + 24), xa_r (k + 31), xa_r (k + 32), xa_r (k + 36), xa_r (k + 48), xa_r (k + 60)] dX9_keep_57 flRX9_121 plX9_6 (by omega) (by omega) hX0 trivial rfl (fun h1 nh1 ch1 oh1 => ?_)
      have hX0 : h1.1 k = xa_o 9 [xa_r (k + 1), xa_r (k + 3), xa_r (k + 6), xa_r (k + 9), xa_r (k + 11), xa_r (k + 15), xa_i 2, xa_r (k + 24), xa_r (k + 31), xa_r (k + 32), xa_r (k + 36), xa_r (k + 48), xa_r (k + 60)] := ch1
      have hH0 : h1.1 (k + 11) = xa_o 5 [xa_r (k + 11 + 1), xa_r (k + 11 + 2), xa_r (k + 11 + 3), xa_i ((pc : Nat) : Int)] := (oh1 _ (by omega)).trans hH0
      have hH1 : h1.1 (k + 11 + 1) = xa_a 240 mv := (oh1 _ (by omega)).trans hH1
      have hH2 : h1.1 (k + 11 + 2) = xa_a 4 le := (oh1 _ (by omega)).trans hH2
      have hH3 : h1.1 (k + 11 + 3) = xa_a 120 fi := (oh1 _ (by omega)).trans hH3
      have hK : h1.1 (k + 15) = xa_q 2 kf := (oh1 _ (by omega)).trans hK
      have hA0 : h1.1 (k + 20) = xa_o 5 [xa_r (k + 20 + 1), xa_r (k + 20 + 2), xa_r (k + 20 + 3), xa_i ((pc : Nat) : Int)] := (oh1 _ (by omega)).trans hA0
      have hA1 : h1.1 (k + 20 + 1) = xa_a 240 (sp_cp mv1 mv 240) := (oh1 _ (by omega)).trans hA1
      have hA2 : h1.1 (k + 20 + 2) = xa_a 4 (sp_cp le1 le 4) := (oh1 _ (by omega)).trans hA2
      have hA3 : h1.1 (k + 20 + 3) = xa_a 120 (sp_cp fi1 fi 120) := (oh1 _ (by omega)).trans hA3
      have hn : h1.2 = h.2 := nh1.trans hn
      have fr : ∀ i, (i ≠ k ∧ (i < k + 20 ∨ k + 20 + 4 ≤ i)) → h1.1 i = h.1 i := fun i hi => (oh1 i (by omega)).trans (fr i hi)
      refine xa_aload_n (pc := 60) dX9_keep_60 rfl ?_
      refine xa_getfield (pc := 61) dX9_keep_61 flRX9_121 (by omega) (by omega) hX0 rfl ?_
      refine xa_ireturn (pc := 64) dX9_keep_64 rfl trivial ?_
      exact ⟨rfl, ⟨hX0, by omega, by omega⟩, ⟨hA0, hA1, hA2, hA3, by omega, by omega⟩, hn, fr⟩
theorem c_xKeep2 {G : xa_G} {h : xa_H} (k : Nat) (mv le fi : Nat → Int) (pc : Nat) (kf : Nat → Option Nat) (hk0 : kf 0 = some (k + 16)) (hk1 : kf 1 = some (k + 20)) (hK : h.1 (k + 15) = xa_q 2 kf) (mv1 le1 fi1 : Nat → Int) (pc1 : Nat) (hA : xH h (k + 16) mv1 le1 fi1 pc1) (hX : xX0 h k 2) (hH : xH h (k + 11) mv le fi pc)  : xa_M G mX9_keep [xa_r k] h 0 0 (fun r h' => r = some (xa_i (-3)) ∧ h' = h) := by
  refine xa_enter (by decide +kernel) (Nat.le_of_ble_eq_true rfl) ?_
  refine xa_locals (ls' := [some (xa_r k)]) rfl ?_
  obtain ⟨hX0, hk, hkn⟩ := hX
  obtain ⟨hH0, hH1, hH2, hH3, hHk, hHn⟩ := hH
  obtain ⟨hA0, hA1, hA2, hA3, hAk, hAn⟩ := hA
  refine xa_aload_n (pc := 0) dX9_keep_0 rfl ?_
  refine xa_getfield (pc := 1) dX9_keep_1 flRX9_121 (by omega) (by omega) hX0 rfl ?_
  refine xa_if_lt (pc := 4) (tgt := 31) dX9_keep_4 (by decide) (by decide) (fun c_4 => ?_) (fun c_4 => ?_)
  · skip
    exfalso; omega
  · skip
    refine xa_aload_n (pc := 7) dX9_keep_7 rfl ?_
    refine xa_getfield (pc := 8) dX9_keep_8 flRX9_121 (by omega) (by omega) hX0 rfl ?_
    refine xa_aload_n (pc := 11) dX9_keep_11 rfl ?_
    refine xa_getfield (pc := 12) dX9_keep_12 flRX9_42 (by omega) (by omega) hX0 rfl ?_
    refine xa_alenq (pc := 15) dX9_keep_15 (by omega) (by omega) hK ?_
    refine xa_top (y := 2) rfl ?_
    refine xa_icmp_ge (pc := 16) (tgt := 31) dX9_keep_16 (by decide) (by decide) (by decide) (fun c_16 => ?_) (fun c_16 => ?_)
    · skip
      refine xa_bipush (pc := 31) dX9_keep_31 rfl ?_
      refine xa_ireturn (pc := 33) dX9_keep_33 rfl trivial ?_
      exact ⟨rfl, rfl⟩
    · skip
      exfalso; omega
theorem c_xBack0 {G : xa_G} {h : xa_H} (k : Nat) (mv le fi : Nat → Int) (pc : Nat) (kf : Nat → Option Nat) (hk0 : kf 0 = some (k + 16)) (hk1 : kf 1 = some (k + 20)) (hK : h.1 (k + 15) = xa_q 2 kf) (mv1 le1 fi1 : Nat → Int) (pc1 : Nat) (hA : xH h (k + 16) mv1 le1 fi1 pc1) (hX : xX0 h k 0) (hH : xH h (k + 11) mv le fi pc)  : xa_M G mX9_back [xa_r k] h 0 0 (fun r h' => r = some (xa_i (-2)) ∧ h' = h) := by
  refine xa_enter (by decide +kernel) (Nat.le_of_ble_eq_true rfl) ?_
  refine xa_locals (ls' := [some (xa_r k), none]) rfl ?_
  obtain ⟨hX0, hk, hkn⟩ := hX
  obtain ⟨hH0, hH1, hH2, hH3, hHk, hHn⟩ := hH
  obtain ⟨hA0, hA1, hA2, hA3, hAk, hAn⟩ := hA
  refine xa_aload_n (pc := 0) dX9_back_0 rfl ?_
  refine xa_getfield (pc := 1) dX9_back_1 flRX9_121 (by omega) (by omega) hX0 rfl ?_
  refine xa_iconst (pc := 4) dX9_back_4 ?_
  refine xa_isub (pc := 5) dX9_back_5 ?_
  refine xa_top (y := (-1)) (by decide) ?_
  refine xa_istoren (pc := 6) [some (xa_r k), some (xa_i (-1))] dX9_back_6 (by decide) (Nat.le_of_ble_eq_true rfl) rfl rfl ?_
  refine xa_iload_n (pc := 7) dX9_back_7 rfl ?_
  refine xa_if_lt (pc := 8) (tgt := 29) dX9_back_8 (by decide) (by decide) (fun c_8 => ?_) (fun c_8 => ?_)
  · skip
    refine xa_bipush (pc := 29) dX9_back_29 rfl ?_
    refine xa_ireturn (pc := 31) dX9_back_31 rfl trivial ?_
    exact ⟨rfl, rfl⟩
  · skip
    exfalso; omega
theorem c_xBack1 {G : xa_G} {h : xa_H} (k : Nat) (mv le fi : Nat → Int) (pc : Nat) (kf : Nat → Option Nat) (hk0 : kf 0 = some (k + 16)) (hk1 : kf 1 = some (k + 20)) (hK : h.1 (k + 15) = xa_q 2 kf) (mv1 le1 fi1 : Nat → Int) (pc1 : Nat) (hA : xH h (k + 16) mv1 le1 fi1 pc1) (hX : xX0 h k 1) (hH : xH h (k + 11) mv le fi pc)  : xa_M G mX9_back [xa_r k] h 0 0 (fun r h' => r = some (xa_i 0) ∧ xX0 h' k 0 ∧ xH h' (k + 11) (sp_cp mv mv1 240) (sp_cp le le1 4) (sp_cp fi fi1 120) pc1 ∧ h'.2 = h.2 ∧ ∀ i, (i ≠ k ∧ (i < k + 11 ∨ k + 15 ≤ i)) → h'.1 i = h.1 i) := by
  refine xa_enter (by decide +kernel) (Nat.le_of_ble_eq_true rfl) ?_
  refine xa_locals (ls' := [some (xa_r k), none]) rfl ?_
  have hn : h.2 = h.2 := rfl
  have fr : ∀ i, (i ≠ k ∧ (i < k + 11 ∨ k + 15 ≤ i)) → h.1 i = h.1 i := fun _ _ => rfl
  obtain ⟨hX0, hk, hkn⟩ := hX
  obtain ⟨hH0, hH1, hH2, hH3, hHk, hHn⟩ := hH
  obtain ⟨hA0, hA1, hA2, hA3, hAk, hAn⟩ := hA
  refine xa_aload_n (pc := 0) dX9_back_0 rfl ?_
  refine xa_getfield (pc := 1) dX9_back_1 flRX9_121 (by omega) (by omega) hX0 rfl ?_
  refine xa_iconst (pc := 4) dX9_back_4 ?_
  refine xa_isub (pc := 5) dX9_back_5 ?_
  refine xa_top (y := 0) (by decide) ?_
  refine xa_istoren (pc := 6) [some (xa_r k), some (xa_i 0)] dX9_back_6 (by decide) (Nat.le_of_ble_eq_true rfl) rfl rfl ?_
  refine xa_iload_n (pc := 7) dX9_back_7 rfl ?_
  refine xa_if_lt (pc := 8) (tgt := 29) dX9_back_8 (by decide) (by decide) (fun c_8 => ?_) (fun c_8 => ?_)
  · skip
    exfalso; omega
  · skip
    refine xa_iload_n (pc := 11) dX9_back_11 rfl ?_
    refine xa_aload_n (pc := 12) dX9_back_12 rfl ?_
    refine xa_getfield (pc := 13) dX9_back_13 flRX9_42 (by omega) (by omega) hX0 rfl ?_
    refine xa_alenq (pc := 16) dX9_back_16 (by omega) (by omega) hK ?_
    refine xa_top (y := 2) rfl ?_
    refine xa_icmp_ge (pc := 17) (tgt := 29) dX9_back_17 (by decide) (by decide) (by decide) (fun c_17 => ?_) (fun c_17 => ?_)
    · skip
      exfalso; omega
    · skip
      refine xa_aload_n (pc := 20) dX9_back_20 rfl ?_
      refine xa_getfield (pc := 21) dX9_back_21 flRX9_42 (by omega) (by omega) hX0 rfl ?_
      refine xa_iload_n (pc := 24) dX9_back_24 rfl ?_
      refine xa_aaload (pc := 25) dX9_back_25 (by omega) (by omega) hK (by omega) (by omega) ?_
      refine xa_topr (k := k + 16) (by show (.inr (.inr (kf 0)) : xa_V) = _; rw [hk0]) ?_
      refine xa_ifnonnull (pc := 26) (tgt := 32) dX9_back_26 (by decide) ?_
      refine xa_aload_n (pc := 32) dX9_back_32 rfl ?_
      refine xa_getfield (pc := 33) dX9_back_33 flRX9_38 (by omega) (by omega) hX0 rfl ?_
      refine xa_aload_n (pc := 36) dX9_back_36 rfl ?_
      refine xa_getfield (pc := 37) dX9_back_37 flRX9_42 (by omega) (by omega) hX0 rfl ?_
      refine xa_iload_n (pc := 40) dX9_back_40 rfl ?_
      refine xa_aaload (pc := 41) dX9_back_41 (by omega) (by omega) hK (by omega) (by omega) ?_
      refine xa_topr (k := k + 16) (by show (.inr (.inr (kf 0)) : xa_V) = _; rw [hk0]) ?_
      refine xa_callV (pc := 42) (as := [xa_r (k + 16)]) (rest := []) dX9_back_42 ⟨qX5_copySheet.1, qX5_copySheet.2.1, qX5_copySheet.2.2, by decide, by decide⟩ lkRX9_237 imX5_copySheet seX5_copySheet rfl rfl (by omega) (by omega) hH0 rfl (Nat.le_of_ble_eq_true rfl) (Nat.zero_le _) (Nat.zero_le _) (c_copySheet (k + 11) (k + 16) mv le fi mv1 le1 fi1 pc pc1 (by omega) ⟨hH0, hH1, hH2, hH3, by omega, by omega⟩ ⟨hA0, hA1, hA2, hA3, by omega, by omega⟩) (fun r h' hq => ?_)
      obtain ⟨rfl, ⟨hH0, hH1, hH2, hH3, -, -⟩, hqn, hqf⟩ := hq
      have hH0 : h'.1 (k + 11) = xa_o 5 [xa_r (k + 11 + 1), xa_r (k + 11 + 2), xa_r (k + 11 + 3), xa_i ((pc1 : Nat) : Int)] := hH0
      have hH1 : h'.1 (k + 11 + 1) = xa_a 240 (sp_cp mv mv1 240) := hH1
      have hH2 : h'.1 (k + 11 + 2) = xa_a 4 (sp_cp le le1 4) := hH2
      have hH3 : h'.1 (k + 11 + 3) = xa_a 120 (sp_cp fi fi1 120) := hH3
      have hX0 : h'.1 k = xa_o 9 [xa_r (k + 1), xa_r (k + 3), xa_r (k + 6), xa_r (k + 9), xa_r (k + 11), xa_r (k + 15), xa_i 1, xa_r (k + 24), xa_r (k + 31), xa_r (k + 32), xa_r (k + 36), xa_r (k + 48), xa_r (k + 60)] := (hqf _ (by omega)).trans hX0
      have hK : h'.1 (k + 15) = xa_q 2 kf := (hqf _ (by omega)).trans hK
      have hA0 : h'.1 (k + 16) = xa_o 5 [xa_r (k + 16 + 1), xa_r (k + 16 + 2), xa_r (k + 16 + 3), xa_i ((pc1 : Nat) : Int)] := (hqf _ (by omega)).trans hA0
      have hA1 : h'.1 (k + 16 + 1) = xa_a 240 mv1 := (hqf _ (by omega)).trans hA1
      have hA2 : h'.1 (k + 16 + 2) = xa_a 4 le1 := (hqf _ (by omega)).trans hA2
      have hA3 : h'.1 (k + 16 + 3) = xa_a 120 fi1 := (hqf _ (by omega)).trans hA3
      have hn : h'.2 = h.2 := hqn.trans hn
      have fr : ∀ i, (i ≠ k ∧ (i < k + 11 ∨ k + 15 ≤ i)) → h'.1 i = h.1 i := fun i hi => (hqf i (by omega)).trans (fr i hi)
      refine xa_aload_n (pc := 45) dX9_back_45 rfl ?_
      refine xa_iload_n (pc := 46) dX9_back_46 rfl ?_
      refine xa_putw (pc := 47) [xa_r (k + 1), xa_r (k + 3), xa_r (k + 6), xa_r (k + 9), xa_r (k + 11), xa_r (k + 15), xa_i 0, xa_r (k + 24), xa_r (k + 31), xa_r (k + 32), xa_r (k + 36), xa_r (k + 48), xa_r (k + 60)] dX9_back_47 flRX9_121 plX9_6 (by omega) (by omega) hX0 trivial rfl (fun h1 nh1 ch1 oh1 => ?_)
      have hX0 : h1.1 k = xa_o 9 [xa_r (k + 1), xa_r (k + 3), xa_r (k + 6), xa_r (k + 9), xa_r (k + 11), xa_r (k + 15), xa_i 0, xa_r (k + 24), xa_r (k + 31), xa_r (k + 32), xa_r (k + 36), xa_r (k + 48), xa_r (k + 60)] := ch1
      have hH0 : h1.1 (k + 11) = xa_o 5 [xa_r (k + 11 + 1), xa_r (k + 11 + 2), xa_r (k + 11 + 3), xa_i ((pc1 : Nat) : Int)] := (oh1 _ (by omega)).trans hH0
      have hH1 : h1.1 (k + 11 + 1) = xa_a 240 (sp_cp mv mv1 240) := (oh1 _ (by omega)).trans hH1
      have hH2 : h1.1 (k + 11 + 2) = xa_a 4 (sp_cp le le1 4) := (oh1 _ (by omega)).trans hH2
      have hH3 : h1.1 (k + 11 + 3) = xa_a 120 (sp_cp fi fi1 120) := (oh1 _ (by omega)).trans hH3
      have hK : h1.1 (k + 15) = xa_q 2 kf := (oh1 _ (by omega)).trans hK
      have hA0 : h1.1 (k + 16) = xa_o 5 [xa_r (k + 16 + 1), xa_r (k + 16 + 2), xa_r (k + 16 + 3), xa_i ((pc1 : Nat) : Int)] := (oh1 _ (by omega)).trans hA0
      have hA1 : h1.1 (k + 16 + 1) = xa_a 240 mv1 := (oh1 _ (by omega)).trans hA1
      have hA2 : h1.1 (k + 16 + 2) = xa_a 4 le1 := (oh1 _ (by omega)).trans hA2
      have hA3 : h1.1 (k + 16 + 3) = xa_a 120 fi1 := (oh1 _ (by omega)).trans hA3
      have hn : h1.2 = h.2 := nh1.trans hn
      have fr : ∀ i, (i ≠ k ∧ (i < k + 11 ∨ k + 15 ≤ i)) → h1.1 i = h.1 i := fun i hi => (oh1 i (by omega)).trans (fr i hi)
      refine xa_aload_n (pc := 50) dX9_back_50 rfl ?_
      refine xa_getfield (pc := 51) dX9_back_51 flRX9_121 (by omega) (by omega) hX0 rfl ?_
      refine xa_ireturn (pc := 54) dX9_back_54 rfl trivial ?_
      exact ⟨rfl, ⟨hX0, by omega, by omega⟩, ⟨hH0, hH1, hH2, hH3, by omega, by omega⟩, hn, fr⟩
theorem c_xBack2 {G : xa_G} {h : xa_H} (k : Nat) (mv le fi : Nat → Int) (pc : Nat) (kf : Nat → Option Nat) (hk0 : kf 0 = some (k + 16)) (hk1 : kf 1 = some (k + 20)) (hK : h.1 (k + 15) = xa_q 2 kf) (mv1 le1 fi1 : Nat → Int) (pc1 : Nat) (hA : xH h (k + 20) mv1 le1 fi1 pc1) (hX : xX0 h k 2) (hH : xH h (k + 11) mv le fi pc)  : xa_M G mX9_back [xa_r k] h 0 0 (fun r h' => r = some (xa_i 1) ∧ xX0 h' k 1 ∧ xH h' (k + 11) (sp_cp mv mv1 240) (sp_cp le le1 4) (sp_cp fi fi1 120) pc1 ∧ h'.2 = h.2 ∧ ∀ i, (i ≠ k ∧ (i < k + 11 ∨ k + 15 ≤ i)) → h'.1 i = h.1 i) := by
  refine xa_enter (by decide +kernel) (Nat.le_of_ble_eq_true rfl) ?_
  refine xa_locals (ls' := [some (xa_r k), none]) rfl ?_
  have hn : h.2 = h.2 := rfl
  have fr : ∀ i, (i ≠ k ∧ (i < k + 11 ∨ k + 15 ≤ i)) → h.1 i = h.1 i := fun _ _ => rfl
  obtain ⟨hX0, hk, hkn⟩ := hX
  obtain ⟨hH0, hH1, hH2, hH3, hHk, hHn⟩ := hH
  obtain ⟨hA0, hA1, hA2, hA3, hAk, hAn⟩ := hA
  refine xa_aload_n (pc := 0) dX9_back_0 rfl ?_
  refine xa_getfield (pc := 1) dX9_back_1 flRX9_121 (by omega) (by omega) hX0 rfl ?_
  refine xa_iconst (pc := 4) dX9_back_4 ?_
  refine xa_isub (pc := 5) dX9_back_5 ?_
  refine xa_top (y := 1) (by decide) ?_
  refine xa_istoren (pc := 6) [some (xa_r k), some (xa_i 1)] dX9_back_6 (by decide) (Nat.le_of_ble_eq_true rfl) rfl rfl ?_
  refine xa_iload_n (pc := 7) dX9_back_7 rfl ?_
  refine xa_if_lt (pc := 8) (tgt := 29) dX9_back_8 (by decide) (by decide) (fun c_8 => ?_) (fun c_8 => ?_)
  · skip
    exfalso; omega
  · skip
    refine xa_iload_n (pc := 11) dX9_back_11 rfl ?_
    refine xa_aload_n (pc := 12) dX9_back_12 rfl ?_
    refine xa_getfield (pc := 13) dX9_back_13 flRX9_42 (by omega) (by omega) hX0 rfl ?_
    refine xa_alenq (pc := 16) dX9_back_16 (by omega) (by omega) hK ?_
    refine xa_top (y := 2) rfl ?_
    refine xa_icmp_ge (pc := 17) (tgt := 29) dX9_back_17 (by decide) (by decide) (by decide) (fun c_17 => ?_) (fun c_17 => ?_)
    · skip
      exfalso; omega
    · skip
      refine xa_aload_n (pc := 20) dX9_back_20 rfl ?_
      refine xa_getfield (pc := 21) dX9_back_21 flRX9_42 (by omega) (by omega) hX0 rfl ?_
      refine xa_iload_n (pc := 24) dX9_back_24 rfl ?_
      refine xa_aaload (pc := 25) dX9_back_25 (by omega) (by omega) hK (by omega) (by omega) ?_
      refine xa_topr (k := k + 20) (by show (.inr (.inr (kf 1)) : xa_V) = _; rw [hk1]) ?_
      refine xa_ifnonnull (pc := 26) (tgt := 32) dX9_back_26 (by decide) ?_
      refine xa_aload_n (pc := 32) dX9_back_32 rfl ?_
      refine xa_getfield (pc := 33) dX9_back_33 flRX9_38 (by omega) (by omega) hX0 rfl ?_
      refine xa_aload_n (pc := 36) dX9_back_36 rfl ?_
      refine xa_getfield (pc := 37) dX9_back_37 flRX9_42 (by omega) (by omega) hX0 rfl ?_
      refine xa_iload_n (pc := 40) dX9_back_40 rfl ?_
      refine xa_aaload (pc := 41) dX9_back_41 (by omega) (by omega) hK (by omega) (by omega) ?_
      refine xa_topr (k := k + 20) (by show (.inr (.inr (kf 1)) : xa_V) = _; rw [hk1]) ?_
      refine xa_callV (pc := 42) (as := [xa_r (k + 20)]) (rest := []) dX9_back_42 ⟨qX5_copySheet.1, qX5_copySheet.2.1, qX5_copySheet.2.2, by decide, by decide⟩ lkRX9_237 imX5_copySheet seX5_copySheet rfl rfl (by omega) (by omega) hH0 rfl (Nat.le_of_ble_eq_true rfl) (Nat.zero_le _) (Nat.zero_le _) (c_copySheet (k + 11) (k + 20) mv le fi mv1 le1 fi1 pc pc1 (by omega) ⟨hH0, hH1, hH2, hH3, by omega, by omega⟩ ⟨hA0, hA1, hA2, hA3, by omega, by omega⟩) (fun r h' hq => ?_)
      obtain ⟨rfl, ⟨hH0, hH1, hH2, hH3, -, -⟩, hqn, hqf⟩ := hq
      have hH0 : h'.1 (k + 11) = xa_o 5 [xa_r (k + 11 + 1), xa_r (k + 11 + 2), xa_r (k + 11 + 3), xa_i ((pc1 : Nat) : Int)] := hH0
      have hH1 : h'.1 (k + 11 + 1) = xa_a 240 (sp_cp mv mv1 240) := hH1
      have hH2 : h'.1 (k + 11 + 2) = xa_a 4 (sp_cp le le1 4) := hH2
      have hH3 : h'.1 (k + 11 + 3) = xa_a 120 (sp_cp fi fi1 120) := hH3
      have hX0 : h'.1 k = xa_o 9 [xa_r (k + 1), xa_r (k + 3), xa_r (k + 6), xa_r (k + 9), xa_r (k + 11), xa_r (k + 15), xa_i 2, xa_r (k + 24), xa_r (k + 31), xa_r (k + 32), xa_r (k + 36), xa_r (k + 48), xa_r (k + 60)] := (hqf _ (by omega)).trans hX0
      have hK : h'.1 (k + 15) = xa_q 2 kf := (hqf _ (by omega)).trans hK
      have hA0 : h'.1 (k + 20) = xa_o 5 [xa_r (k + 20 + 1), xa_r (k + 20 + 2), xa_r (k + 20 + 3), xa_i ((pc1 : Nat) : Int)] := (hqf _ (by omega)).trans hA0
      have hA1 : h'.1 (k + 20 + 1) = xa_a 240 mv1 := (hqf _ (by omega)).trans hA1
      have hA2 : h'.1 (k + 20 + 2) = xa_a 4 le1 := (hqf _ (by omega)).trans hA2
      have hA3 : h'.1 (k + 20 + 3) = xa_a 120 fi1 := (hqf _ (by omega)).trans hA3
      have hn : h'.2 = h.2 := hqn.trans hn
      have fr : ∀ i, (i ≠ k ∧ (i < k + 11 ∨ k + 15 ≤ i)) → h'.1 i = h.1 i := fun i hi => (hqf i (by omega)).trans (fr i hi)
      refine xa_aload_n (pc := 45) dX9_back_45 rfl ?_
      refine xa_iload_n (pc := 46) dX9_back_46 rfl ?_
      refine xa_putw (pc := 47) [xa_r (k + 1), xa_r (k + 3), xa_r (k + 6), xa_r (k + 9), xa_r (k + 11), xa_r (k + 15), xa_i 1, xa_r (k + 24), xa_r (k + 31), xa_r (k + 32), xa_r (k + 36), xa_r (k + 48), xa_r (k + 60)] dX9_back_47 flRX9_121 plX9_6 (by omega) (by omega) hX0 trivial rfl (fun h1 nh1 ch1 oh1 => ?_)
      have hX0 : h1.1 k = xa_o 9 [xa_r (k + 1), xa_r (k + 3), xa_r (k + 6), xa_r (k + 9), xa_r (k + 11), xa_r (k + 15), xa_i 1, xa_r (k + 24), xa_r (k + 31), xa_r (k + 32), xa_r (k + 36), xa_r (k + 48), xa_r (k + 60)] := ch1
      have hH0 : h1.1 (k + 11) = xa_o 5 [xa_r (k + 11 + 1), xa_r (k + 11 + 2), xa_r (k + 11 + 3), xa_i ((pc1 : Nat) : Int)] := (oh1 _ (by omega)).trans hH0
      have hH1 : h1.1 (k + 11 + 1) = xa_a 240 (sp_cp mv mv1 240) := (oh1 _ (by omega)).trans hH1
      have hH2 : h1.1 (k + 11 + 2) = xa_a 4 (sp_cp le le1 4) := (oh1 _ (by omega)).trans hH2
      have hH3 : h1.1 (k + 11 + 3) = xa_a 120 (sp_cp fi fi1 120) := (oh1 _ (by omega)).trans hH3
      have hK : h1.1 (k + 15) = xa_q 2 kf := (oh1 _ (by omega)).trans hK
      have hA0 : h1.1 (k + 20) = xa_o 5 [xa_r (k + 20 + 1), xa_r (k + 20 + 2), xa_r (k + 20 + 3), xa_i ((pc1 : Nat) : Int)] := (oh1 _ (by omega)).trans hA0
      have hA1 : h1.1 (k + 20 + 1) = xa_a 240 mv1 := (oh1 _ (by omega)).trans hA1
      have hA2 : h1.1 (k + 20 + 2) = xa_a 4 le1 := (oh1 _ (by omega)).trans hA2
      have hA3 : h1.1 (k + 20 + 3) = xa_a 120 fi1 := (oh1 _ (by omega)).trans hA3
      have hn : h1.2 = h.2 := nh1.trans hn
      have fr : ∀ i, (i ≠ k ∧ (i < k + 11 ∨ k + 15 ≤ i)) → h1.1 i = h.1 i := fun i hi => (oh1 i (by omega)).trans (fr i hi)
      refine xa_aload_n (pc := 50) dX9_back_50 rfl ?_
      refine xa_getfield (pc := 51) dX9_back_51 flRX9_121 (by omega) (by omega) hX0 rfl ?_
      refine xa_ireturn (pc := 54) dX9_back_54 rfl trivial ?_
      exact ⟨rfl, ⟨hX0, by omega, by omega⟩, ⟨hH0, hH1, hH2, hH3, by omega, by omega⟩, hn, fr⟩
