/-! Reader.firstFault -/
def rd_res : Option Nat → Int
  | some q => (q : Int)
  | none => -4
theorem rd_go_s {n : Nat} {f : Nat → Int} {l p p' : Nat} {b b' : xBt} (hp : p < n) (h : rd_item n f p b = some (p', b')) : rd_go n f (l + 1) p b = rd_go n f l p' b' := by
  show (if p < n then (match rd_item n f p b with | some (p', b') => rd_go n f l p' b' | none => (some p, b)) else (none, b)) = _
  rw [if_pos hp, h]
theorem rd_go_f {n : Nat} {f : Nat → Int} {l p : Nat} {b : xBt} (hp : p < n) (h : rd_item n f p b = none) : rd_go n f (l + 1) p b = (some p, b) := by
  show (if p < n then (match rd_item n f p b with | some (p', b') => rd_go n f l p' b' | none => (some p, b)) else (none, b)) = _
  rw [if_pos hp, h]
theorem rd_go_e {n : Nat} {f : Nat → Int} {l p : Nat} {b : xBt} (hp : ¬ p < n) : rd_go n f l p b = (none, b) := by
  cases l with
  | zero => rfl
  | succ l => exact if_neg hp
theorem vD_wa {b : xBt} (h : vD b) : xa_ok b.2.2.2.2.1 := by
  obtain ⟨⟨h1, h2⟩, -, -, -, -, h7 | ⟨w, w1, w2, -⟩, -⟩ := h
  · exact ⟨by omega, by omega⟩
  · exact ⟨by omega, by omega⟩
theorem c_firstFault_loop {G : xa_G} {h0 : xa_H} {k kt kb n : Nat} {f : Nat → Int} {b0 : xBt} (hk : 2 ≤ k) (hkb2 : 2 ≤ kb) (hTk : 2 ≤ kt) (hkt : kt + 2 ≤ k) (hkk : kb + 3 ≤ k) (hdis : kt + 2 ≤ kb ∨ kb + 3 ≤ kt) (hT9 : n ≤ 120) (hTb : ∀ i, 0 ≤ f i ∧ f i ≤ 255) : ∀ (d : Nat) (m p : Nat) (b : xBt) (nu : Nat → Int) (g2 : Option xa_V) (h : xa_H), 120 - m < d → (m ≤ 120) → (vD b) → (rd_go n f 120 0 b0 = rd_go n f (120 - m) p b) → (p ≤ 20 * m) → (∀ i, -9999 ≤ nu i ∧ nu i ≤ 9999) → (h.2 = h0.2) → (k + 1 < h.2) → (h.1 k = xa_o 2 [xa_r kt, xa_r kb, xa_r (k + 1), xa_i ((p : Nat) : Int)]) → (h.1 (k + 1) = xa_a 3 nu) → (h.1 1 = xa_a 8 xa_wagf) → (h.1 kt = xa_o 7 [xa_r (kt + 1), xa_i ((n : Nat) : Int)]) → (h.1 (kt + 1) = xa_a 120 f) → (h.1 kb = xa_o 0 [xa_r (kb + 1), xa_r (kb + 2), xa_i ((b.2.2.1 : Nat) : Int), xa_i ((b.2.2.2.1 : Nat) : Int), xa_i b.2.2.2.2.1, xa_i b.2.2.2.2.2.1, xa_i b.2.2.2.2.2.2.1, xa_i b.2.2.2.2.2.2.2]) → (h.1 (kb + 1) = xa_a 9 b.1) → (h.1 (kb + 2) = xa_a 2 b.2.1) → (∀ i, ((i < kb ∨ kb + 3 ≤ i) ∧ (i < k ∨ k + 2 ≤ i)) → h.1 i = h0.1 i) → xa_W G mX2_firstFault (xa_Z G (fun r h' => r = some (xa_i (rd_res (rd_go n f 120 0 b0).1)) ∧ xBb h' kb (rd_go n f 120 0 b0).2 ∧ vD (rd_go n f 120 0 b0).2 ∧ (∃ (p : Nat) (nu' : Nat → Int), xRd h' k kt kb nu' p ∧ ∀ i, -9999 ≤ nu' i ∧ nu' i ≤ 9999) ∧ h'.2 = h0.2 ∧ ∀ i, ((i < kb ∨ kb + 3 ≤ i) ∧ (i < k ∨ k + 2 ≤ i)) → h'.1 i = h0.1 i)) 14 [some (xa_r k), some (xa_i ((m : Nat) : Int)), g2] [] h 0 0 := by
  intro d
  induction d with
  | zero => intros; exfalso; omega
  | succ d ih =>
    intro m p b nu g2 h hd hm hv hgo hp9 hnu hn0 hkn hR0 hR1 hW hT0 hT1 hB0 hB1 hB2 fr0
    have hn : h.2 = h.2 := rfl
    have fr : ∀ i, ((i < kb ∨ kb + 3 ≤ i) ∧ (i < k ∨ k + 2 ≤ i)) → h.1 i = h.1 i := fun _ _ => rfl
    refine xa_iload_n (pc := 14) dX2_firstFault_14 rfl ?_
    refine xa_bipush (pc := 15) dX2_firstFault_15 rfl ?_
    refine xa_icmp_ge (pc := 17) (tgt := 54) dX2_firstFault_17 (by decide) ⟨by omega, by omega⟩ (by decide) (fun c_17 => ?_) (fun c_17 => ?_)
    · skip
      refine xa_bipush (pc := 54) dX2_firstFault_54 rfl ?_
      refine xa_ireturn (pc := 56) dX2_firstFault_56 rfl trivial ?_
      have hG : rd_go n f 120 0 b0 = (none, b) := by rw [hgo]; first | exact rd_go_e (by omega) | (have hm1 : m = 120 := by omega); subst hm1; rfl
      rw [hG]
      exact ⟨rfl, ⟨hB0, hB1, hB2, by omega, by omega⟩, hv, ⟨_, _, ⟨hR0, hR1, by omega, by omega⟩, hnu⟩, by omega, fun i hi => (fr i hi).trans (fr0 i hi)⟩
    · skip
      refine xa_aload_n (pc := 20) dX2_firstFault_20 rfl ?_
      refine xa_getfield (pc := 21) dX2_firstFault_21 flRX2_28 (by omega) (by omega) hR0 rfl ?_
      refine xa_aload_n (pc := 24) dX2_firstFault_24 rfl ?_
      refine xa_getfield (pc := 25) dX2_firstFault_25 flRX2_15 (by omega) (by omega) hR0 rfl ?_
      refine xa_getfield (pc := 28) dX2_firstFault_28 flRX2_32 (by omega) (by omega) hT0 rfl ?_
      refine xa_icmp_ge (pc := 31) (tgt := 54) dX2_firstFault_31 (by decide) ⟨by omega, by omega⟩ ⟨by omega, by omega⟩ (fun c_31 => ?_) (fun c_31 => ?_)
      · skip
        refine xa_bipush (pc := 54) dX2_firstFault_54 rfl ?_
        refine xa_ireturn (pc := 56) dX2_firstFault_56 rfl trivial ?_
        have hG : rd_go n f 120 0 b0 = (none, b) := by rw [hgo]; first | exact rd_go_e (by omega) | (have hm1 : m = 120 := by omega); subst hm1; rfl
        rw [hG]
        exact ⟨rfl, ⟨hB0, hB1, hB2, by omega, by omega⟩, hv, ⟨_, _, ⟨hR0, hR1, by omega, by omega⟩, hnu⟩, by omega, fun i hi => (fr i hi).trans (fr0 i hi)⟩
      · skip
        refine xa_aload_n (pc := 34) dX2_firstFault_34 rfl ?_
        refine xa_getfield (pc := 35) dX2_firstFault_35 flRX2_28 (by omega) (by omega) hR0 rfl ?_
        refine xa_istoren (pc := 38) [some (xa_r k), some (xa_i ((m : Nat) : Int)), some (xa_i ((p : Nat) : Int))] dX2_firstFault_38 (by decide) (Nat.le_of_ble_eq_true rfl) rfl rfl ?_
        refine xa_aload_n (pc := 39) dX2_firstFault_39 rfl ?_
        refine xa_callV (pc := 40) (as := []) (rest := []) dX2_firstFault_40 ⟨qX2_readsItem.1, qX2_readsItem.2.1, qX2_readsItem.2.2, by decide, by decide⟩ lkRX2_37 imX2_readsItem seX2_readsItem rfl rfl (by omega) (by omega) hR0 rfl (Nat.le_of_ble_eq_true rfl) (Nat.zero_le _) (Nat.zero_le _) (c_readsItem _ _ _ n p f _ _ _ _ _ _ _ _ _ (by omega) hkt hkk hdis hv.1.1 hv.1.2 (vD_wa hv) hnu hW ⟨hR0, hR1, by omega, by omega⟩ ⟨hT0, hT1, hTk, by omega, hT9, hTb⟩ ⟨hB0, hB1, hB2, by omega, by omega⟩) (fun r h' hq => ?_)
        obtain ⟨hq, hqn, hqf⟩ := hq
        rcases hq with ⟨p', b', nu', hit, rfl, ⟨hB0, hB1, hB2, -, -⟩, ⟨hR0, hR1, -, -⟩, hnu'⟩ | ⟨p', nu', hit, rfl, ⟨hB0, hB1, hB2, -, -⟩, ⟨hR0, hR1, -, -⟩, hnu'⟩
        · skip
          have hW : h'.1 1 = xa_a 8 xa_wagf := (hqf _ (by omega)).trans hW
          have hT0 : h'.1 kt = xa_o 7 [xa_r (kt + 1), xa_i ((n : Nat) : Int)] := (hqf _ (by omega)).trans hT0
          have hT1 : h'.1 (kt + 1) = xa_a 120 f := (hqf _ (by omega)).trans hT1
          have hn : h'.2 = h.2 := hqn.trans hn
          have fr : ∀ i, ((i < kb ∨ kb + 3 ≤ i) ∧ (i < k ∨ k + 2 ≤ i)) → h'.1 i = h.1 i := fun i hi => (hqf i (by omega)).trans (fr i hi)
          have hb := rd_item_b hv hit
          refine xa_if_ne (pc := 43) (tgt := 48) dX2_firstFault_43 (by decide) (by decide) (fun c_43 => ?_) (fun c_43 => ?_)
          · skip
            refine xa_iincw (pc := 48) (y := ((m + 1 : Nat) : Int)) [some (xa_r k), some (xa_i ((m + 1 : Nat) : Int)), some (xa_i ((p : Nat) : Int))] dX2_firstFault_48 (by decide) rfl rfl (by omega) rfl ?_
            refine xa_goto (pc := 51) (tgt := 14) dX2_firstFault_51 (by decide) ?_
            exact ih (m + 1) p' b' nu' _ _ (by omega) (by omega) hb.1 (by rw [hgo, show 120 - m = 120 - (m + 1) + 1 by omega]; exact rd_go_s (by omega) hit) (by omega) hnu' (by omega) (by omega) hR0 hR1 hW hT0 hT1 hB0 hB1 hB2 (fun i hi => (fr i hi).trans (fr0 i hi))
          · skip
            exfalso; omega
        · skip
          have hW : h'.1 1 = xa_a 8 xa_wagf := (hqf _ (by omega)).trans hW
          have hT0 : h'.1 kt = xa_o 7 [xa_r (kt + 1), xa_i ((n : Nat) : Int)] := (hqf _ (by omega)).trans hT0
          have hT1 : h'.1 (kt + 1) = xa_a 120 f := (hqf _ (by omega)).trans hT1
          have hn : h'.2 = h.2 := hqn.trans hn
          have fr : ∀ i, ((i < kb ∨ kb + 3 ≤ i) ∧ (i < k ∨ k + 2 ≤ i)) → h'.1 i = h.1 i := fun i hi => (hqf i (by omega)).trans (fr i hi)
          refine xa_if_ne (pc := 43) (tgt := 48) dX2_firstFault_43 (by decide) (by decide) (fun c_43 => ?_) (fun c_43 => ?_)
          · skip
            exfalso; omega
          · skip
            refine xa_iload_n (pc := 46) dX2_firstFault_46 rfl ?_
            refine xa_ireturn (pc := 47) dX2_firstFault_47 rfl trivial ?_
            have hG : rd_go n f 120 0 b0 = (some p, b) := by rw [hgo, show 120 - m = 120 - (m + 1) + 1 by omega]; exact rd_go_f (by omega) hit
            rw [hG]
            exact ⟨rfl, ⟨hB0, hB1, hB2, by omega, by omega⟩, hv, ⟨_, _, ⟨hR0, hR1, by omega, by omega⟩, hnu'⟩, by omega, fun i hi => (fr i hi).trans (fr0 i hi)⟩
theorem c_firstFault {G : xa_G} {h : xa_H} (k kt kb n p : Nat) (f nu ld dg : Nat → Int) (pa jo : Nat) (wa sr pu ri : Int) (hkt : kt + 2 ≤ k) (hkk : kb + 3 ≤ k) (hdis : kt + 2 ≤ kb ∨ kb + 3 ≤ kt) (hl : ∀ i, 0 ≤ ld i ∧ ld i ≤ 99) (hd : ∀ i, 0 ≤ dg i ∧ dg i ≤ 120) (hnu : ∀ i, -9999 ≤ nu i ∧ nu i ≤ 9999) (hW : h.1 1 = xa_a 8 xa_wagf) (hR : xRd h k kt kb nu p) (hT : xT h kt n f) (hB : xB h kb ld dg pa jo wa sr pu ri)  : xa_M G mX2_firstFault [xa_r k] h 0 0 (fun r h' => r = some (xa_i (rd_res (rd_go n f 120 0 (rd_b0 ld dg)).1)) ∧ xBb h' kb (rd_go n f 120 0 (rd_b0 ld dg)).2 ∧ vD (rd_go n f 120 0 (rd_b0 ld dg)).2 ∧ (∃ (p : Nat) (nu' : Nat → Int), xRd h' k kt kb nu' p ∧ ∀ i, -9999 ≤ nu' i ∧ nu' i ≤ 9999) ∧ h'.2 = h.2 ∧ ∀ i, ((i < kb ∨ kb + 3 ≤ i) ∧ (i < k ∨ k + 2 ≤ i)) → h'.1 i = h.1 i) := by
  refine xa_enter (by decide +kernel) (Nat.le_of_ble_eq_true rfl) ?_
  refine xa_locals (ls' := [some (xa_r k), none, none]) rfl ?_
  have hn : h.2 = h.2 := rfl
  have fr : ∀ i, ((i < kb ∨ kb + 3 ≤ i) ∧ (i < k ∨ k + 2 ≤ i)) → h.1 i = h.1 i := fun _ _ => rfl
  obtain ⟨hR0, hR1, hRk, hRn⟩ := hR
  obtain ⟨hT0, hT1, hTk, hTn, hT9, hTb⟩ := hT
  obtain ⟨hB0, hB1, hB2, hBk, hBn⟩ := hB
  refine xa_aload_n (pc := 0) dX2_firstFault_0 rfl ?_
  refine xa_getfield (pc := 1) dX2_firstFault_1 flRX2_19 (by omega) (by omega) hR0 rfl ?_
  refine xa_callV (pc := 4) (as := []) (rest := []) dX2_firstFault_4 ⟨qX0_empty.1, qX0_empty.2.1, qX0_empty.2.2, by decide, by decide⟩ lkRX2_23 imX0_empty seX0_empty rfl rfl (by omega) (by omega) hB0 rfl (Nat.le_of_ble_eq_true rfl) (Nat.zero_le _) (Nat.zero_le _) (c_empty _ _ _ _ _ _ _ _ _ ⟨hB0, hB1, hB2, by omega, by omega⟩) (fun r h' hq => ?_)
  obtain ⟨rfl, ⟨hB0, hB1, hB2, -, -⟩, hqn, hqf⟩ := hq
  have hR0 : h'.1 k = xa_o 2 [xa_r kt, xa_r kb, xa_r (k + 1), xa_i ((p : Nat) : Int)] := (hqf _ (by omega)).trans hR0
  have hR1 : h'.1 (k + 1) = xa_a 3 nu := (hqf _ (by omega)).trans hR1
  have hW : h'.1 1 = xa_a 8 xa_wagf := (hqf _ (by omega)).trans hW
  have hT0 : h'.1 kt = xa_o 7 [xa_r (kt + 1), xa_i ((n : Nat) : Int)] := (hqf _ (by omega)).trans hT0
  have hT1 : h'.1 (kt + 1) = xa_a 120 f := (hqf _ (by omega)).trans hT1
  have hn : h'.2 = h.2 := hqn.trans hn
  have fr : ∀ i, ((i < kb ∨ kb + 3 ≤ i) ∧ (i < k ∨ k + 2 ≤ i)) → h'.1 i = h.1 i := fun i hi => (hqf i (by omega)).trans (fr i hi)
  refine xa_aload_n (pc := 7) dX2_firstFault_7 rfl ?_
  refine xa_iconst (pc := 8) dX2_firstFault_8 ?_
  refine xa_putw (pc := 9) [xa_r kt, xa_r kb, xa_r (k + 1), xa_i 0] dX2_firstFault_9 flRX2_28 plX2_3 (by omega) (by omega) hR0 trivial rfl (fun h1 nh1 ch1 oh1 => ?_)
  have hR0 : h1.1 k = xa_o 2 [xa_r kt, xa_r kb, xa_r (k + 1), xa_i 0] := ch1
  have hR1 : h1.1 (k + 1) = xa_a 3 nu := (oh1 _ (by omega)).trans hR1
  have hW : h1.1 1 = xa_a 8 xa_wagf := (oh1 _ (by omega)).trans hW
  have hT0 : h1.1 kt = xa_o 7 [xa_r (kt + 1), xa_i ((n : Nat) : Int)] := (oh1 _ (by omega)).trans hT0
  have hT1 : h1.1 (kt + 1) = xa_a 120 f := (oh1 _ (by omega)).trans hT1
  have hB0 : h1.1 kb = xa_o 0 [xa_r (kb + 1), xa_r (kb + 2), xa_i ((0 : Nat) : Int), xa_i ((0 : Nat) : Int), xa_i (-4), xa_i 0, xa_i 0, xa_i 10] := (oh1 _ (by omega)).trans hB0
  have hB1 : h1.1 (kb + 1) = xa_a 9 ld := (oh1 _ (by omega)).trans hB1
  have hB2 : h1.1 (kb + 2) = xa_a 2 dg := (oh1 _ (by omega)).trans hB2
  have hn : h1.2 = h.2 := nh1.trans hn
  have fr : ∀ i, ((i < kb ∨ kb + 3 ≤ i) ∧ (i < k ∨ k + 2 ≤ i)) → h1.1 i = h.1 i := fun i hi => (oh1 i (by omega)).trans (fr i hi)
  refine xa_iconst (pc := 12) dX2_firstFault_12 ?_
  refine xa_istoren (pc := 13) [some (xa_r k), some (xa_i 0), none] dX2_firstFault_13 (by decide) (Nat.le_of_ble_eq_true rfl) rfl rfl ?_
  exact c_firstFault_loop (b0 := rd_b0 ld dg) hRk hBk hTk hkt hkk hdis hT9 hTb 121 0 0 (rd_b0 ld dg) nu _ _ (by omega) (by omega) (vD_b0 hl hd) rfl (by omega) hnu (by omega) (by omega) hR0 hR1 hW hT0 hT1 hB0 hB1 hB2 fr
