/-! Reader.readsItem, firstFault -/
theorem rd_no0 {n : Nat} {f : Nat → Int} {p : Nat} (b : xBt) (h : rd_num n f (p + 1) = none) : rd_item n f p b = none := by
  unfold rd_item
  rw [h]
  split <;> rfl
theorem rd_s0 {n : Nat} {f : Nat → Int} {p a : Nat} {v : Int} (b : xBt) (h : rd_num n f (p + 1) = none ∨ rd_num n f (p + 1) = some (v, a)) (h1 : sp_at n f ((a : Nat) : Int) ≠ 44) (h2 : sp_at n f ((a : Nat) : Int) ≠ 59) : rd_item n f p b = none := by
  rcases h with h | h
  · exact rd_no0 b h
  · unfold rd_item
    rw [h]
    split
    · exact if_neg h1
    · exact if_neg h2
theorem rd_e0 {n : Nat} {f : Nat → Int} {p a : Nat} {v : Int} (b : xBt) {nu : Nat → Int} (h : rd_num n f (p + 1) = some (v, a)) (h1 : sp_at n f ((a : Nat) : Int) = 59) : rd_item n f p b = (rd_bt b (sp_at n f ((p : Nat) : Int)) 1 (xa_upf nu 0 v)).map (fun b' => (a + 1, b')) := by
  unfold rd_item
  rw [h]
  by_cases hq : sp_at n f ((p : Nat) : Int) = 112
  · rw [if_pos hq, hq, rd_bt_p1 b _ (by decide)]
    exact if_neg (by show sp_at n f ((a : Nat) : Int) ≠ 44; omega)
  · rw [if_neg hq, rd_bt_1 b _ (nu := xa_upf nu 0 v) (nu' := rd_nu v 0 0) rfl hq]
    exact if_pos h1
theorem rd_n1 {n : Nat} {f : Nat → Int} {p a : Nat} {v : Int} (b : xBt) (h : rd_num n f (p + 1) = some (v, a)) (h1 : sp_at n f ((a : Nat) : Int) = 44) (hq : sp_at n f ((p : Nat) : Int) ≠ 112) : rd_item n f p b = none := by
  unfold rd_item
  rw [h, if_neg hq]
  exact if_neg (by show sp_at n f ((a : Nat) : Int) ≠ 59; omega)
theorem rd_p1 {n : Nat} {f : Nat → Int} {p a : Nat} {v : Int} (b : xBt) (h : rd_num n f (p + 1) = some (v, a)) (h1 : sp_at n f ((a : Nat) : Int) = 44) (hq : sp_at n f ((p : Nat) : Int) = 112) : rd_item n f p b = (rd_num n f (a + 1)).bind fun u1 => if sp_at n f ((u1.2 : Nat) : Int) = 44 then (rd_num n f (u1.2 + 1)).bind fun u2 => if sp_at n f ((u2.2 : Nat) : Int) = 59 then (rd_bt b 112 3 (rd_nu v u1.1 u2.1)).map (fun b' => (u2.2 + 1, b')) else none else none := by
  unfold rd_item
  rw [h, if_pos hq]
  exact if_pos h1
theorem rd_no1 {n : Nat} {f : Nat → Int} {p a : Nat} {v : Int} (b : xBt) (h : rd_num n f (p + 1) = some (v, a)) (h1 : sp_at n f ((a : Nat) : Int) = 44) (g : rd_num n f (a + 1) = none) : rd_item n f p b = none := by
  by_cases hq : sp_at n f ((p : Nat) : Int) = 112
  · rw [rd_p1 b h h1 hq, g]; rfl
  · exact rd_n1 b h h1 hq
theorem rd_s1 {n : Nat} {f : Nat → Int} {p a a1 : Nat} {v v1 : Int} (b : xBt) (h : rd_num n f (p + 1) = some (v, a)) (h1 : sp_at n f ((a : Nat) : Int) = 44) (g : rd_num n f (a + 1) = none ∨ rd_num n f (a + 1) = some (v1, a1)) (g1 : sp_at n f ((a1 : Nat) : Int) ≠ 44) : rd_item n f p b = none := by
  rcases g with g | g
  · exact rd_no1 b h h1 g
  · by_cases hq : sp_at n f ((p : Nat) : Int) = 112
    · rw [rd_p1 b h h1 hq, g]
      exact if_neg g1
    · exact rd_n1 b h h1 hq
theorem rd_p2 {n : Nat} {f : Nat → Int} {p a a1 : Nat} {v v1 : Int} (b : xBt) (h : rd_num n f (p + 1) = some (v, a)) (h1 : sp_at n f ((a : Nat) : Int) = 44) (g : rd_num n f (a + 1) = some (v1, a1)) (g1 : sp_at n f ((a1 : Nat) : Int) = 44) (hq : sp_at n f ((p : Nat) : Int) = 112) : rd_item n f p b = (rd_num n f (a1 + 1)).bind fun u2 => if sp_at n f ((u2.2 : Nat) : Int) = 59 then (rd_bt b 112 3 (rd_nu v v1 u2.1)).map (fun b' => (u2.2 + 1, b')) else none := by
  rw [rd_p1 b h h1 hq, g]
  exact if_pos g1
theorem rd_s2 {n : Nat} {f : Nat → Int} {p a a1 a2 : Nat} {v v1 v2 : Int} (b : xBt) (h : rd_num n f (p + 1) = some (v, a)) (h1 : sp_at n f ((a : Nat) : Int) = 44) (g : rd_num n f (a + 1) = some (v1, a1)) (g1 : sp_at n f ((a1 : Nat) : Int) = 44) (k : rd_num n f (a1 + 1) = none ∨ rd_num n f (a1 + 1) = some (v2, a2) ∧ sp_at n f ((a2 : Nat) : Int) ≠ 59) : rd_item n f p b = none := by
  by_cases hq : sp_at n f ((p : Nat) : Int) = 112
  · rw [rd_p2 b h h1 g g1 hq]
    rcases k with k | ⟨k, k1⟩
    · rw [k]; rfl
    · rw [k]; exact if_neg k1
  · exact rd_n1 b h h1 hq
theorem rd_e2 {n : Nat} {f : Nat → Int} {p a a1 a2 : Nat} {v v1 v2 : Int} (b : xBt) {nu : Nat → Int} (h : rd_num n f (p + 1) = some (v, a)) (h1 : sp_at n f ((a : Nat) : Int) = 44) (g : rd_num n f (a + 1) = some (v1, a1)) (g1 : sp_at n f ((a1 : Nat) : Int) = 44) (k : rd_num n f (a1 + 1) = some (v2, a2)) (k1 : sp_at n f ((a2 : Nat) : Int) = 59) : rd_item n f p b = (rd_bt b (sp_at n f ((p : Nat) : Int)) 3 (xa_upf (xa_upf (xa_upf nu 0 v) 1 v1) 2 v2)).map (fun b' => (a2 + 1, b')) := by
  by_cases hq : sp_at n f ((p : Nat) : Int) = 112
  · rw [rd_p2 b h h1 g g1 hq, k, hq, rd_bt_3 b 112 (nu := xa_upf (xa_upf (xa_upf nu 0 v) 1 v1) 2 v2) (nu' := rd_nu v v1 v2) rfl rfl rfl]
    exact if_pos k1
  · rw [rd_n1 b h h1 hq, rd_bt_n b _ hq (by decide)]
    rfl
theorem rd_e1 {n : Nat} {f : Nat → Int} {p a a1 : Nat} {v v1 : Int} (b : xBt) (nu : Nat → Int) (h : rd_num n f (p + 1) = some (v, a)) (h1 : sp_at n f ((a : Nat) : Int) = 44) (g : rd_num n f (a + 1) = some (v1, a1)) (g1 : sp_at n f ((a1 : Nat) : Int) = 59) : rd_item n f p b = (rd_bt b (sp_at n f ((p : Nat) : Int)) 2 nu).map (fun b' => (a1 + 1, b')) := by
  rw [rd_s1 b h h1 (Or.inr g) (by omega)]
  by_cases hq : sp_at n f ((p : Nat) : Int) = 112
  · rw [hq, rd_bt_p1 b nu (by decide)]; rfl
  · rw [rd_bt_n b nu hq (by decide)]; rfl
theorem c_readsItem {G : xa_G} {h : xa_H} (k kt kb n p : Nat) (f nu ld dg : Nat → Int) (pa jo : Nat) (wa sr pu ri : Int) (hp : p < n) (hkt : kt + 2 ≤ k) (hkk : kb + 3 ≤ k) (hdis : kt + 2 ≤ kb ∨ kb + 3 ≤ kt) (hpa : pa ≤ 3) (hjo : jo ≤ 2) (hwa : xa_ok wa) (hnu : ∀ i, -9999 ≤ nu i ∧ nu i ≤ 9999) (hW : h.1 1 = xa_a 8 xa_wagf) (hR : xRd h k kt kb nu p) (hT : xT h kt n f) (hB : xB h kb ld dg pa jo wa sr pu ri)  : xa_M G mX2_readsItem [xa_r k] h 0 0 (fun r h' => ((∃ (p' : Nat) (b : xBt) (nu' : Nat → Int), rd_item n f p (ld, dg, pa, jo, wa, sr, pu, ri) = some (p', b) ∧ r = some (xa_i 1) ∧ xBb h' kb b ∧ xRd h' k kt kb nu' p' ∧ ∀ i, -9999 ≤ nu' i ∧ nu' i ≤ 9999) ∨ (∃ (p' : Nat) (nu' : Nat → Int), rd_item n f p (ld, dg, pa, jo, wa, sr, pu, ri) = none ∧ r = some (xa_i 0) ∧ xB h' kb ld dg pa jo wa sr pu ri ∧ xRd h' k kt kb nu' p' ∧ ∀ i, -9999 ≤ nu' i ∧ nu' i ≤ 9999)) ∧ h'.2 = h.2 ∧ ∀ i, ((i < kb ∨ kb + 3 ≤ i) ∧ (i < k ∨ k + 2 ≤ i)) → h'.1 i = h.1 i) := by
  refine xa_enter (by decide +kernel) (Nat.le_of_ble_eq_true rfl) ?_
  refine xa_locals (ls' := [some (xa_r k), none, none, none]) rfl ?_
  have hn : h.2 = h.2 := rfl
  have fr : ∀ i, ((i < kb ∨ kb + 3 ≤ i) ∧ (i < k ∨ k + 2 ≤ i)) → h.1 i = h.1 i := fun _ _ => rfl
  obtain ⟨hR0, hR1, hRk, hRn⟩ := hR
  obtain ⟨hT0, hT1, hTk, hTn, hT9, hTb⟩ := hT
  obtain ⟨hB0, hB1, hB2, hBk, hBn⟩ := hB
  refine xa_aload_n (pc := 0) dX2_readsItem_0 rfl ?_
  refine xa_getfield (pc := 1) dX2_readsItem_1 flRX2_15 (by omega) (by omega) hR0 rfl ?_
  refine xa_aload_n (pc := 4) dX2_readsItem_4 rfl ?_
  refine xa_getfield (pc := 5) dX2_readsItem_5 flRX2_28 (by omega) (by omega) hR0 rfl ?_
  refine xa_callV (pc := 8) (as := [xa_i ((p : Nat) : Int)]) (rest := []) dX2_readsItem_8 ⟨qX7_byteAt.1, qX7_byteAt.2.1, qX7_byteAt.2.2, by decide, by decide⟩ lkRX2_41 imX7_byteAt seX7_byteAt rfl rfl (by omega) (by omega) hT0 rfl (Nat.le_of_ble_eq_true rfl) (Nat.zero_le _) (Nat.zero_le _) (c_byteAt _ _ _ _ ⟨by omega, by omega⟩ ⟨hT0, hT1, hTk, by omega, hT9, hTb⟩) (fun r h' hq => ?_)
  obtain ⟨rfl, hq⟩ := hq
  have hq := hq.symm
  subst hq
  have ba := sp_at_b (n := n) hTb ((p : Nat) : Int)
  refine xa_istoren (pc := 11) [some (xa_r k), some (xa_i (sp_at n f ((p : Nat) : Int))), none, none] dX2_readsItem_11 (by decide) (Nat.le_of_ble_eq_true rfl) rfl rfl ?_
  refine xa_aload_n (pc := 12) dX2_readsItem_12 rfl ?_
  refine xa_dup (pc := 13) dX2_readsItem_13 rfl ?_
  refine xa_getfield (pc := 14) dX2_readsItem_14 flRX2_28 (by omega) (by omega) hR0 rfl ?_
  refine xa_iconst (pc := 17) dX2_readsItem_17 ?_
  refine xa_iadd (pc := 18) dX2_readsItem_18 ?_
  refine xa_top (y := ((p + 1 : Nat) : Int)) (by omega) ?_
  refine xa_putw (pc := 19) [xa_r kt, xa_r kb, xa_r (k + 1), xa_i ((p + 1 : Nat) : Int)] dX2_readsItem_19 flRX2_28 plX2_3 (by omega) (by omega) hR0 trivial rfl (fun h1 nh1 ch1 oh1 => ?_)
  have hR0 : h1.1 k = xa_o 2 [xa_r kt, xa_r kb, xa_r (k + 1), xa_i ((p + 1 : Nat) : Int)] := ch1
  have hR1 : h1.1 (k + 1) = xa_a 3 nu := (oh1 _ (by omega)).trans hR1
  have hW : h1.1 1 = xa_a 8 xa_wagf := (oh1 _ (by omega)).trans hW
  have hT0 : h1.1 kt = xa_o 7 [xa_r (kt + 1), xa_i ((n : Nat) : Int)] := (oh1 _ (by omega)).trans hT0
  have hT1 : h1.1 (kt + 1) = xa_a 120 f := (oh1 _ (by omega)).trans hT1
  have hB0 : h1.1 kb = xa_o 0 [xa_r (kb + 1), xa_r (kb + 2), xa_i ((pa : Nat) : Int), xa_i ((jo : Nat) : Int), xa_i wa, xa_i sr, xa_i pu, xa_i ri] := (oh1 _ (by omega)).trans hB0
  have hB1 : h1.1 (kb + 1) = xa_a 9 ld := (oh1 _ (by omega)).trans hB1
  have hB2 : h1.1 (kb + 2) = xa_a 2 dg := (oh1 _ (by omega)).trans hB2
  have hn : h1.2 = h.2 := nh1.trans hn
  have fr : ∀ i, ((i < kb ∨ kb + 3 ≤ i) ∧ (i < k ∨ k + 2 ≤ i)) → h1.1 i = h.1 i := fun i hi => (oh1 i (by omega)).trans (fr i hi)
  refine xa_iconst (pc := 22) dX2_readsItem_22 ?_
  refine xa_istoren (pc := 23) [some (xa_r k), some (xa_i (sp_at n f ((p : Nat) : Int))), some (xa_i 0), none] dX2_readsItem_23 (by decide) (Nat.le_of_ble_eq_true rfl) rfl rfl ?_
  refine xa_iload_n (pc := 24) dX2_readsItem_24 rfl ?_
  refine xa_aload_n (pc := 25) dX2_readsItem_25 rfl ?_
  refine xa_getfield (pc := 26) dX2_readsItem_26 flRX2_9 (by omega) (by omega) hR0 rfl ?_
  refine xa_alen (pc := 29) dX2_readsItem_29 (by omega) hR1 ?_
  refine xa_top (y := 3) rfl ?_
  refine xa_icmp_ge (pc := 30) (tgt := 94) dX2_readsItem_30 (by decide) (by decide) (by decide) (fun c_30 => ?_) (fun c_30 => ?_)
  · skip
    exfalso; omega
  · skip
    refine xa_aload_n (pc := 33) dX2_readsItem_33 rfl ?_
    refine xa_iload_n (pc := 34) dX2_readsItem_34 rfl ?_
    refine xa_callV (pc := 35) (as := [xa_i 0]) (rest := []) dX2_readsItem_35 ⟨qX2_readsNumber.1, qX2_readsNumber.2.1, qX2_readsNumber.2.2, by decide, by decide⟩ lkRX2_45 imX2_readsNumber seX2_readsNumber rfl rfl (by omega) (by omega) hR0 rfl (Nat.le_of_ble_eq_true rfl) (Nat.zero_le _) (Nat.zero_le _) (c_readsNumber _ _ _ n (p + 1) 0 f _ (by omega) (by omega) (by omega) ⟨hR0, hR1, by omega, by omega⟩ ⟨hT0, hT1, hTk, by omega, hT9, hTb⟩) (fun r h' hq => ?_)
    obtain ⟨m0, hm0, hd0, hs0, hq, hqn, hqf⟩ := hq
    rcases hq with ⟨ho0, rfl, hR0, hR1, -, -⟩ | ⟨ho0, rfl, hR0, hR1, -, -⟩
    · skip
      have hv0 := sp_val_b (n := n) (f := f) hm0 hd0
      have hg0 : sp_neg n f (p + 1) ≤ 1 := by unfold sp_neg; split <;> omega
      have z0 := rd_num_any hm0 hd0 hs0 ho0
      generalize ha0 : (p + 1) + sp_neg n f (p + 1) + m0 = a0 at *
      generalize hw0 : (if ((sp_neg n f (p + 1) : Nat) : Int) = 1 then -sp_val n f ((p + 1) + sp_neg n f (p + 1)) m0 else sp_val n f ((p + 1) + sp_neg n f (p + 1)) m0) = v0 at *
      have hvb0 : -9999 ≤ v0 ∧ v0 ≤ 9999 := by rw [← hw0]; split <;> omega
      have hW : h'.1 1 = xa_a 8 xa_wagf := (hqf _ (by omega)).trans hW
      have hT0 : h'.1 kt = xa_o 7 [xa_r (kt + 1), xa_i ((n : Nat) : Int)] := (hqf _ (by omega)).trans hT0
      have hT1 : h'.1 (kt + 1) = xa_a 120 f := (hqf _ (by omega)).trans hT1
      have hB0 : h'.1 kb = xa_o 0 [xa_r (kb + 1), xa_r (kb + 2), xa_i ((pa : Nat) : Int), xa_i ((jo : Nat) : Int), xa_i wa, xa_i sr, xa_i pu, xa_i ri] := (hqf _ (by omega)).trans hB0
      have hB1 : h'.1 (kb + 1) = xa_a 9 ld := (hqf _ (by omega)).trans hB1
      have hB2 : h'.1 (kb + 2) = xa_a 2 dg := (hqf _ (by omega)).trans hB2
      have hn : h'.2 = h.2 := hqn.trans hn
      have fr : ∀ i, ((i < kb ∨ kb + 3 ≤ i) ∧ (i < k ∨ k + 2 ≤ i)) → h'.1 i = h.1 i := fun i hi => (hqf i (by omega)).trans (fr i hi)
      refine xa_if_ne (pc := 38) (tgt := 43) dX2_readsItem_38 (by decide) (by decide) (fun c_38 => ?_) (fun c_38 => ?_)
      · skip
        refine xa_aload_n (pc := 43) dX2_readsItem_43 rfl ?_
        refine xa_getfield (pc := 44) dX2_readsItem_44 flRX2_15 (by omega) (by omega) hR0 rfl ?_
        refine xa_aload_n (pc := 47) dX2_readsItem_47 rfl ?_
        refine xa_getfield (pc := 48) dX2_readsItem_48 flRX2_28 (by omega) (by omega) hR0 rfl ?_
        refine xa_callV (pc := 51) (as := [xa_i ((a0 : Nat) : Int)]) (rest := []) dX2_readsItem_51 ⟨qX7_byteAt.1, qX7_byteAt.2.1, qX7_byteAt.2.2, by decide, by decide⟩ lkRX2_41 imX7_byteAt seX7_byteAt rfl rfl (by omega) (by omega) hT0 rfl (Nat.le_of_ble_eq_true rfl) (Nat.zero_le _) (Nat.zero_le _) (c_byteAt _ _ _ _ ⟨by omega, by omega⟩ ⟨hT0, hT1, hTk, by omega, hT9, hTb⟩) (fun r h' hq => ?_)
        obtain ⟨rfl, hq⟩ := hq
        have hq := hq.symm
        subst hq
        have ba := sp_at_b (n := n) hTb ((a0 : Nat) : Int)
        refine xa_istoren (pc := 54) [some (xa_r k), some (xa_i (sp_at n f ((p : Nat) : Int))), some (xa_i 0), some (xa_i (sp_at n f ((a0 : Nat) : Int)))] dX2_readsItem_54 (by decide) (Nat.le_of_ble_eq_true rfl) rfl rfl ?_
        refine xa_aload_n (pc := 55) dX2_readsItem_55 rfl ?_
        refine xa_dup (pc := 56) dX2_readsItem_56 rfl ?_
        refine xa_getfield (pc := 57) dX2_readsItem_57 flRX2_28 (by omega) (by omega) hR0 rfl ?_
        refine xa_iconst (pc := 60) dX2_readsItem_60 ?_
        refine xa_iadd (pc := 61) dX2_readsItem_61 ?_
        refine xa_top (y := ((a0 + 1 : Nat) : Int)) (by omega) ?_
        refine xa_putw (pc := 62) [xa_r kt, xa_r kb, xa_r (k + 1), xa_i ((a0 + 1 : Nat) : Int)] dX2_readsItem_62 flRX2_28 plX2_3 (by omega) (by omega) hR0 trivial rfl (fun h2 nh2 ch2 oh2 => ?_)
        have hR0 : h2.1 k = xa_o 2 [xa_r kt, xa_r kb, xa_r (k + 1), xa_i ((a0 + 1 : Nat) : Int)] := ch2
        have hR1 : h2.1 (k + 1) = xa_a 3 (xa_upf nu 0 v0) := (oh2 _ (by omega)).trans hR1
        have hW : h2.1 1 = xa_a 8 xa_wagf := (oh2 _ (by omega)).trans hW
        have hT0 : h2.1 kt = xa_o 7 [xa_r (kt + 1), xa_i ((n : Nat) : Int)] := (oh2 _ (by omega)).trans hT0
        have hT1 : h2.1 (kt + 1) = xa_a 120 f := (oh2 _ (by omega)).trans hT1
        have hB0 : h2.1 kb = xa_o 0 [xa_r (kb + 1), xa_r (kb + 2), xa_i ((pa : Nat) : Int), xa_i ((jo : Nat) : Int), xa_i wa, xa_i sr, xa_i pu, xa_i ri] := (oh2 _ (by omega)).trans hB0
        have hB1 : h2.1 (kb + 1) = xa_a 9 ld := (oh2 _ (by omega)).trans hB1
        have hB2 : h2.1 (kb + 2) = xa_a 2 dg := (oh2 _ (by omega)).trans hB2
        have hn : h2.2 = h.2 := nh2.trans hn
        have fr : ∀ i, ((i < kb ∨ kb + 3 ≤ i) ∧ (i < k ∨ k + 2 ≤ i)) → h2.1 i = h.1 i := fun i hi => (oh2 i (by omega)).trans (fr i hi)
        refine xa_iload_n (pc := 65) dX2_readsItem_65 rfl ?_
        refine xa_bipush (pc := 66) dX2_readsItem_66 rfl ?_
        refine xa_icmp_ne (pc := 68) (tgt := 80) dX2_readsItem_68 (by decide) ⟨by omega, by omega⟩ (by decide) (fun c_68 => ?_) (fun c_68 => ?_)
        · skip
          refine xa_iload_n (pc := 80) dX2_readsItem_80 rfl ?_
          refine xa_bipush (pc := 81) dX2_readsItem_81 rfl ?_
          refine xa_icmp_eq (pc := 83) (tgt := 88) dX2_readsItem_83 (by decide) ⟨by omega, by omega⟩ (by decide) (fun c_83 => ?_) (fun c_83 => ?_)
          · skip
            refine xa_iincw (pc := 88) (y := 1) [some (xa_r k), some (xa_i (sp_at n f ((p : Nat) : Int))), some (xa_i 1), some (xa_i (sp_at n f ((a0 : Nat) : Int)))] dX2_readsItem_88 (by decide) rfl rfl rfl rfl ?_
            refine xa_goto (pc := 91) (tgt := 24) dX2_readsItem_91 (by decide) ?_
            refine xa_iload_n (pc := 24) dX2_readsItem_24 rfl ?_
            refine xa_aload_n (pc := 25) dX2_readsItem_25 rfl ?_
            refine xa_getfield (pc := 26) dX2_readsItem_26 flRX2_9 (by omega) (by omega) hR0 rfl ?_
            refine xa_alen (pc := 29) dX2_readsItem_29 (by omega) hR1 ?_
            refine xa_top (y := 3) rfl ?_
            refine xa_icmp_ge (pc := 30) (tgt := 94) dX2_readsItem_30 (by decide) (by decide) (by decide) (fun c_30 => ?_) (fun c_30 => ?_)
            · skip
              exfalso; omega
            · skip
              refine xa_aload_n (pc := 33) dX2_readsItem_33 rfl ?_
              refine xa_iload_n (pc := 34) dX2_readsItem_34 rfl ?_
              refine xa_callV (pc := 35) (as := [xa_i 1]) (rest := []) dX2_readsItem_35 ⟨qX2_readsNumber.1, qX2_readsNumber.2.1, qX2_readsNumber.2.2, by decide, by decide⟩ lkRX2_45 imX2_readsNumber seX2_readsNumber rfl rfl (by omega) (by omega) hR0 rfl (Nat.le_of_ble_eq_true rfl) (Nat.zero_le _) (Nat.zero_le _) (c_readsNumber _ _ _ n (a0 + 1) 1 f _ (by omega) (by omega) (by omega) ⟨hR0, hR1, by omega, by omega⟩ ⟨hT0, hT1, hTk, by omega, hT9, hTb⟩) (fun r h' hq => ?_)
              obtain ⟨m1, hm1, hd1, hs1, hq, hqn, hqf⟩ := hq
              rcases hq with ⟨ho1, rfl, hR0, hR1, -, -⟩ | ⟨ho1, rfl, hR0, hR1, -, -⟩
              · skip
                have hv1 := sp_val_b (n := n) (f := f) hm1 hd1
                have hg1 : sp_neg n f (a0 + 1) ≤ 1 := by unfold sp_neg; split <;> omega
                have z1 := rd_num_any hm1 hd1 hs1 ho1
                generalize ha1 : (a0 + 1) + sp_neg n f (a0 + 1) + m1 = a1 at *
                generalize hw1 : (if ((sp_neg n f (a0 + 1) : Nat) : Int) = 1 then -sp_val n f ((a0 + 1) + sp_neg n f (a0 + 1)) m1 else sp_val n f ((a0 + 1) + sp_neg n f (a0 + 1)) m1) = v1 at *
                have hvb1 : -9999 ≤ v1 ∧ v1 ≤ 9999 := by rw [← hw1]; split <;> omega
                have hW : h'.1 1 = xa_a 8 xa_wagf := (hqf _ (by omega)).trans hW
                have hT0 : h'.1 kt = xa_o 7 [xa_r (kt + 1), xa_i ((n : Nat) : Int)] := (hqf _ (by omega)).trans hT0
                have hT1 : h'.1 (kt + 1) = xa_a 120 f := (hqf _ (by omega)).trans hT1
                have hB0 : h'.1 kb = xa_o 0 [xa_r (kb + 1), xa_r (kb + 2), xa_i ((pa : Nat) : Int), xa_i ((jo : Nat) : Int), xa_i wa, xa_i sr, xa_i pu, xa_i ri] := (hqf _ (by omega)).trans hB0
                have hB1 : h'.1 (kb + 1) = xa_a 9 ld := (hqf _ (by omega)).trans hB1
                have hB2 : h'.1 (kb + 2) = xa_a 2 dg := (hqf _ (by omega)).trans hB2
                have hn : h'.2 = h.2 := hqn.trans hn
                have fr : ∀ i, ((i < kb ∨ kb + 3 ≤ i) ∧ (i < k ∨ k + 2 ≤ i)) → h'.1 i = h.1 i := fun i hi => (hqf i (by omega)).trans (fr i hi)
                refine xa_if_ne (pc := 38) (tgt := 43) dX2_readsItem_38 (by decide) (by decide) (fun c_38 => ?_) (fun c_38 => ?_)
                · skip
                  refine xa_aload_n (pc := 43) dX2_readsItem_43 rfl ?_
                  refine xa_getfield (pc := 44) dX2_readsItem_44 flRX2_15 (by omega) (by omega) hR0 rfl ?_
                  refine xa_aload_n (pc := 47) dX2_readsItem_47 rfl ?_
                  refine xa_getfield (pc := 48) dX2_readsItem_48 flRX2_28 (by omega) (by omega) hR0 rfl ?_
                  refine xa_callV (pc := 51) (as := [xa_i ((a1 : Nat) : Int)]) (rest := []) dX2_readsItem_51 ⟨qX7_byteAt.1, qX7_byteAt.2.1, qX7_byteAt.2.2, by decide, by decide⟩ lkRX2_41 imX7_byteAt seX7_byteAt rfl rfl (by omega) (by omega) hT0 rfl (Nat.le_of_ble_eq_true rfl) (Nat.zero_le _) (Nat.zero_le _) (c_byteAt _ _ _ _ ⟨by omega, by omega⟩ ⟨hT0, hT1, hTk, by omega, hT9, hTb⟩) (fun r h' hq => ?_)
                  obtain ⟨rfl, hq⟩ := hq
                  have hq := hq.symm
                  subst hq
                  have ba := sp_at_b (n := n) hTb ((a1 : Nat) : Int)
                  refine xa_istoren (pc := 54) [some (xa_r k), some (xa_i (sp_at n f ((p : Nat) : Int))), some (xa_i 1), some (xa_i (sp_at n f ((a1 : Nat) : Int)))] dX2_readsItem_54 (by decide) (Nat.le_of_ble_eq_true rfl) rfl rfl ?_
                  refine xa_aload_n (pc := 55) dX2_readsItem_55 rfl ?_
                  refine xa_dup (pc := 56) dX2_readsItem_56 rfl ?_
                  refine xa_getfield (pc := 57) dX2_readsItem_57 flRX2_28 (by omega) (by omega) hR0 rfl ?_
                  refine xa_iconst (pc := 60) dX2_readsItem_60 ?_
                  refine xa_iadd (pc := 61) dX2_readsItem_61 ?_
                  refine xa_top (y := ((a1 + 1 : Nat) : Int)) (by omega) ?_
                  refine xa_putw (pc := 62) [xa_r kt, xa_r kb, xa_r (k + 1), xa_i ((a1 + 1 : Nat) : Int)] dX2_readsItem_62 flRX2_28 plX2_3 (by omega) (by omega) hR0 trivial rfl (fun h3 nh3 ch3 oh3 => ?_)
                  have hR0 : h3.1 k = xa_o 2 [xa_r kt, xa_r kb, xa_r (k + 1), xa_i ((a1 + 1 : Nat) : Int)] := ch3
                  have hR1 : h3.1 (k + 1) = xa_a 3 (xa_upf (xa_upf nu 0 v0) 1 v1) := (oh3 _ (by omega)).trans hR1
                  have hW : h3.1 1 = xa_a 8 xa_wagf := (oh3 _ (by omega)).trans hW
                  have hT0 : h3.1 kt = xa_o 7 [xa_r (kt + 1), xa_i ((n : Nat) : Int)] := (oh3 _ (by omega)).trans hT0
                  have hT1 : h3.1 (kt + 1) = xa_a 120 f := (oh3 _ (by omega)).trans hT1
                  have hB0 : h3.1 kb = xa_o 0 [xa_r (kb + 1), xa_r (kb + 2), xa_i ((pa : Nat) : Int), xa_i ((jo : Nat) : Int), xa_i wa, xa_i sr, xa_i pu, xa_i ri] := (oh3 _ (by omega)).trans hB0
                  have hB1 : h3.1 (kb + 1) = xa_a 9 ld := (oh3 _ (by omega)).trans hB1
                  have hB2 : h3.1 (kb + 2) = xa_a 2 dg := (oh3 _ (by omega)).trans hB2
                  have hn : h3.2 = h.2 := nh3.trans hn
                  have fr : ∀ i, ((i < kb ∨ kb + 3 ≤ i) ∧ (i < k ∨ k + 2 ≤ i)) → h3.1 i = h.1 i := fun i hi => (oh3 i (by omega)).trans (fr i hi)
                  refine xa_iload_n (pc := 65) dX2_readsItem_65 rfl ?_
                  refine xa_bipush (pc := 66) dX2_readsItem_66 rfl ?_
                  refine xa_icmp_ne (pc := 68) (tgt := 80) dX2_readsItem_68 (by decide) ⟨by omega, by omega⟩ (by decide) (fun c_68 => ?_) (fun c_68 => ?_)
                  · skip
                    refine xa_iload_n (pc := 80) dX2_readsItem_80 rfl ?_
                    refine xa_bipush (pc := 81) dX2_readsItem_81 rfl ?_
                    refine xa_icmp_eq (pc := 83) (tgt := 88) dX2_readsItem_83 (by decide) ⟨by omega, by omega⟩ (by decide) (fun c_83 => ?_) (fun c_83 => ?_)
                    · skip
                      refine xa_iincw (pc := 88) (y := 2) [some (xa_r k), some (xa_i (sp_at n f ((p : Nat) : Int))), some (xa_i 2), some (xa_i (sp_at n f ((a1 : Nat) : Int)))] dX2_readsItem_88 (by decide) rfl rfl rfl rfl ?_
                      refine xa_goto (pc := 91) (tgt := 24) dX2_readsItem_91 (by decide) ?_
                      refine xa_iload_n (pc := 24) dX2_readsItem_24 rfl ?_
                      refine xa_aload_n (pc := 25) dX2_readsItem_25 rfl ?_
                      refine xa_getfield (pc := 26) dX2_readsItem_26 flRX2_9 (by omega) (by omega) hR0 rfl ?_
                      refine xa_alen (pc := 29) dX2_readsItem_29 (by omega) hR1 ?_
                      refine xa_top (y := 3) rfl ?_
                      refine xa_icmp_ge (pc := 30) (tgt := 94) dX2_readsItem_30 (by decide) (by decide) (by decide) (fun c_30 => ?_) (fun c_30 => ?_)
                      · skip
                        exfalso; omega
                      · skip
                        refine xa_aload_n (pc := 33) dX2_readsItem_33 rfl ?_
                        refine xa_iload_n (pc := 34) dX2_readsItem_34 rfl ?_
                        refine xa_callV (pc := 35) (as := [xa_i 2]) (rest := []) dX2_readsItem_35 ⟨qX2_readsNumber.1, qX2_readsNumber.2.1, qX2_readsNumber.2.2, by decide, by decide⟩ lkRX2_45 imX2_readsNumber seX2_readsNumber rfl rfl (by omega) (by omega) hR0 rfl (Nat.le_of_ble_eq_true rfl) (Nat.zero_le _) (Nat.zero_le _) (c_readsNumber _ _ _ n (a1 + 1) 2 f _ (by omega) (by omega) (by omega) ⟨hR0, hR1, by omega, by omega⟩ ⟨hT0, hT1, hTk, by omega, hT9, hTb⟩) (fun r h' hq => ?_)
                        obtain ⟨m2, hm2, hd2, hs2, hq, hqn, hqf⟩ := hq
                        rcases hq with ⟨ho2, rfl, hR0, hR1, -, -⟩ | ⟨ho2, rfl, hR0, hR1, -, -⟩
                        · skip
                          have hv2 := sp_val_b (n := n) (f := f) hm2 hd2
                          have hg2 : sp_neg n f (a1 + 1) ≤ 1 := by unfold sp_neg; split <;> omega
                          have z2 := rd_num_any hm2 hd2 hs2 ho2
                          generalize ha2 : (a1 + 1) + sp_neg n f (a1 + 1) + m2 = a2 at *
                          generalize hw2 : (if ((sp_neg n f (a1 + 1) : Nat) : Int) = 1 then -sp_val n f ((a1 + 1) + sp_neg n f (a1 + 1)) m2 else sp_val n f ((a1 + 1) + sp_neg n f (a1 + 1)) m2) = v2 at *
                          have hvb2 : -9999 ≤ v2 ∧ v2 ≤ 9999 := by rw [← hw2]; split <;> omega
                          have hW : h'.1 1 = xa_a 8 xa_wagf := (hqf _ (by omega)).trans hW
                          have hT0 : h'.1 kt = xa_o 7 [xa_r (kt + 1), xa_i ((n : Nat) : Int)] := (hqf _ (by omega)).trans hT0
                          have hT1 : h'.1 (kt + 1) = xa_a 120 f := (hqf _ (by omega)).trans hT1
                          have hB0 : h'.1 kb = xa_o 0 [xa_r (kb + 1), xa_r (kb + 2), xa_i ((pa : Nat) : Int), xa_i ((jo : Nat) : Int), xa_i wa, xa_i sr, xa_i pu, xa_i ri] := (hqf _ (by omega)).trans hB0
                          have hB1 : h'.1 (kb + 1) = xa_a 9 ld := (hqf _ (by omega)).trans hB1
                          have hB2 : h'.1 (kb + 2) = xa_a 2 dg := (hqf _ (by omega)).trans hB2
                          have hn : h'.2 = h.2 := hqn.trans hn
                          have fr : ∀ i, ((i < kb ∨ kb + 3 ≤ i) ∧ (i < k ∨ k + 2 ≤ i)) → h'.1 i = h.1 i := fun i hi => (hqf i (by omega)).trans (fr i hi)
                          refine xa_if_ne (pc := 38) (tgt := 43) dX2_readsItem_38 (by decide) (by decide) (fun c_38 => ?_) (fun c_38 => ?_)
                          · skip
                            refine xa_aload_n (pc := 43) dX2_readsItem_43 rfl ?_
                            refine xa_getfield (pc := 44) dX2_readsItem_44 flRX2_15 (by omega) (by omega) hR0 rfl ?_
                            refine xa_aload_n (pc := 47) dX2_readsItem_47 rfl ?_
                            refine xa_getfield (pc := 48) dX2_readsItem_48 flRX2_28 (by omega) (by omega) hR0 rfl ?_
                            refine xa_callV (pc := 51) (as := [xa_i ((a2 : Nat) : Int)]) (rest := []) dX2_readsItem_51 ⟨qX7_byteAt.1, qX7_byteAt.2.1, qX7_byteAt.2.2, by decide, by decide⟩ lkRX2_41 imX7_byteAt seX7_byteAt rfl rfl (by omega) (by omega) hT0 rfl (Nat.le_of_ble_eq_true rfl) (Nat.zero_le _) (Nat.zero_le _) (c_byteAt _ _ _ _ ⟨by omega, by omega⟩ ⟨hT0, hT1, hTk, by omega, hT9, hTb⟩) (fun r h' hq => ?_)
                            obtain ⟨rfl, hq⟩ := hq
                            have hq := hq.symm
                            subst hq
                            have ba := sp_at_b (n := n) hTb ((a2 : Nat) : Int)
                            refine xa_istoren (pc := 54) [some (xa_r k), some (xa_i (sp_at n f ((p : Nat) : Int))), some (xa_i 2), some (xa_i (sp_at n f ((a2 : Nat) : Int)))] dX2_readsItem_54 (by decide) (Nat.le_of_ble_eq_true rfl) rfl rfl ?_
                            refine xa_aload_n (pc := 55) dX2_readsItem_55 rfl ?_
                            refine xa_dup (pc := 56) dX2_readsItem_56 rfl ?_
                            refine xa_getfield (pc := 57) dX2_readsItem_57 flRX2_28 (by omega) (by omega) hR0 rfl ?_
                            refine xa_iconst (pc := 60) dX2_readsItem_60 ?_
                            refine xa_iadd (pc := 61) dX2_readsItem_61 ?_
                            refine xa_top (y := ((a2 + 1 : Nat) : Int)) (by omega) ?_
                            refine xa_putw (pc := 62) [xa_r kt, xa_r kb, xa_r (k + 1), xa_i ((a2 + 1 : Nat) : Int)] dX2_readsItem_62 flRX2_28 plX2_3 (by omega) (by omega) hR0 trivial rfl (fun h4 nh4 ch4 oh4 => ?_)
                            have hR0 : h4.1 k = xa_o 2 [xa_r kt, xa_r kb, xa_r (k + 1), xa_i ((a2 + 1 : Nat) : Int)] := ch4
                            have hR1 : h4.1 (k + 1) = xa_a 3 (xa_upf (xa_upf (xa_upf nu 0 v0) 1 v1) 2 v2) := (oh4 _ (by omega)).trans hR1
                            have hW : h4.1 1 = xa_a 8 xa_wagf := (oh4 _ (by omega)).trans hW
                            have hT0 : h4.1 kt = xa_o 7 [xa_r (kt + 1), xa_i ((n : Nat) : Int)] := (oh4 _ (by omega)).trans hT0
                            have hT1 : h4.1 (kt + 1) = xa_a 120 f := (oh4 _ (by omega)).trans hT1
                            have hB0 : h4.1 kb = xa_o 0 [xa_r (kb + 1), xa_r (kb + 2), xa_i ((pa : Nat) : Int), xa_i ((jo : Nat) : Int), xa_i wa, xa_i sr, xa_i pu, xa_i ri] := (oh4 _ (by omega)).trans hB0
                            have hB1 : h4.1 (kb + 1) = xa_a 9 ld := (oh4 _ (by omega)).trans hB1
                            have hB2 : h4.1 (kb + 2) = xa_a 2 dg := (oh4 _ (by omega)).trans hB2
                            have hn : h4.2 = h.2 := nh4.trans hn
                            have fr : ∀ i, ((i < kb ∨ kb + 3 ≤ i) ∧ (i < k ∨ k + 2 ≤ i)) → h4.1 i = h.1 i := fun i hi => (oh4 i (by omega)).trans (fr i hi)
                            refine xa_iload_n (pc := 65) dX2_readsItem_65 rfl ?_
                            refine xa_bipush (pc := 66) dX2_readsItem_66 rfl ?_
                            refine xa_icmp_ne (pc := 68) (tgt := 80) dX2_readsItem_68 (by decide) ⟨by omega, by omega⟩ (by decide) (fun c_68 => ?_) (fun c_68 => ?_)
                            · skip
                              refine xa_iload_n (pc := 80) dX2_readsItem_80 rfl ?_
                              refine xa_bipush (pc := 81) dX2_readsItem_81 rfl ?_
                              refine xa_icmp_eq (pc := 83) (tgt := 88) dX2_readsItem_83 (by decide) ⟨by omega, by omega⟩ (by decide) (fun c_83 => ?_) (fun c_83 => ?_)
                              · skip
                                refine xa_iincw (pc := 88) (y := 3) [some (xa_r k), some (xa_i (sp_at n f ((p : Nat) : Int))), some (xa_i 3), some (xa_i (sp_at n f ((a2 : Nat) : Int)))] dX2_readsItem_88 (by decide) rfl rfl rfl rfl ?_
                                refine xa_goto (pc := 91) (tgt := 24) dX2_readsItem_91 (by decide) ?_
                                refine xa_iload_n (pc := 24) dX2_readsItem_24 rfl ?_
                                refine xa_aload_n (pc := 25) dX2_readsItem_25 rfl ?_
                                refine xa_getfield (pc := 26) dX2_readsItem_26 flRX2_9 (by omega) (by omega) hR0 rfl ?_
                                refine xa_alen (pc := 29) dX2_readsItem_29 (by omega) hR1 ?_
                                refine xa_top (y := 3) rfl ?_
                                refine xa_icmp_ge (pc := 30) (tgt := 94) dX2_readsItem_30 (by decide) (by decide) (by decide) (fun c_30 => ?_) (fun c_30 => ?_)
                                · skip
                                  refine xa_iconst (pc := 94) dX2_readsItem_94 ?_
                                  refine xa_ireturn (pc := 95) dX2_readsItem_95 rfl (Or.inl rfl) ?_
                                  have e0 : rd_num n f (p + 1) = some (v0, a0) := z0.resolve_left (fun q => by have := q.2; unfold sp_isd at this; omega) |> fun q => q
                                  have e1 : rd_num n f (a0 + 1) = some (v1, a1) := z1.resolve_left (fun q => by have := q.2; unfold sp_isd at this; omega) |> fun q => q
                                  have e2 : rd_num n f (a1 + 1) = some (v2, a2) := z2.resolve_left (fun q => by have := q.2; unfold sp_isd at this; omega) |> fun q => q
                                  exact ⟨Or.inr ⟨_, _, rd_s2 _ e0 (by omega) e1 (by omega) (Or.inr ⟨e2, by omega⟩), rfl, ⟨hB0, hB1, hB2, by omega, by omega⟩, ⟨hR0, hR1, by omega, by omega⟩, (xa_upf_b (xa_upf_b (xa_upf_b hnu hvb0) hvb1) hvb2)⟩, hn, fr⟩
                                · skip
                                  exfalso; omega
                              · skip
                                refine xa_iconst (pc := 86) dX2_readsItem_86 ?_
                                refine xa_ireturn (pc := 87) dX2_readsItem_87 rfl (Or.inl rfl) ?_
                                have e0 : rd_num n f (p + 1) = some (v0, a0) := z0.resolve_left (fun q => by have := q.2; unfold sp_isd at this; omega) |> fun q => q
                                have e1 : rd_num n f (a0 + 1) = some (v1, a1) := z1.resolve_left (fun q => by have := q.2; unfold sp_isd at this; omega) |> fun q => q
                                have y2 : rd_num n f (a1 + 1) = none ∨ rd_num n f (a1 + 1) = some (v2, a2) := z2.imp (fun q => q.1) (fun q => q)
                                exact ⟨Or.inr ⟨_, _, rd_s2 _ e0 (by omega) e1 (by omega) (y2.imp (fun q => q) (fun q => ⟨q, c_68⟩)), rfl, ⟨hB0, hB1, hB2, by omega, by omega⟩, ⟨hR0, hR1, by omega, by omega⟩, (xa_upf_b (xa_upf_b (xa_upf_b hnu hvb0) hvb1) hvb2)⟩, hn, fr⟩
                            · skip
                              refine xa_aload_n (pc := 71) dX2_readsItem_71 rfl ?_
                              refine xa_iload_n (pc := 72) dX2_readsItem_72 rfl ?_
                              refine xa_iload_n (pc := 73) dX2_readsItem_73 rfl ?_
                              refine xa_iconst (pc := 74) dX2_readsItem_74 ?_
                              refine xa_iadd (pc := 75) dX2_readsItem_75 ?_
                              refine xa_top (y := 3) (by decide) ?_
                              have hnb := (show ∀ i, -9999 ≤ (xa_upf (xa_upf (xa_upf nu 0 v0) 1 v1) 2 v2) i ∧ (xa_upf (xa_upf (xa_upf nu 0 v0) 1 v1) 2 v2) i ≤ 9999 from (xa_upf_b (xa_upf_b (xa_upf_b hnu hvb0) hvb1) hvb2))
                              refine xa_callV (pc := 76) (as := [xa_i (sp_at n f ((p : Nat) : Int)), xa_i 3]) (rest := []) dX2_readsItem_76 ⟨qX2_takesItem.1, qX2_takesItem.2.1, qX2_takesItem.2.2, by decide, by decide⟩ lkRX2_49 imX2_takesItem seX2_takesItem rfl rfl (by omega) (by omega) hR0 rfl (Nat.le_of_ble_eq_true rfl) (Nat.zero_le _) (Nat.zero_le _) (c_takesItem _ _ _ _ _ _ _ _ _ _ _ _ _ _ _ (by omega) (by omega) (by omega) ⟨by omega, by omega⟩ (by decide) (by omega) (by omega) ⟨by omega, by omega⟩ hnb hR0 hR1 hW ⟨hB0, hB1, hB2, by omega, by omega⟩) (fun r h' hq => ?_)
                              obtain ⟨hq, hqn, hqf⟩ := hq
                              rcases hq with ⟨b, hit, rfl, hB0, hB1, hB2, -, -⟩ | ⟨hit, rfl, hB0, hB1, hB2, -, -⟩
                              · skip
                                have hR0 : h'.1 k = xa_o 2 [xa_r kt, xa_r kb, xa_r (k + 1), xa_i ((a2 + 1 : Nat) : Int)] := (hqf _ (by omega)).trans hR0
                                have hR1 : h'.1 (k + 1) = xa_a 3 (xa_upf (xa_upf (xa_upf nu 0 v0) 1 v1) 2 v2) := (hqf _ (by omega)).trans hR1
                                have hW : h'.1 1 = xa_a 8 xa_wagf := (hqf _ (by omega)).trans hW
                                have hT0 : h'.1 kt = xa_o 7 [xa_r (kt + 1), xa_i ((n : Nat) : Int)] := (hqf _ (by omega)).trans hT0
                                have hT1 : h'.1 (kt + 1) = xa_a 120 f := (hqf _ (by omega)).trans hT1
                                have hn : h'.2 = h.2 := hqn.trans hn
                                have fr : ∀ i, ((i < kb ∨ kb + 3 ≤ i) ∧ (i < k ∨ k + 2 ≤ i)) → h'.1 i = h.1 i := fun i hi => (hqf i (by omega)).trans (fr i hi)
                                refine xa_ireturn (pc := 79) dX2_readsItem_79 rfl (Or.inr rfl) ?_
                                have e0 : rd_num n f (p + 1) = some (v0, a0) := z0.resolve_left (fun q => by have := q.2; unfold sp_isd at this; omega) |> fun q => q
                                have e1 : rd_num n f (a0 + 1) = some (v1, a1) := z1.resolve_left (fun q => by have := q.2; unfold sp_isd at this; omega) |> fun q => q
                                have e2 : rd_num n f (a1 + 1) = some (v2, a2) := z2.resolve_left (fun q => by have := q.2; unfold sp_isd at this; omega) |> fun q => q
                                have ee := rd_e2 (ld, dg, pa, jo, wa, sr, pu, ri) (nu := nu) e0 (by omega) e1 (by omega) e2 (by omega)
                                have hit := (show rd_bt (ld, dg, pa, jo, wa, sr, pu, ri) (sp_at n f ((p : Nat) : Int)) 3 (xa_upf (xa_upf (xa_upf nu 0 v0) 1 v1) 2 v2) = _ from hit)
                                rw [hit] at ee
                                exact ⟨Or.inl ⟨_, b, _, ee, rfl, ⟨hB0, hB1, hB2, by omega, by omega⟩, ⟨hR0, hR1, by omega, by omega⟩, (xa_upf_b (xa_upf_b (xa_upf_b hnu hvb0) hvb1) hvb2)⟩, hn, fr⟩
                              · skip
                                have hR0 : h'.1 k = xa_o 2 [xa_r kt, xa_r kb, xa_r (k + 1), xa_i ((a2 + 1 : Nat) : Int)] := (hqf _ (by omega)).trans hR0
                                have hR1 : h'.1 (k + 1) = xa_a 3 (xa_upf (xa_upf (xa_upf nu 0 v0) 1 v1) 2 v2) := (hqf _ (by omega)).trans hR1
                                have hW : h'.1 1 = xa_a 8 xa_wagf := (hqf _ (by omega)).trans hW
                                have hT0 : h'.1 kt = xa_o 7 [xa_r (kt + 1), xa_i ((n : Nat) : Int)] := (hqf _ (by omega)).trans hT0
                                have hT1 : h'.1 (kt + 1) = xa_a 120 f := (hqf _ (by omega)).trans hT1
                                have hn : h'.2 = h.2 := hqn.trans hn
                                have fr : ∀ i, ((i < kb ∨ kb + 3 ≤ i) ∧ (i < k ∨ k + 2 ≤ i)) → h'.1 i = h.1 i := fun i hi => (hqf i (by omega)).trans (fr i hi)
                                refine xa_ireturn (pc := 79) dX2_readsItem_79 rfl (Or.inl rfl) ?_
                                have e0 : rd_num n f (p + 1) = some (v0, a0) := z0.resolve_left (fun q => by have := q.2; unfold sp_isd at this; omega) |> fun q => q
                                have e1 : rd_num n f (a0 + 1) = some (v1, a1) := z1.resolve_left (fun q => by have := q.2; unfold sp_isd at this; omega) |> fun q => q
                                have e2 : rd_num n f (a1 + 1) = some (v2, a2) := z2.resolve_left (fun q => by have := q.2; unfold sp_isd at this; omega) |> fun q => q
                                have ee := rd_e2 (ld, dg, pa, jo, wa, sr, pu, ri) (nu := nu) e0 (by omega) e1 (by omega) e2 (by omega)
                                have hit := (show rd_bt (ld, dg, pa, jo, wa, sr, pu, ri) (sp_at n f ((p : Nat) : Int)) 3 (xa_upf (xa_upf (xa_upf nu 0 v0) 1 v1) 2 v2) = _ from hit)
                                rw [hit] at ee
                                exact ⟨Or.inr ⟨_, _, ee, rfl, ⟨hB0, hB1, hB2, by omega, by omega⟩, ⟨hR0, hR1, by omega, by omega⟩, (xa_upf_b (xa_upf_b (xa_upf_b hnu hvb0) hvb1) hvb2)⟩, hn, fr⟩
                          · skip
                            exfalso; omega
                        · skip
                          have hW : h'.1 1 = xa_a 8 xa_wagf := (hqf _ (by omega)).trans hW
                          have hT0 : h'.1 kt = xa_o 7 [xa_r (kt + 1), xa_i ((n : Nat) : Int)] := (hqf _ (by omega)).trans hT0
                          have hT1 : h'.1 (kt + 1) = xa_a 120 f := (hqf _ (by omega)).trans hT1
                          have hB0 : h'.1 kb = xa_o 0 [xa_r (kb + 1), xa_r (kb + 2), xa_i ((pa : Nat) : Int), xa_i ((jo : Nat) : Int), xa_i wa, xa_i sr, xa_i pu, xa_i ri] := (hqf _ (by omega)).trans hB0
                          have hB1 : h'.1 (kb + 1) = xa_a 9 ld := (hqf _ (by omega)).trans hB1
                          have hB2 : h'.1 (kb + 2) = xa_a 2 dg := (hqf _ (by omega)).trans hB2
                          have hn : h'.2 = h.2 := hqn.trans hn
                          have fr : ∀ i, ((i < kb ∨ kb + 3 ≤ i) ∧ (i < k ∨ k + 2 ≤ i)) → h'.1 i = h.1 i := fun i hi => (hqf i (by omega)).trans (fr i hi)
                          refine xa_if_ne (pc := 38) (tgt := 43) dX2_readsItem_38 (by decide) (by decide) (fun c_38 => ?_) (fun c_38 => ?_)
                          · skip
                            exfalso; omega
                          · skip
                            refine xa_iconst (pc := 41) dX2_readsItem_41 ?_
                            refine xa_ireturn (pc := 42) dX2_readsItem_42 rfl (Or.inl rfl) ?_
                            have e0 : rd_num n f (p + 1) = some (v0, a0) := z0.resolve_left (fun q => by have := q.2; unfold sp_isd at this; omega) |> fun q => q
                            have e1 : rd_num n f (a0 + 1) = some (v1, a1) := z1.resolve_left (fun q => by have := q.2; unfold sp_isd at this; omega) |> fun q => q
                            have zn2 : rd_num n f (a1 + 1) = none := rd_num_no hm2 hd2 hs2 ho2
                            exact ⟨Or.inr ⟨_, _, rd_s2 (a2 := 0) (v2 := 0) _ e0 (by omega) e1 (by omega) (Or.inl zn2), rfl, ⟨hB0, hB1, hB2, by omega, by omega⟩, ⟨hR0, hR1, by omega, by omega⟩, (xa_upf_b (xa_upf_b hnu hvb0) hvb1)⟩, hn, fr⟩
                    · skip
                      refine xa_iconst (pc := 86) dX2_readsItem_86 ?_
                      refine xa_ireturn (pc := 87) dX2_readsItem_87 rfl (Or.inl rfl) ?_
                      have e0 : rd_num n f (p + 1) = some (v0, a0) := z0.resolve_left (fun q => by have := q.2; unfold sp_isd at this; omega) |> fun q => q
                      have y1 : rd_num n f (a0 + 1) = none ∨ rd_num n f (a0 + 1) = some (v1, a1) := z1.imp (fun q => q.1) (fun q => q)
                      exact ⟨Or.inr ⟨_, _, rd_s1 _ e0 (by omega) y1 c_83, rfl, ⟨hB0, hB1, hB2, by omega, by omega⟩, ⟨hR0, hR1, by omega, by omega⟩, (xa_upf_b (xa_upf_b hnu hvb0) hvb1)⟩, hn, fr⟩
                  · skip
                    refine xa_aload_n (pc := 71) dX2_readsItem_71 rfl ?_
                    refine xa_iload_n (pc := 72) dX2_readsItem_72 rfl ?_
                    refine xa_iload_n (pc := 73) dX2_readsItem_73 rfl ?_
                    refine xa_iconst (pc := 74) dX2_readsItem_74 ?_
                    refine xa_iadd (pc := 75) dX2_readsItem_75 ?_
                    refine xa_top (y := 2) (by decide) ?_
                    have hnb := (show ∀ i, -9999 ≤ (xa_upf (xa_upf nu 0 v0) 1 v1) i ∧ (xa_upf (xa_upf nu 0 v0) 1 v1) i ≤ 9999 from (xa_upf_b (xa_upf_b hnu hvb0) hvb1))
                    refine xa_callV (pc := 76) (as := [xa_i (sp_at n f ((p : Nat) : Int)), xa_i 2]) (rest := []) dX2_readsItem_76 ⟨qX2_takesItem.1, qX2_takesItem.2.1, qX2_takesItem.2.2, by decide, by decide⟩ lkRX2_49 imX2_takesItem seX2_takesItem rfl rfl (by omega) (by omega) hR0 rfl (Nat.le_of_ble_eq_true rfl) (Nat.zero_le _) (Nat.zero_le _) (c_takesItem _ _ _ _ _ _ _ _ _ _ _ _ _ _ _ (by omega) (by omega) (by omega) ⟨by omega, by omega⟩ (by decide) (by omega) (by omega) ⟨by omega, by omega⟩ hnb hR0 hR1 hW ⟨hB0, hB1, hB2, by omega, by omega⟩) (fun r h' hq => ?_)
                    obtain ⟨hq, hqn, hqf⟩ := hq
                    rcases hq with ⟨b, hit, rfl, hB0, hB1, hB2, -, -⟩ | ⟨hit, rfl, hB0, hB1, hB2, -, -⟩
                    · skip
                      have hR0 : h'.1 k = xa_o 2 [xa_r kt, xa_r kb, xa_r (k + 1), xa_i ((a1 + 1 : Nat) : Int)] := (hqf _ (by omega)).trans hR0
                      have hR1 : h'.1 (k + 1) = xa_a 3 (xa_upf (xa_upf nu 0 v0) 1 v1) := (hqf _ (by omega)).trans hR1
                      have hW : h'.1 1 = xa_a 8 xa_wagf := (hqf _ (by omega)).trans hW
                      have hT0 : h'.1 kt = xa_o 7 [xa_r (kt + 1), xa_i ((n : Nat) : Int)] := (hqf _ (by omega)).trans hT0
                      have hT1 : h'.1 (kt + 1) = xa_a 120 f := (hqf _ (by omega)).trans hT1
                      have hn : h'.2 = h.2 := hqn.trans hn
                      have fr : ∀ i, ((i < kb ∨ kb + 3 ≤ i) ∧ (i < k ∨ k + 2 ≤ i)) → h'.1 i = h.1 i := fun i hi => (hqf i (by omega)).trans (fr i hi)
                      refine xa_ireturn (pc := 79) dX2_readsItem_79 rfl (Or.inr rfl) ?_
                      have e0 : rd_num n f (p + 1) = some (v0, a0) := z0.resolve_left (fun q => by have := q.2; unfold sp_isd at this; omega) |> fun q => q
                      have e1 : rd_num n f (a0 + 1) = some (v1, a1) := z1.resolve_left (fun q => by have := q.2; unfold sp_isd at this; omega) |> fun q => q
                      have ee := rd_e1 (ld, dg, pa, jo, wa, sr, pu, ri) (xa_upf (xa_upf nu 0 v0) 1 v1) e0 (by omega) e1 (by omega)
                      have hit := (show rd_bt (ld, dg, pa, jo, wa, sr, pu, ri) (sp_at n f ((p : Nat) : Int)) 2 (xa_upf (xa_upf nu 0 v0) 1 v1) = _ from hit)
                      rw [hit] at ee
                      exact ⟨Or.inl ⟨_, b, _, ee, rfl, ⟨hB0, hB1, hB2, by omega, by omega⟩, ⟨hR0, hR1, by omega, by omega⟩, (xa_upf_b (xa_upf_b hnu hvb0) hvb1)⟩, hn, fr⟩
                    · skip
                      have hR0 : h'.1 k = xa_o 2 [xa_r kt, xa_r kb, xa_r (k + 1), xa_i ((a1 + 1 : Nat) : Int)] := (hqf _ (by omega)).trans hR0
                      have hR1 : h'.1 (k + 1) = xa_a 3 (xa_upf (xa_upf nu 0 v0) 1 v1) := (hqf _ (by omega)).trans hR1
                      have hW : h'.1 1 = xa_a 8 xa_wagf := (hqf _ (by omega)).trans hW
                      have hT0 : h'.1 kt = xa_o 7 [xa_r (kt + 1), xa_i ((n : Nat) : Int)] := (hqf _ (by omega)).trans hT0
                      have hT1 : h'.1 (kt + 1) = xa_a 120 f := (hqf _ (by omega)).trans hT1
                      have hn : h'.2 = h.2 := hqn.trans hn
                      have fr : ∀ i, ((i < kb ∨ kb + 3 ≤ i) ∧ (i < k ∨ k + 2 ≤ i)) → h'.1 i = h.1 i := fun i hi => (hqf i (by omega)).trans (fr i hi)
                      refine xa_ireturn (pc := 79) dX2_readsItem_79 rfl (Or.inl rfl) ?_
                      have e0 : rd_num n f (p + 1) = some (v0, a0) := z0.resolve_left (fun q => by have := q.2; unfold sp_isd at this; omega) |> fun q => q
                      have e1 : rd_num n f (a0 + 1) = some (v1, a1) := z1.resolve_left (fun q => by have := q.2; unfold sp_isd at this; omega) |> fun q => q
                      have ee := rd_e1 (ld, dg, pa, jo, wa, sr, pu, ri) (xa_upf (xa_upf nu 0 v0) 1 v1) e0 (by omega) e1 (by omega)
                      have hit := (show rd_bt (ld, dg, pa, jo, wa, sr, pu, ri) (sp_at n f ((p : Nat) : Int)) 2 (xa_upf (xa_upf nu 0 v0) 1 v1) = _ from hit)
                      rw [hit] at ee
                      exact ⟨Or.inr ⟨_, _, ee, rfl, ⟨hB0, hB1, hB2, by omega, by omega⟩, ⟨hR0, hR1, by omega, by omega⟩, (xa_upf_b (xa_upf_b hnu hvb0) hvb1)⟩, hn, fr⟩
                · skip
                  exfalso; omega
              · skip
                have hW : h'.1 1 = xa_a 8 xa_wagf := (hqf _ (by omega)).trans hW
                have hT0 : h'.1 kt = xa_o 7 [xa_r (kt + 1), xa_i ((n : Nat) : Int)] := (hqf _ (by omega)).trans hT0
                have hT1 : h'.1 (kt + 1) = xa_a 120 f := (hqf _ (by omega)).trans hT1
                have hB0 : h'.1 kb = xa_o 0 [xa_r (kb + 1), xa_r (kb + 2), xa_i ((pa : Nat) : Int), xa_i ((jo : Nat) : Int), xa_i wa, xa_i sr, xa_i pu, xa_i ri] := (hqf _ (by omega)).trans hB0
                have hB1 : h'.1 (kb + 1) = xa_a 9 ld := (hqf _ (by omega)).trans hB1
                have hB2 : h'.1 (kb + 2) = xa_a 2 dg := (hqf _ (by omega)).trans hB2
                have hn : h'.2 = h.2 := hqn.trans hn
                have fr : ∀ i, ((i < kb ∨ kb + 3 ≤ i) ∧ (i < k ∨ k + 2 ≤ i)) → h'.1 i = h.1 i := fun i hi => (hqf i (by omega)).trans (fr i hi)
                refine xa_if_ne (pc := 38) (tgt := 43) dX2_readsItem_38 (by decide) (by decide) (fun c_38 => ?_) (fun c_38 => ?_)
                · skip
                  exfalso; omega
                · skip
                  refine xa_iconst (pc := 41) dX2_readsItem_41 ?_
                  refine xa_ireturn (pc := 42) dX2_readsItem_42 rfl (Or.inl rfl) ?_
                  have e0 : rd_num n f (p + 1) = some (v0, a0) := z0.resolve_left (fun q => by have := q.2; unfold sp_isd at this; omega) |> fun q => q
                  have zn1 : rd_num n f (a0 + 1) = none := rd_num_no hm1 hd1 hs1 ho1
                  exact ⟨Or.inr ⟨_, _, rd_no1 _ e0 (by omega) zn1, rfl, ⟨hB0, hB1, hB2, by omega, by omega⟩, ⟨hR0, hR1, by omega, by omega⟩, (xa_upf_b hnu hvb0)⟩, hn, fr⟩
          · skip
            refine xa_iconst (pc := 86) dX2_readsItem_86 ?_
            refine xa_ireturn (pc := 87) dX2_readsItem_87 rfl (Or.inl rfl) ?_
            have y0 : rd_num n f (p + 1) = none ∨ rd_num n f (p + 1) = some (v0, a0) := z0.imp (fun q => q.1) (fun q => q)
            exact ⟨Or.inr ⟨_, _, rd_s0 _ y0 c_83 c_68, rfl, ⟨hB0, hB1, hB2, by omega, by omega⟩, ⟨hR0, hR1, by omega, by omega⟩, (xa_upf_b hnu hvb0)⟩, hn, fr⟩
        · skip
          refine xa_aload_n (pc := 71) dX2_readsItem_71 rfl ?_
          refine xa_iload_n (pc := 72) dX2_readsItem_72 rfl ?_
          refine xa_iload_n (pc := 73) dX2_readsItem_73 rfl ?_
          refine xa_iconst (pc := 74) dX2_readsItem_74 ?_
          refine xa_iadd (pc := 75) dX2_readsItem_75 ?_
          refine xa_top (y := 1) (by decide) ?_
          have hnb := (show ∀ i, -9999 ≤ (xa_upf nu 0 v0) i ∧ (xa_upf nu 0 v0) i ≤ 9999 from (xa_upf_b hnu hvb0))
          refine xa_callV (pc := 76) (as := [xa_i (sp_at n f ((p : Nat) : Int)), xa_i 1]) (rest := []) dX2_readsItem_76 ⟨qX2_takesItem.1, qX2_takesItem.2.1, qX2_takesItem.2.2, by decide, by decide⟩ lkRX2_49 imX2_takesItem seX2_takesItem rfl rfl (by omega) (by omega) hR0 rfl (Nat.le_of_ble_eq_true rfl) (Nat.zero_le _) (Nat.zero_le _) (c_takesItem _ _ _ _ _ _ _ _ _ _ _ _ _ _ _ (by omega) (by omega) (by omega) ⟨by omega, by omega⟩ (by decide) (by omega) (by omega) ⟨by omega, by omega⟩ hnb hR0 hR1 hW ⟨hB0, hB1, hB2, by omega, by omega⟩) (fun r h' hq => ?_)
          obtain ⟨hq, hqn, hqf⟩ := hq
          rcases hq with ⟨b, hit, rfl, hB0, hB1, hB2, -, -⟩ | ⟨hit, rfl, hB0, hB1, hB2, -, -⟩
          · skip
            have hR0 : h'.1 k = xa_o 2 [xa_r kt, xa_r kb, xa_r (k + 1), xa_i ((a0 + 1 : Nat) : Int)] := (hqf _ (by omega)).trans hR0
            have hR1 : h'.1 (k + 1) = xa_a 3 (xa_upf nu 0 v0) := (hqf _ (by omega)).trans hR1
            have hW : h'.1 1 = xa_a 8 xa_wagf := (hqf _ (by omega)).trans hW
            have hT0 : h'.1 kt = xa_o 7 [xa_r (kt + 1), xa_i ((n : Nat) : Int)] := (hqf _ (by omega)).trans hT0
            have hT1 : h'.1 (kt + 1) = xa_a 120 f := (hqf _ (by omega)).trans hT1
            have hn : h'.2 = h.2 := hqn.trans hn
            have fr : ∀ i, ((i < kb ∨ kb + 3 ≤ i) ∧ (i < k ∨ k + 2 ≤ i)) → h'.1 i = h.1 i := fun i hi => (hqf i (by omega)).trans (fr i hi)
            refine xa_ireturn (pc := 79) dX2_readsItem_79 rfl (Or.inr rfl) ?_
            have e0 : rd_num n f (p + 1) = some (v0, a0) := z0.resolve_left (fun q => by have := q.2; unfold sp_isd at this; omega) |> fun q => q
            have ee := rd_e0 (ld, dg, pa, jo, wa, sr, pu, ri) (nu := nu) e0 (by omega)
            have hit := (show rd_bt (ld, dg, pa, jo, wa, sr, pu, ri) (sp_at n f ((p : Nat) : Int)) 1 (xa_upf nu 0 v0) = _ from hit)
            rw [hit] at ee
            exact ⟨Or.inl ⟨_, b, _, ee, rfl, ⟨hB0, hB1, hB2, by omega, by omega⟩, ⟨hR0, hR1, by omega, by omega⟩, (xa_upf_b hnu hvb0)⟩, hn, fr⟩
          · skip
            have hR0 : h'.1 k = xa_o 2 [xa_r kt, xa_r kb, xa_r (k + 1), xa_i ((a0 + 1 : Nat) : Int)] := (hqf _ (by omega)).trans hR0
            have hR1 : h'.1 (k + 1) = xa_a 3 (xa_upf nu 0 v0) := (hqf _ (by omega)).trans hR1
            have hW : h'.1 1 = xa_a 8 xa_wagf := (hqf _ (by omega)).trans hW
            have hT0 : h'.1 kt = xa_o 7 [xa_r (kt + 1), xa_i ((n : Nat) : Int)] := (hqf _ (by omega)).trans hT0
            have hT1 : h'.1 (kt + 1) = xa_a 120 f := (hqf _ (by omega)).trans hT1
            have hn : h'.2 = h.2 := hqn.trans hn
            have fr : ∀ i, ((i < kb ∨ kb + 3 ≤ i) ∧ (i < k ∨ k + 2 ≤ i)) → h'.1 i = h.1 i := fun i hi => (hqf i (by omega)).trans (fr i hi)
            refine xa_ireturn (pc := 79) dX2_readsItem_79 rfl (Or.inl rfl) ?_
            have e0 : rd_num n f (p + 1) = some (v0, a0) := z0.resolve_left (fun q => by have := q.2; unfold sp_isd at this; omega) |> fun q => q
            have ee := rd_e0 (ld, dg, pa, jo, wa, sr, pu, ri) (nu := nu) e0 (by omega)
            have hit := (show rd_bt (ld, dg, pa, jo, wa, sr, pu, ri) (sp_at n f ((p : Nat) : Int)) 1 (xa_upf nu 0 v0) = _ from hit)
            rw [hit] at ee
            exact ⟨Or.inr ⟨_, _, ee, rfl, ⟨hB0, hB1, hB2, by omega, by omega⟩, ⟨hR0, hR1, by omega, by omega⟩, (xa_upf_b hnu hvb0)⟩, hn, fr⟩
      · skip
        exfalso; omega
    · skip
      have hW : h'.1 1 = xa_a 8 xa_wagf := (hqf _ (by omega)).trans hW
      have hT0 : h'.1 kt = xa_o 7 [xa_r (kt + 1), xa_i ((n : Nat) : Int)] := (hqf _ (by omega)).trans hT0
      have hT1 : h'.1 (kt + 1) = xa_a 120 f := (hqf _ (by omega)).trans hT1
      have hB0 : h'.1 kb = xa_o 0 [xa_r (kb + 1), xa_r (kb + 2), xa_i ((pa : Nat) : Int), xa_i ((jo : Nat) : Int), xa_i wa, xa_i sr, xa_i pu, xa_i ri] := (hqf _ (by omega)).trans hB0
      have hB1 : h'.1 (kb + 1) = xa_a 9 ld := (hqf _ (by omega)).trans hB1
      have hB2 : h'.1 (kb + 2) = xa_a 2 dg := (hqf _ (by omega)).trans hB2
      have hn : h'.2 = h.2 := hqn.trans hn
      have fr : ∀ i, ((i < kb ∨ kb + 3 ≤ i) ∧ (i < k ∨ k + 2 ≤ i)) → h'.1 i = h.1 i := fun i hi => (hqf i (by omega)).trans (fr i hi)
      refine xa_if_ne (pc := 38) (tgt := 43) dX2_readsItem_38 (by decide) (by decide) (fun c_38 => ?_) (fun c_38 => ?_)
      · skip
        exfalso; omega
      · skip
        refine xa_iconst (pc := 41) dX2_readsItem_41 ?_
        refine xa_ireturn (pc := 42) dX2_readsItem_42 rfl (Or.inl rfl) ?_
        have zn0 : rd_num n f (p + 1) = none := rd_num_no hm0 hd0 hs0 ho0
        exact ⟨Or.inr ⟨_, _, rd_no0 _ zn0, rfl, ⟨hB0, hB1, hB2, by omega, by omega⟩, ⟨hR0, hR1, by omega, by omega⟩, hnu⟩, hn, fr⟩
