/-! Bits; Table: the small ones -/
theorem xa_nI {n : Nat} (h : n < 2 ^ 31) : Int32.ofInt ((n : Nat) : Int) = nI n := by
  rw [← Int32.toInt_inj, xa_toInt ⟨by omega, by omega⟩, nI_toInt h]
theorem xa_and_mod {n : Nat} (h : n < 2 ^ 31) (k : Nat) {m : Int} (hm : (Int32.ofInt m).toBitVec.toNat = 2 ^ k - 1) : xa_and ((n : Nat) : Int) m = ((n % 2 ^ k : Nat) : Int) := by
  unfold xa_and
  rw [xa_nI h, pk_andN (by omega) k hm, nI_toInt (Nat.lt_of_le_of_lt (Nat.mod_le _ _) h)]
theorem xa_and_i {x : Int} (h : 0 ≤ x ∧ x < 2147483648) (k : Nat) {m : Int} (hm : (Int32.ofInt m).toBitVec.toNat = 2 ^ k - 1) : xa_and x m = ((x.toNat % 2 ^ k : Nat) : Int) := by
  have e : x = ((x.toNat : Nat) : Int) := by omega
  have := xa_and_mod (n := x.toNat) (by omega) k hm
  rw [← e] at this
  exact this
theorem xa_shr_div {n : Nat} (h : n < 2 ^ 31) (y : Int) (k : Nat) (hs : ((Int32.ofInt y &&& 31).toBitVec.smod 32).toNat = k) : xa_shr ((n : Nat) : Int) y = ((n / 2 ^ k : Nat) : Int) := by
  unfold xa_shr
  rw [xa_nI h, pk_shrN h _ k hs, nI_toInt (Nat.lt_of_le_of_lt (Nat.div_le_self _ _) h)]
theorem xa_shl_mul {n : Nat} (y : Int) (k : Nat) (hs : ((Int32.ofInt y &&& 31).toBitVec.smod 32).toNat = k) (h0 : n < 2 ^ 31) (h : n * 2 ^ k < 2 ^ 31) : xa_shl ((n : Nat) : Int) y = ((n * 2 ^ k : Nat) : Int) := by
  unfold xa_shl
  rw [xa_nI h0, pk_shlN _ k hs (by omega), nI_toInt h]
theorem xa_or_nat {a b : Nat} (ha : a < 2 ^ 31) (hb : b < 2 ^ 31) : xa_or ((a : Nat) : Int) ((b : Nat) : Int) = ((a ||| b : Nat) : Int) := by
  have hc : a ||| b < 2 ^ 31 := Nat.or_lt_two_pow ha hb
  unfold xa_or
  rw [xa_nI ha, xa_nI hb]
  have e : nI a ||| nI b = nI (a ||| b) := by
    rw [← Int32.toBitVec_inj]
    apply BitVec.eq_of_toNat_eq
    rw [Int32.toBitVec_or, BitVec.toNat_or, pk_tn (by omega), pk_tn (by omega), pk_tn (by omega)]
  rw [e, nI_toInt hc]
/-- disjoint bits are added -/
theorem xa_or_add {a b k : Nat} (ha : a * 2 ^ k < 2 ^ 31) (hb : b < 2 ^ k) (hb2 : b < 2 ^ 31) : xa_or ((b : Nat) : Int) ((a * 2 ^ k : Nat) : Int) = ((a * 2 ^ k + b : Nat) : Int) ∧ xa_or ((a * 2 ^ k : Nat) : Int) ((b : Nat) : Int) = ((a * 2 ^ k + b : Nat) : Int) := by
  have e : a * 2 ^ k + b = a * 2 ^ k ||| b := by
    rw [Nat.mul_comm]
    exact Nat.two_pow_add_eq_or_of_lt hb a
  rw [xa_or_nat hb2 ha, xa_or_nat ha hb2, e, Nat.or_comm]
  exact ⟨rfl, rfl⟩

theorem c_moveOf {G : xa_G} {h : xa_H} (x : Nat) (hx : x < 2 ^ 31)  : xa_M G mX6_moveOf [xa_i ((x : Nat) : Int)] h 0 0 (fun r h' => r = some (xa_i ((x % 32 : Nat) : Int)) ∧ h' = h) := by
  refine xa_enter (by decide +kernel) (Nat.le_of_ble_eq_true rfl) ?_
  refine xa_locals (ls' := [some (xa_i ((x : Nat) : Int))]) rfl ?_
  refine xa_iload_n (pc := 0) dX6_moveOf_0 rfl ?_
  refine xa_bipush (pc := 1) dX6_moveOf_1 rfl ?_
  refine xa_iand (pc := 3) dX6_moveOf_3 ?_
  refine xa_ireturn (pc := 4) dX6_moveOf_4 rfl trivial ?_
  exact ⟨congrArg (fun z => some (xa_i z)) (show xa_and ((x : Nat) : Int) 31 = ((x % 32 : Nat) : Int) by (exact xa_and_mod hx 5 (by decide))), rfl⟩
theorem c_shapeOf {G : xa_G} {h : xa_H} (x : Nat) (hx : x < 2 ^ 31)  : xa_M G mX6_shapeOf [xa_i ((x : Nat) : Int)] h 0 0 (fun r h' => r = some (xa_i ((x / 32 % 2048 : Nat) : Int)) ∧ h' = h) := by
  refine xa_enter (by decide +kernel) (Nat.le_of_ble_eq_true rfl) ?_
  refine xa_locals (ls' := [some (xa_i ((x : Nat) : Int))]) rfl ?_
  refine xa_iload_n (pc := 0) dX6_shapeOf_0 rfl ?_
  refine xa_iconst (pc := 1) dX6_shapeOf_1 ?_
  refine xa_ishr (pc := 2) dX6_shapeOf_2 ?_
  refine xa_sipush (pc := 3) dX6_shapeOf_3 rfl ?_
  refine xa_iand (pc := 6) dX6_shapeOf_6 ?_
  refine xa_ireturn (pc := 7) dX6_shapeOf_7 rfl trivial ?_
  exact ⟨congrArg (fun z => some (xa_i z)) (show xa_and (xa_shr ((x : Nat) : Int) 5) 2047 = ((x / 32 % 2048 : Nat) : Int) by (rw [xa_shr_div hx 5 5 (by decide)]; exact xa_and_mod (by omega) 11 (by decide))), rfl⟩
theorem c_angleOf {G : xa_G} {h : xa_H} (x : Nat) (hx : x < 2 ^ 31)  : xa_M G mX6_angleOf [xa_i ((x : Nat) : Int)] h 0 0 (fun r h' => r = some (xa_i ((x / 65536 : Nat) : Int)) ∧ h' = h) := by
  refine xa_enter (by decide +kernel) (Nat.le_of_ble_eq_true rfl) ?_
  refine xa_locals (ls' := [some (xa_i ((x : Nat) : Int))]) rfl ?_
  refine xa_iload_n (pc := 0) dX6_angleOf_0 rfl ?_
  refine xa_bipush (pc := 1) dX6_angleOf_1 rfl ?_
  refine xa_ishr (pc := 3) dX6_angleOf_3 ?_
  refine xa_ireturn (pc := 4) dX6_angleOf_4 rfl trivial ?_
  exact ⟨congrArg (fun z => some (xa_i z)) (show xa_shr ((x : Nat) : Int) 16 = ((x / 65536 : Nat) : Int) by (exact xa_shr_div hx 16 16 (by decide))), rfl⟩
theorem c_isStraightAt {G : xa_G} {h : xa_H} (k kb kbr kam : Nat) (sj : Int) (pl lw br am : Nat → Int) (nb na ns : Nat) (fs lst : Int) (hk : 2 ≤ k) (hkn : k + 7 < h.2) (hkbr : 2 ≤ kbr) (hkbr2 : kbr < h.2) (n : Int) (hn : xa_ok n) (hf : xa_ok fs) (hl : xa_ok lst) (hT0 : h.1 k = xa_o 6 [xa_r kb, xa_r (k + 5), xa_i sj, xa_r (k + 1), xa_r (k + 2), xa_i ((ns : Nat) : Int), xa_i fs, xa_i lst, xa_r kbr, xa_r kam]) (hT1 : h.1 (k + 1) = xa_a 2 pl) (hT2 : h.1 (k + 2) = xa_a 2 lw) (hT3 : h.1 kbr = xa_a nb br) (hT4 : h.1 kam = xa_a na am) : xa_M G mX6_isStraightAt [xa_r k, xa_i n] h 0 0 (fun r h' => r = some (xa_i (xa_b (fs ≤ n ∧ n ≤ lst))) ∧ h' = h) := by
  refine xa_enter (by decide +kernel) (Nat.le_of_ble_eq_true rfl) ?_
  refine xa_locals (ls' := [some (xa_r k), some (xa_i n)]) rfl ?_
  refine xa_iload_n (pc := 0) dX6_isStraightAt_0 rfl ?_
  refine xa_aload_n (pc := 1) dX6_isStraightAt_1 rfl ?_
  refine xa_getfield (pc := 2) dX6_isStraightAt_2 flRX6_82 (by omega) (by omega) hT0 rfl ?_
  refine xa_icmp_lt (pc := 5) (tgt := 20) dX6_isStraightAt_5 (by decide) ⟨by omega, by omega⟩ ⟨by omega, by omega⟩ (fun c_5 => ?_) (fun c_5 => ?_)
  · skip
    refine xa_iconst (pc := 20) dX6_isStraightAt_20 ?_
    refine xa_ireturn (pc := 21) dX6_isStraightAt_21 rfl (Or.inl rfl) ?_
    exact ⟨congrArg (fun z => some (xa_i z)) (xa_bf (by omega)), rfl⟩
  · skip
    refine xa_iload_n (pc := 8) dX6_isStraightAt_8 rfl ?_
    refine xa_aload_n (pc := 9) dX6_isStraightAt_9 rfl ?_
    refine xa_getfield (pc := 10) dX6_isStraightAt_10 flRX6_85 (by omega) (by omega) hT0 rfl ?_
    refine xa_icmp_gt (pc := 13) (tgt := 20) dX6_isStraightAt_13 (by decide) ⟨by omega, by omega⟩ ⟨by omega, by omega⟩ (fun c_13 => ?_) (fun c_13 => ?_)
    · skip
      refine xa_iconst (pc := 20) dX6_isStraightAt_20 ?_
      refine xa_ireturn (pc := 21) dX6_isStraightAt_21 rfl (Or.inl rfl) ?_
      exact ⟨congrArg (fun z => some (xa_i z)) (xa_bf (by omega)), rfl⟩
    · skip
      refine xa_iconst (pc := 16) dX6_isStraightAt_16 ?_
      refine xa_goto (pc := 17) (tgt := 21) dX6_isStraightAt_17 (by decide) ?_
      refine xa_ireturn (pc := 21) dX6_isStraightAt_21 rfl (Or.inr rfl) ?_
      exact ⟨congrArg (fun z => some (xa_i z)) (xa_bt (by omega)), rfl⟩
theorem c_isStiff {G : xa_G} {h : xa_H} (k kb kbr kam : Nat) (sj : Int) (pl lw br am : Nat → Int) (nb na ns : Nat) (fs lst : Int) (hk : 2 ≤ k) (hkn : k + 7 < h.2) (hkbr : 2 ≤ kbr) (hkbr2 : kbr < h.2) (mv : Int) (hm : 0 ≤ mv ∧ mv ≤ 18) (hs : xa_ok sj) (hT0 : h.1 k = xa_o 6 [xa_r kb, xa_r (k + 5), xa_i sj, xa_r (k + 1), xa_r (k + 2), xa_i ((ns : Nat) : Int), xa_i fs, xa_i lst, xa_r kbr, xa_r kam]) (hT1 : h.1 (k + 1) = xa_a 2 pl) (hT2 : h.1 (k + 2) = xa_a 2 lw) (hT3 : h.1 kbr = xa_a nb br) (hT4 : h.1 kam = xa_a na am) : xa_M G mX6_isStiff [xa_r k, xa_i mv] h 0 0 (fun r h' => r = some (xa_i (xa_b ((0 < mv ∧ mv < 10) ∧ (mv - 1) / 2 = sj))) ∧ h' = h) := by
  refine xa_enter (by decide +kernel) (Nat.le_of_ble_eq_true rfl) ?_
  refine xa_locals (ls' := [some (xa_r k), some (xa_i mv)]) rfl ?_
  refine xa_iload_n (pc := 0) dX6_isStiff_0 rfl ?_
  refine xa_if_le (pc := 1) (tgt := 26) dX6_isStiff_1 (by decide) ⟨by omega, by omega⟩ (fun c_1 => ?_) (fun c_1 => ?_)
  · skip
    refine xa_iconst (pc := 26) dX6_isStiff_26 ?_
    refine xa_ireturn (pc := 27) dX6_isStiff_27 rfl (Or.inl rfl) ?_
    exact ⟨congrArg (fun z => some (xa_i z)) (xa_bf (by omega)), rfl⟩
  · skip
    refine xa_iload_n (pc := 4) dX6_isStiff_4 rfl ?_
    refine xa_bipush (pc := 5) dX6_isStiff_5 rfl ?_
    refine xa_icmp_ge (pc := 7) (tgt := 26) dX6_isStiff_7 (by decide) ⟨by omega, by omega⟩ (by decide) (fun c_7 => ?_) (fun c_7 => ?_)
    · skip
      refine xa_iconst (pc := 26) dX6_isStiff_26 ?_
      refine xa_ireturn (pc := 27) dX6_isStiff_27 rfl (Or.inl rfl) ?_
      exact ⟨congrArg (fun z => some (xa_i z)) (xa_bf (by omega)), rfl⟩
    · skip
      refine xa_iload_n (pc := 10) dX6_isStiff_10 rfl ?_
      refine xa_iconst (pc := 11) dX6_isStiff_11 ?_
      refine xa_isub (pc := 12) dX6_isStiff_12 ?_
      refine xa_iconst (pc := 13) dX6_isStiff_13 ?_
      refine xa_idivn (pc := 14) dX6_isStiff_14 ⟨by omega, by omega⟩ (by decide) (by omega) (by omega) ?_
      refine xa_aload_n (pc := 15) dX6_isStiff_15 rfl ?_
      refine xa_getfield (pc := 16) dX6_isStiff_16 flRX6_28 (by omega) (by omega) hT0 rfl ?_
      refine xa_icmp_ne (pc := 19) (tgt := 26) dX6_isStiff_19 (by decide) ⟨by omega, by omega⟩ ⟨by omega, by omega⟩ (fun c_19 => ?_) (fun c_19 => ?_)
      · skip
        refine xa_iconst (pc := 26) dX6_isStiff_26 ?_
        refine xa_ireturn (pc := 27) dX6_isStiff_27 rfl (Or.inl rfl) ?_
        exact ⟨congrArg (fun z => some (xa_i z)) (xa_bf (by omega)), rfl⟩
      · skip
        refine xa_iconst (pc := 22) dX6_isStiff_22 ?_
        refine xa_goto (pc := 23) (tgt := 27) dX6_isStiff_23 (by decide) ?_
        refine xa_ireturn (pc := 27) dX6_isStiff_27 rfl (Or.inr rfl) ?_
        exact ⟨congrArg (fun z => some (xa_i z)) (xa_bt (by omega)), rfl⟩
theorem c_branch {G : xa_G} {h : xa_H} (k kb kbr kam : Nat) (sj : Int) (pl lw br am : Nat → Int) (nb na ns : Nat) (fs lst : Int) (hk : 2 ≤ k) (hkn : k + 7 < h.2) (hkbr : 2 ≤ kbr) (hkbr2 : kbr < h.2) (n i : Nat) (hn : n ≤ 2000) (hi : i ≤ 20) (hnb : nb < 2 ^ 31) (hT0 : h.1 k = xa_o 6 [xa_r kb, xa_r (k + 5), xa_i sj, xa_r (k + 1), xa_r (k + 2), xa_i ((ns : Nat) : Int), xa_i fs, xa_i lst, xa_r kbr, xa_r kam]) (hT1 : h.1 (k + 1) = xa_a 2 pl) (hT2 : h.1 (k + 2) = xa_a 2 lw) (hT3 : h.1 kbr = xa_a nb br) (hT4 : h.1 kam = xa_a na am) : xa_M G mX6_branch [xa_r k, xa_i ((n : Nat) : Int), xa_i ((i : Nat) : Int)] h 0 0 (fun r h' => r = some (xa_i (if n * 11 + i < nb then br (n * 11 + i) else 0)) ∧ h' = h) := by
  refine xa_enter (by decide +kernel) (Nat.le_of_ble_eq_true rfl) ?_
  refine xa_locals (ls' := [some (xa_r k), some (xa_i ((n : Nat) : Int)), some (xa_i ((i : Nat) : Int)), none]) rfl ?_
  refine xa_iload_n (pc := 0) dX6_branch_0 rfl ?_
  refine xa_bipush (pc := 1) dX6_branch_1 rfl ?_
  refine xa_imul (pc := 3) dX6_branch_3 ?_
  refine xa_iload_n (pc := 4) dX6_branch_4 rfl ?_
  refine xa_iadd (pc := 5) dX6_branch_5 ?_
  refine xa_istoren (pc := 6) [some (xa_r k), some (xa_i ((n : Nat) : Int)), some (xa_i ((i : Nat) : Int)), some (xa_i ((((n : Nat) : Int) * 11) + ((i : Nat) : Int)))] dX6_branch_6 (by decide) (Nat.le_of_ble_eq_true rfl) rfl rfl ?_
  refine xa_iload_n (pc := 7) dX6_branch_7 rfl ?_
  refine xa_if_lt (pc := 8) (tgt := 29) dX6_branch_8 (by decide) ⟨by omega, by omega⟩ (fun c_8 => ?_) (fun c_8 => ?_)
  · skip
    refine xa_iconst (pc := 29) dX6_branch_29 ?_
    refine xa_ireturn (pc := 30) dX6_branch_30 rfl trivial ?_
    exact ⟨congrArg (fun z => some (xa_i z)) (show 0 = if n * 11 + i < nb then br (n * 11 + i) else 0 by (first | (rw [if_pos (by omega)]; done) | (rw [if_neg (by omega)]; done))), rfl⟩
  · skip
    refine xa_iload_n (pc := 11) dX6_branch_11 rfl ?_
    refine xa_aload_n (pc := 12) dX6_branch_12 rfl ?_
    refine xa_getfield (pc := 13) dX6_branch_13 flRX6_18 (by omega) (by omega) hT0 rfl ?_
    refine xa_alen (pc := 16) dX6_branch_16 (by omega) hT3 ?_
    refine xa_icmp_ge (pc := 17) (tgt := 29) dX6_branch_17 (by decide) ⟨by omega, by omega⟩ ⟨by omega, by omega⟩ (fun c_17 => ?_) (fun c_17 => ?_)
    · skip
      refine xa_iconst (pc := 29) dX6_branch_29 ?_
      refine xa_ireturn (pc := 30) dX6_branch_30 rfl trivial ?_
      exact ⟨congrArg (fun z => some (xa_i z)) (show 0 = if n * 11 + i < nb then br (n * 11 + i) else 0 by (first | (rw [if_pos (by omega)]; done) | (rw [if_neg (by omega)]; done))), rfl⟩
    · skip
      refine xa_aload_n (pc := 20) dX6_branch_20 rfl ?_
      refine xa_getfield (pc := 21) dX6_branch_21 flRX6_18 (by omega) (by omega) hT0 rfl ?_
      refine xa_iload_n (pc := 24) dX6_branch_24 rfl ?_
      refine xa_ialdw (pc := 25) (n * 11 + i) dX6_branch_25 (by omega) hT3 (by omega) (by omega) (by omega) ?_
      refine xa_goto (pc := 26) (tgt := 30) dX6_branch_26 (by decide) ?_
      refine xa_ireturn (pc := 30) dX6_branch_30 rfl trivial ?_
      exact ⟨congrArg (fun z => some (xa_i z)) (show br (n * 11 + i) = if n * 11 + i < nb then br (n * 11 + i) else 0 by (first | (rw [if_pos (by omega)]; done) | (rw [if_neg (by omega)]; done))), rfl⟩
